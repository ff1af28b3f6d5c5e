theorem dec_s {n : Nat} {p : Int32} (h0 : 0 ≤ p) (h : -1 ≤ p.toInt ∧ p.toInt + 1 < ((n + 1 : Nat) : Int)) : -1 ≤ (p - 1).toInt ∧ (p - 1).toInt + 1 < (n : Int) := by
  rw [Int32.le_iff_toInt_le, Int32.toInt_zero] at h0
  have h2 := p.toInt_lt
  rw [Int32.toInt_sub, show (1 : Int32).toInt = 1 from rfl, Int.bmod_eq_of_le (by omega) (by omega)]
  omega
theorem dec_0 {c : Int32} (h : 0 ≤ c.toInt) : -1 ≤ ((minI c 16) - 1).toInt ∧ ((minI c 16) - 1).toInt + 1 < ((17 : Nat) : Int) := by
  have h2 := c.toInt_lt
  unfold minI
  split
  · decide
  · rename_i hc
    rw [Int32.lt_iff_toInt_lt, show (16 : Int32).toInt = 16 from rfl] at hc
    rw [Int32.toInt_sub, show (1 : Int32).toInt = 1 from rfl, Int.bmod_eq_of_le (by omega) (by omega)]
    omega
theorem hd_X1_decide : yX1_decide.cls ≠ "java/lang/invoke/MethodHandle" ∧ yX1_decide.cls ≠ "java/lang/invoke/VarHandle" ∧ (parseMethodDescriptor yX1_decide.desc).map (fun d => d.parameters.length) = some 3 := by decide +kernel
def f_X1_decide (l_l : Int64) (l_b : Int64) (l_n : Int64) (s_cs : Nat → Int32) (s_ha : Nat → Int32) (s_ro : Nat → Int64) (s_be : Nat → Int64) (s_se : Nat → Int64) (s_co : Nat → Int64) : Nat → Int32 → Int64 → Int32 → (Nat → Int64) → Int32 × (Nat → Int64)
  | 0, p1, p2, l_z, l_a => (l_z, l_a)
  | n + 1, p1, p2, l_z, l_a => (if l_z < 10000 then (if 0 ≤ p1 then (if (lg_cmp (p2 &&& (f_X7_bit (f_X4_sideOfCell p1 3 s_cs))) 0) = 0 then (if (f_X1_fits p1 p2 l_l l_b l_n s_cs s_ha s_ro s_se s_co) = 0 then (if (f_X1_fits p1 (p2 ^^^ (f_X4_roundCell p1 s_ro)) l_l l_b l_n s_cs s_ha s_ro s_se s_co) = 0 then (l_z, l_a) else (bd (f_X1_decide l_l l_b l_n s_cs s_ha s_ro s_be s_se s_co n (p1 - 1) (p2 ^^^ (f_X4_roundCell p1 s_ro)) l_z l_a) (fun u1 => (u1.1, u1.2)))) else (bd (f_X1_decide l_l l_b l_n s_cs s_ha s_ro s_be s_se s_co n (p1 - 1) p2 l_z l_a) (fun u2 => (if (f_X1_fits p1 (p2 ^^^ (f_X4_roundCell p1 s_ro)) l_l l_b l_n s_cs s_ha s_ro s_se s_co) = 0 then (u2.1, u2.2) else (bd (f_X1_decide l_l l_b l_n s_cs s_ha s_ro s_be s_se s_co n (p1 - 1) (p2 ^^^ (f_X4_roundCell p1 s_ro)) u2.1 u2.2) (fun u3 => (u3.1, u3.2))))))) else (if (f_X1_fits p1 (p2 ^^^ (f_X4_roundCell p1 s_ro)) l_l l_b l_n s_cs s_ha s_ro s_se s_co) = 0 then (if (f_X1_fits p1 p2 l_l l_b l_n s_cs s_ha s_ro s_se s_co) = 0 then (l_z, l_a) else (bd (f_X1_decide l_l l_b l_n s_cs s_ha s_ro s_be s_se s_co n (p1 - 1) p2 l_z l_a) (fun u4 => (u4.1, u4.2)))) else (bd (f_X1_decide l_l l_b l_n s_cs s_ha s_ro s_be s_se s_co n (p1 - 1) (p2 ^^^ (f_X4_roundCell p1 s_ro)) l_z l_a) (fun u5 => (if (f_X1_fits p1 p2 l_l l_b l_n s_cs s_ha s_ro s_se s_co) = 0 then (u5.1, u5.2) else (bd (f_X1_decide l_l l_b l_n s_cs s_ha s_ro s_be s_se s_co n (p1 - 1) p2 u5.1 u5.2) (fun u6 => (u6.1, u6.2)))))))) else (bd (f_X1_takeRing p2 l_z s_be l_a) (fun u7 => (u7.1, u7.2)))) else (l_z, l_a))
set_option maxHeartbeats 4000000 in
set_option maxRecDepth 100000 in
theorem c_X1_decide (l : Launch) (D : va_G) (cI cL cZ : ClassId) (ad : Nat → Nat) (c_sr t_n t_r t_w s_w s_h s_c s_p s_s p_nx p_sz r_k r_r r_p q_z : Int32) (t_t b_l b_b b_n r_t l_l l_b l_n q_l q_b q_n : Int64) (t_le s_cs s_ps s_ha s_en pk ik : Nat → Int32) (s_ro s_me s_be s_se s_co pl pb pn il ib im q_a : Nat → Int64) (hAd : cInj ad) : ∀ (d : Nat) (l_z : Int32) (l_a : Nat → Int64) (p1 : Int32) (p2 : Int64) (r : Int32 × (Nat → Int64)) (hr : f_X1_decide l_l l_b l_n s_cs s_ha s_ro s_be s_se s_co d p1 p2 l_z l_a = r) (hd : -1 ≤ p1.toInt ∧ p1.toInt + 1 < (d : Int)), MV l yX1_decide (Cond.code yX1_decide cX1_decide 12 none :: W0) (4 + d) (97 + 31 * d) D cI cL cZ (cAd ad) [.ref (ad 26), .int p1, .long p2] (cw ad cI cL cZ c_sr t_n t_r t_w s_w s_h s_c s_p s_s p_nx p_sz r_k r_r r_p l_z q_z t_t b_l b_b b_n r_t l_l l_b l_n q_l q_b q_n t_le s_cs s_ps s_ha s_en pk ik s_ro s_me s_be s_se s_co pl pb pn il ib im l_a q_a) (cw ad cI cL cZ c_sr t_n t_r t_w s_w s_h s_c s_p s_s p_nx p_sz r_k r_r r_p r.1 q_z t_t b_l b_b b_n r_t l_l l_b l_n q_l q_b q_n t_le s_cs s_ps s_ha s_en pk ik s_ro s_me s_be s_se s_co pl pb pn il ib im r.2 q_a) := by
  intro d
  induction d with
  | zero =>
    intro l_z l_a p1 p2 r hr hd
    exact absurd hd (by omega)
  | succ n ih =>
    intro l_z l_a p1 p2 r hr hd
    refine mk_start (cc := cX1_decide) (maxL := 12) (ret := none) (by decide) rfl (Nat.le_of_ble_eq_true rfl) ?_
    intro p e s m below meth c ls C hP hS hl
    obtain ⟨hx, hb, hml, hrt, hlocks, hown, hts, hk⟩ := C
    have hown : s.vm.findClass RX1 = some m.cls := hown
    have hl : lv_has ls 12 [(0, .ref (ad 26)), (1, .int p1), (2, .long p2)] := hl
    rw [f_X1_decide] at hr
    refine lv_aload_n hx hb dX1_decide_0 rfl (lv_at hl 0 rfl) ?_
    refine va_get (D := D) (ci := 1) (v := .int l_z) (C := RX1) (T := TX1) (N := 6) hx hb hts u_X1 hown hk.1 hP 26 rfl rfl 5 (by decide) (hts _ q1_214) (fun _ h9 => h9) rfl dX1_decide_1 ?_
    refine lv_aload_n hx hb dX1_decide_4 rfl (lv_at hl 0 rfl) ?_
    refine va_get (D := D) (ci := 1) (v := .ref (ad 27)) (C := RX1) (T := TX1) (N := 6) hx hb hts u_X1 hown hk.1 hP 26 rfl rfl 1 (by decide) (hts _ q1_210) (fun _ h9 => h9) rfl dX1_decide_5 ?_
    refine va_alen (v := 10000) hx hb hk.1 hP 27 1 rfl rfl rfl dX1_decide_8 ?_
    refine lv_icmp_lt (tgt := 13) hx hb dX1_decide_9 (by decide) (fun c9 => ?_) (fun c9 => ?_)
    · have hr := (if_pos c9).symm.trans hr
      refine lv_iload_n hx hb dX1_decide_13 rfl (lv_at hl 1 rfl) ?_
      refine lv_if_ge (tgt := 23) hx hb dX1_decide_14 (by decide) (fun c14 => ?_) (fun c14 => ?_)
      · have hr := (if_pos c14).symm.trans hr
        refine lv_aload_n hx hb dX1_decide_23 rfl (lv_at hl 0 rfl) ?_
        refine va_get (D := D) (ci := 1) (v := .ref (ad 3)) (C := RX1) (T := TX1) (N := 6) hx hb hts u_X1 hown hk.1 hP 26 rfl rfl 0 (by decide) (hts _ q1_209) (fun _ h9 => h9) rfl dX1_decide_24 ?_
        refine lv_astore (lv' := [(4, .ref (ad 3)), (0, .ref (ad 26)), (1, .int p1), (2, .long p2)]) hx hb dX1_decide_27 hl (by decide) rfl (fun ls hl => ?_)
        refine lv_lload_n hx hb dX1_decide_29 rfl (lv_at hl 3 rfl) ?_
        refine lv_aload hx hb dX1_decide_30 (lv_at hl 0 rfl) ?_
        refine lv_iload_n hx hb dX1_decide_32 rfl (lv_at hl 2 rfl) ?_
        refine go_l (ru_V (n := 1) ⟨hx, hb, hml, hown, hts⟩ hk hP (c_X4_roundCell l D cI cL cZ ad c_sr t_n t_r t_w s_w s_h s_c s_p s_s p_nx p_sz r_k r_r r_p l_z q_z t_t b_l b_b b_n r_t l_l l_b l_n q_l q_b q_n t_le s_cs s_ps s_ha s_en pk ik s_ro s_me s_be s_se s_co pl pb pn il ib im l_a q_a hAd p1 _ rfl) (cwV 1 hts (gV q3_127 q2_15 q2_16 q1_3 q2_17) rfl rfl rfl hd_X4_roundCell ⟨by show 0 + 1 ≤ 4 + (n + 1); omega, by show 8 + (2 + 11) + 0 ≤ 97 + 31 * (n + 1); omega⟩) (va_recv hk.1 hP (ci := 4) (q0 := 3) rfl rfl) rfl hl.1 rfl (Nat.le_of_ble_eq_true rfl) dX1_decide_33 ⟨Nat.zero_le _, Nat.zero_le _⟩) hS (fun _ h => h) (fun H locs hP hS => ?_)
        have hP : va_P D vwCl (cw ad cI cL cZ c_sr t_n t_r t_w s_w s_h s_c s_p s_s p_nx p_sz r_k r_r r_p l_z q_z t_t b_l b_b b_n r_t l_l l_b l_n q_l q_b q_n t_le s_cs s_ps s_ha s_en pk ik s_ro s_me s_be s_se s_co pl pb pn il ib im l_a q_a) H := hP
        refine lv_lxor hx hb dX1_decide_36 ?_
        refine lv_lstore (lv' := [(5, .long (p2 ^^^ (f_X4_roundCell p1 s_ro))), (4, .ref (ad 3)), (0, .ref (ad 26)), (1, .int p1), (2, .long p2)]) hx hb dX1_decide_37 hl (by decide) rfl (fun ls hl => ?_)
        refine lv_lload_n hx hb dX1_decide_39 rfl (lv_at hl 4 rfl) ?_
        refine lv_aload hx hb dX1_decide_40 (lv_at hl 1 rfl) ?_
        refine lv_iload_n hx hb dX1_decide_42 rfl (lv_at hl 3 rfl) ?_
        refine lv_iconst (v := 3) hx hb dX1_decide_43 (by decide) ?_
        refine go_i (ru_V (n := 2) ⟨hx, hb, hml, hown, hts⟩ hk hP (c_X4_sideOfCell l D cI cL cZ ad c_sr t_n t_r t_w s_w s_h s_c s_p s_s p_nx p_sz r_k r_r r_p l_z q_z t_t b_l b_b b_n r_t l_l l_b l_n q_l q_b q_n t_le s_cs s_ps s_ha s_en pk ik s_ro s_me s_be s_se s_co pl pb pn il ib im l_a q_a hAd p1 3 _ rfl) (cwV 2 hts (gV q3_128 q2_74 q2_75 q1_3 q2_76) rfl rfl rfl hd_X4_sideOfCell ⟨by show 1 + 1 ≤ 4 + (n + 1); omega, by show 8 + (3 + 11) + 21 ≤ 97 + 31 * (n + 1); omega⟩) (va_recv hk.1 hP (ci := 4) (q0 := 3) rfl rfl) rfl hl.1 rfl (Nat.le_of_ble_eq_true rfl) dX1_decide_44 ⟨Nat.zero_le _, Nat.zero_le _⟩) hS (fun _ h => h) (fun H locs hP hS => ?_)
        have hP : va_P D vwCl (cw ad cI cL cZ c_sr t_n t_r t_w s_w s_h s_c s_p s_s p_nx p_sz r_k r_r r_p l_z q_z t_t b_l b_b b_n r_t l_l l_b l_n q_l q_b q_n t_le s_cs s_ps s_ha s_en pk ik s_ro s_me s_be s_se s_co pl pb pn il ib im l_a q_a) H := hP
        refine go_l (ru_N (n := 1) ⟨hx, hb, hml, hown, hts⟩ hk hP (c_X7_bit l D cI cL cZ (cAd ad) (cw ad cI cL cZ c_sr t_n t_r t_w s_w s_h s_c s_p s_s p_nx p_sz r_k r_r r_p l_z q_z t_t b_l b_b b_n r_t l_l l_b l_n q_l q_b q_n t_le s_cs s_ps s_ha s_en pk ik s_ro s_me s_be s_se s_co pl pb pn il ib im l_a q_a) (f_X4_sideOfCell p1 3 s_cs) _ rfl) ⟨va_cnB 1 hts (gN q2_20) rfl rfl rfl (hk.2 _ nwm_X1_72) (hts _ q1_1) hd_X7_bit ⟨by show 0 + 1 ≤ 4 + (n + 1); omega, by show 8 + (1 + 11) + 0 ≤ 97 + 31 * (n + 1); omega⟩, hts _ q2_19, trivial⟩ rfl hl.1 rfl (Nat.le_of_ble_eq_true rfl) dX1_decide_47 ⟨Nat.zero_le _, Nat.zero_le _⟩) hS (fun _ h => h) (fun H locs hP hS => ?_)
        have hP : va_P D vwCl (cw ad cI cL cZ c_sr t_n t_r t_w s_w s_h s_c s_p s_s p_nx p_sz r_k r_r r_p l_z q_z t_t b_l b_b b_n r_t l_l l_b l_n q_l q_b q_n t_le s_cs s_ps s_ha s_en pk ik s_ro s_me s_be s_se s_co pl pb pn il ib im l_a q_a) H := hP
        refine lv_land hx hb dX1_decide_50 ?_
        refine lv_lconst (v := 0) hx hb dX1_decide_51 (by decide) ?_
        refine W.lcmp hx hb dX1_decide_52 ?_
        refine lv_if_eq (tgt := 60) hx hb dX1_decide_53 (by decide) (fun c53 => ?_) (fun c53 => ?_)
        · have hr := (if_pos c53).symm.trans hr
          refine lv_iconst (v := 0) hx hb dX1_decide_60 (by decide) ?_
          refine lv_istore (lv' := [(7, .int 0), (5, .long (p2 ^^^ (f_X4_roundCell p1 s_ro))), (4, .ref (ad 3)), (0, .ref (ad 26)), (1, .int p1), (2, .long p2)]) hx hb dX1_decide_61 hl (by decide) rfl (fun ls hl => ?_)
          refine lv_iload hx hb dX1_decide_63 (lv_at hl 0 rfl) ?_
          refine lv_if_eq (tgt := 73) hx hb dX1_decide_65 (by decide) (fun c65 => ?_) (fun c65 => ?_)
          · refine lv_lload_n hx hb dX1_decide_73 rfl (lv_at hl 5 rfl) ?_
            refine lv_lstore (lv' := [(8, .long p2), (7, .int 0), (5, .long (p2 ^^^ (f_X4_roundCell p1 s_ro))), (4, .ref (ad 3)), (0, .ref (ad 26)), (1, .int p1), (2, .long p2)]) hx hb dX1_decide_74 hl (by decide) rfl (fun ls hl => ?_)
            refine lv_iload hx hb dX1_decide_76 (lv_at hl 1 rfl) ?_
            refine lv_if_eq (tgt := 85) hx hb dX1_decide_78 (by decide) (fun c78 => ?_) (fun c78 => ?_)
            · refine lv_lload hx hb dX1_decide_85 (lv_at hl 2 rfl) ?_
              refine lv_lstore (lv' := [(10, .long (p2 ^^^ (f_X4_roundCell p1 s_ro))), (8, .long p2), (7, .int 0), (5, .long (p2 ^^^ (f_X4_roundCell p1 s_ro))), (4, .ref (ad 3)), (0, .ref (ad 26)), (1, .int p1), (2, .long p2)]) hx hb dX1_decide_87 hl (by decide) rfl (fun ls hl => ?_)
              refine lv_aload_n hx hb dX1_decide_89 rfl (lv_at hl 5 rfl) ?_
              refine lv_iload_n hx hb dX1_decide_90 rfl (lv_at hl 6 rfl) ?_
              refine lv_lload hx hb dX1_decide_91 (lv_at hl 1 rfl) ?_
              refine go_z (ru_V (n := 2) ⟨hx, hb, hml, hown, hts⟩ hk hP (c_X1_fits l D cI cL cZ ad c_sr t_n t_r t_w s_w s_h s_c s_p s_s p_nx p_sz r_k r_r r_p l_z q_z t_t b_l b_b b_n r_t l_l l_b l_n q_l q_b q_n t_le s_cs s_ps s_ha s_en pk ik s_ro s_me s_be s_se s_co pl pb pn il ib im l_a q_a hAd p1 p2 _ rfl) (cwV 2 hts (gV q3_130 q3_132 qs2_11 q1_9 q3_133) rfl rfl rfl hd_X1_fits ⟨by show 2 + 1 ≤ 4 + (n + 1); omega, by show 8 + (8 + 11) + 52 ≤ 97 + 31 * (n + 1); omega⟩) (va_recv hk.1 hP (ci := 1) (q0 := 26) rfl rfl) rfl hl.1 rfl (Nat.le_of_ble_eq_true rfl) dX1_decide_93 ⟨Nat.zero_le _, Nat.zero_le _⟩) hS (fun _ h => h) (fun H locs hz93 hP hS => ?_)
              have hP : va_P D vwCl (cw ad cI cL cZ c_sr t_n t_r t_w s_w s_h s_c s_p s_s p_nx p_sz r_k r_r r_p l_z q_z t_t b_l b_b b_n r_t l_l l_b l_n q_l q_b q_n t_le s_cs s_ps s_ha s_en pk ik s_ro s_me s_be s_se s_co pl pb pn il ib im l_a q_a) H := hP
              refine lv_if_eq (tgt := 108) hx hb dX1_decide_96 (by decide) (fun c96 => ?_) (fun c96 => ?_)
              · have hr := (if_pos c96).symm.trans hr
                refine lv_aload_n hx hb dX1_decide_108 rfl (lv_at hl 5 rfl) ?_
                refine lv_iload_n hx hb dX1_decide_109 rfl (lv_at hl 6 rfl) ?_
                refine lv_lload hx hb dX1_decide_110 (lv_at hl 0 rfl) ?_
                refine go_z (ru_V (n := 2) ⟨hx, hb, hml, hown, hts⟩ hk hP (c_X1_fits l D cI cL cZ ad c_sr t_n t_r t_w s_w s_h s_c s_p s_s p_nx p_sz r_k r_r r_p l_z q_z t_t b_l b_b b_n r_t l_l l_b l_n q_l q_b q_n t_le s_cs s_ps s_ha s_en pk ik s_ro s_me s_be s_se s_co pl pb pn il ib im l_a q_a hAd p1 (p2 ^^^ (f_X4_roundCell p1 s_ro)) _ rfl) (cwV 2 hts (gV q3_130 q3_132 qs2_11 q1_9 q3_133) rfl rfl rfl hd_X1_fits ⟨by show 2 + 1 ≤ 4 + (n + 1); omega, by show 8 + (8 + 11) + 52 ≤ 97 + 31 * (n + 1); omega⟩) (va_recv hk.1 hP (ci := 1) (q0 := 26) rfl rfl) rfl hl.1 rfl (Nat.le_of_ble_eq_true rfl) dX1_decide_112 ⟨Nat.zero_le _, Nat.zero_le _⟩) hS (fun _ h => h) (fun H locs hz112 hP hS => ?_)
                have hP : va_P D vwCl (cw ad cI cL cZ c_sr t_n t_r t_w s_w s_h s_c s_p s_s p_nx p_sz r_k r_r r_p l_z q_z t_t b_l b_b b_n r_t l_l l_b l_n q_l q_b q_n t_le s_cs s_ps s_ha s_en pk ik s_ro s_me s_be s_se s_co pl pb pn il ib im l_a q_a) H := hP
                refine lv_if_eq (tgt := 127) hx hb dX1_decide_115 (by decide) (fun c115 => ?_) (fun c115 => ?_)
                · have hr := (if_pos c115).symm.trans hr
                  subst hr
                  exact ret_v hx hb hrt hlocks hP hS dX1_decide_127
                · have hr := (if_neg c115).symm.trans hr
                  refine lv_aload_n hx hb dX1_decide_118 rfl (lv_at hl 5 rfl) ?_
                  refine lv_iload_n hx hb dX1_decide_119 rfl (lv_at hl 6 rfl) ?_
                  refine lv_iconst (v := 1) hx hb dX1_decide_120 (by decide) ?_
                  refine lv_isub hx hb dX1_decide_121 ?_
                  refine lv_lload hx hb dX1_decide_122 (lv_at hl 0 rfl) ?_
                  obtain ⟨u1, hu1⟩ : ∃ z, f_X1_decide l_l l_b l_n s_cs s_ha s_ro s_be s_se s_co n (p1 - 1) (p2 ^^^ (f_X4_roundCell p1 s_ro)) l_z l_a = z := ⟨_, rfl⟩
                  have hr := (bd_eq hu1).symm.trans hr
                  refine go_v (ru_S (n := 3) ⟨hx, hb, hml, hown, hts⟩ hk hP (ih l_z l_a (p1 - 1) (p2 ^^^ (f_X4_roundCell p1 s_ro)) _ hu1 (dec_s c14 hd)) (va_cwS 3 hts (gS q3_118 q3_119 q1_9 q3_120) rfl rfl rfl hd_X1_decide ⟨by show 4 + n + 1 ≤ 4 + (n + 1); omega, by show 8 + (12 + 11) + (97 + 31 * n) ≤ 97 + 31 * (n + 1); omega⟩) rfl hl.1 rfl (Nat.le_of_ble_eq_true rfl) dX1_decide_124 ⟨Nat.zero_le _, Nat.zero_le _⟩) hS (fun _ h => h) (fun H locs hP hS => ?_)
                  have hP : va_P D vwCl (cw ad cI cL cZ c_sr t_n t_r t_w s_w s_h s_c s_p s_s p_nx p_sz r_k r_r r_p u1.1 q_z t_t b_l b_b b_n r_t l_l l_b l_n q_l q_b q_n t_le s_cs s_ps s_ha s_en pk ik s_ro s_me s_be s_se s_co pl pb pn il ib im u1.2 q_a) H := hP
                  subst hr
                  exact ret_v hx hb hrt hlocks hP hS dX1_decide_127
              · have hr := (if_neg c96).symm.trans hr
                refine lv_aload_n hx hb dX1_decide_99 rfl (lv_at hl 5 rfl) ?_
                refine lv_iload_n hx hb dX1_decide_100 rfl (lv_at hl 6 rfl) ?_
                refine lv_iconst (v := 1) hx hb dX1_decide_101 (by decide) ?_
                refine lv_isub hx hb dX1_decide_102 ?_
                refine lv_lload hx hb dX1_decide_103 (lv_at hl 1 rfl) ?_
                obtain ⟨u2, hu2⟩ : ∃ z, f_X1_decide l_l l_b l_n s_cs s_ha s_ro s_be s_se s_co n (p1 - 1) p2 l_z l_a = z := ⟨_, rfl⟩
                have hr := (bd_eq hu2).symm.trans hr
                refine go_v (ru_S (n := 3) ⟨hx, hb, hml, hown, hts⟩ hk hP (ih l_z l_a (p1 - 1) p2 _ hu2 (dec_s c14 hd)) (va_cwS 3 hts (gS q3_118 q3_119 q1_9 q3_120) rfl rfl rfl hd_X1_decide ⟨by show 4 + n + 1 ≤ 4 + (n + 1); omega, by show 8 + (12 + 11) + (97 + 31 * n) ≤ 97 + 31 * (n + 1); omega⟩) rfl hl.1 rfl (Nat.le_of_ble_eq_true rfl) dX1_decide_105 ⟨Nat.zero_le _, Nat.zero_le _⟩) hS (fun _ h => h) (fun H locs hP hS => ?_)
                have hP : va_P D vwCl (cw ad cI cL cZ c_sr t_n t_r t_w s_w s_h s_c s_p s_s p_nx p_sz r_k r_r r_p u2.1 q_z t_t b_l b_b b_n r_t l_l l_b l_n q_l q_b q_n t_le s_cs s_ps s_ha s_en pk ik s_ro s_me s_be s_se s_co pl pb pn il ib im u2.2 q_a) H := hP
                refine lv_aload_n hx hb dX1_decide_108 rfl (lv_at hl 5 rfl) ?_
                refine lv_iload_n hx hb dX1_decide_109 rfl (lv_at hl 6 rfl) ?_
                refine lv_lload hx hb dX1_decide_110 (lv_at hl 0 rfl) ?_
                refine go_z (ru_V (n := 2) ⟨hx, hb, hml, hown, hts⟩ hk hP (c_X1_fits l D cI cL cZ ad c_sr t_n t_r t_w s_w s_h s_c s_p s_s p_nx p_sz r_k r_r r_p u2.1 q_z t_t b_l b_b b_n r_t l_l l_b l_n q_l q_b q_n t_le s_cs s_ps s_ha s_en pk ik s_ro s_me s_be s_se s_co pl pb pn il ib im u2.2 q_a hAd p1 (p2 ^^^ (f_X4_roundCell p1 s_ro)) _ rfl) (cwV 2 hts (gV q3_130 q3_132 qs2_11 q1_9 q3_133) rfl rfl rfl hd_X1_fits ⟨by show 2 + 1 ≤ 4 + (n + 1); omega, by show 8 + (8 + 11) + 52 ≤ 97 + 31 * (n + 1); omega⟩) (va_recv hk.1 hP (ci := 1) (q0 := 26) rfl rfl) rfl hl.1 rfl (Nat.le_of_ble_eq_true rfl) dX1_decide_112 ⟨Nat.zero_le _, Nat.zero_le _⟩) hS (fun _ h => h) (fun H locs hz112 hP hS => ?_)
                have hP : va_P D vwCl (cw ad cI cL cZ c_sr t_n t_r t_w s_w s_h s_c s_p s_s p_nx p_sz r_k r_r r_p u2.1 q_z t_t b_l b_b b_n r_t l_l l_b l_n q_l q_b q_n t_le s_cs s_ps s_ha s_en pk ik s_ro s_me s_be s_se s_co pl pb pn il ib im u2.2 q_a) H := hP
                refine lv_if_eq (tgt := 127) hx hb dX1_decide_115 (by decide) (fun c115 => ?_) (fun c115 => ?_)
                · have hr := (if_pos c115).symm.trans hr
                  subst hr
                  exact ret_v hx hb hrt hlocks hP hS dX1_decide_127
                · have hr := (if_neg c115).symm.trans hr
                  refine lv_aload_n hx hb dX1_decide_118 rfl (lv_at hl 5 rfl) ?_
                  refine lv_iload_n hx hb dX1_decide_119 rfl (lv_at hl 6 rfl) ?_
                  refine lv_iconst (v := 1) hx hb dX1_decide_120 (by decide) ?_
                  refine lv_isub hx hb dX1_decide_121 ?_
                  refine lv_lload hx hb dX1_decide_122 (lv_at hl 0 rfl) ?_
                  obtain ⟨u3, hu3⟩ : ∃ z, f_X1_decide l_l l_b l_n s_cs s_ha s_ro s_be s_se s_co n (p1 - 1) (p2 ^^^ (f_X4_roundCell p1 s_ro)) u2.1 u2.2 = z := ⟨_, rfl⟩
                  have hr := (bd_eq hu3).symm.trans hr
                  refine go_v (ru_S (n := 3) ⟨hx, hb, hml, hown, hts⟩ hk hP (ih u2.1 u2.2 (p1 - 1) (p2 ^^^ (f_X4_roundCell p1 s_ro)) _ hu3 (dec_s c14 hd)) (va_cwS 3 hts (gS q3_118 q3_119 q1_9 q3_120) rfl rfl rfl hd_X1_decide ⟨by show 4 + n + 1 ≤ 4 + (n + 1); omega, by show 8 + (12 + 11) + (97 + 31 * n) ≤ 97 + 31 * (n + 1); omega⟩) rfl hl.1 rfl (Nat.le_of_ble_eq_true rfl) dX1_decide_124 ⟨Nat.zero_le _, Nat.zero_le _⟩) hS (fun _ h => h) (fun H locs hP hS => ?_)
                  have hP : va_P D vwCl (cw ad cI cL cZ c_sr t_n t_r t_w s_w s_h s_c s_p s_s p_nx p_sz r_k r_r r_p u3.1 q_z t_t b_l b_b b_n r_t l_l l_b l_n q_l q_b q_n t_le s_cs s_ps s_ha s_en pk ik s_ro s_me s_be s_se s_co pl pb pn il ib im u3.2 q_a) H := hP
                  subst hr
                  exact ret_v hx hb hrt hlocks hP hS dX1_decide_127
            · exact absurd (by decide) c78
          · exact absurd (by decide) c65
        · have hr := (if_neg c53).symm.trans hr
          refine lv_iconst (v := 1) hx hb dX1_decide_56 (by decide) ?_
          refine lv_goto (tgt := 61) hx hb dX1_decide_57 (by decide) ?_
          refine lv_istore (lv' := [(7, .int 1), (5, .long (p2 ^^^ (f_X4_roundCell p1 s_ro))), (4, .ref (ad 3)), (0, .ref (ad 26)), (1, .int p1), (2, .long p2)]) hx hb dX1_decide_61 hl (by decide) rfl (fun ls hl => ?_)
          refine lv_iload hx hb dX1_decide_63 (lv_at hl 0 rfl) ?_
          refine lv_if_eq (tgt := 73) hx hb dX1_decide_65 (by decide) (fun c65 => ?_) (fun c65 => ?_)
          · exact absurd c65 (by decide)
          · refine lv_lload hx hb dX1_decide_68 (lv_at hl 1 rfl) ?_
            refine lv_goto (tgt := 74) hx hb dX1_decide_70 (by decide) ?_
            refine lv_lstore (lv' := [(8, .long (p2 ^^^ (f_X4_roundCell p1 s_ro))), (7, .int 1), (5, .long (p2 ^^^ (f_X4_roundCell p1 s_ro))), (4, .ref (ad 3)), (0, .ref (ad 26)), (1, .int p1), (2, .long p2)]) hx hb dX1_decide_74 hl (by decide) rfl (fun ls hl => ?_)
            refine lv_iload hx hb dX1_decide_76 (lv_at hl 1 rfl) ?_
            refine lv_if_eq (tgt := 85) hx hb dX1_decide_78 (by decide) (fun c78 => ?_) (fun c78 => ?_)
            · exact absurd c78 (by decide)
            · refine lv_lload_n hx hb dX1_decide_81 rfl (lv_at hl 6 rfl) ?_
              refine lv_goto (tgt := 87) hx hb dX1_decide_82 (by decide) ?_
              refine lv_lstore (lv' := [(10, .long p2), (8, .long (p2 ^^^ (f_X4_roundCell p1 s_ro))), (7, .int 1), (5, .long (p2 ^^^ (f_X4_roundCell p1 s_ro))), (4, .ref (ad 3)), (0, .ref (ad 26)), (1, .int p1), (2, .long p2)]) hx hb dX1_decide_87 hl (by decide) rfl (fun ls hl => ?_)
              refine lv_aload_n hx hb dX1_decide_89 rfl (lv_at hl 5 rfl) ?_
              refine lv_iload_n hx hb dX1_decide_90 rfl (lv_at hl 6 rfl) ?_
              refine lv_lload hx hb dX1_decide_91 (lv_at hl 1 rfl) ?_
              refine go_z (ru_V (n := 2) ⟨hx, hb, hml, hown, hts⟩ hk hP (c_X1_fits l D cI cL cZ ad c_sr t_n t_r t_w s_w s_h s_c s_p s_s p_nx p_sz r_k r_r r_p l_z q_z t_t b_l b_b b_n r_t l_l l_b l_n q_l q_b q_n t_le s_cs s_ps s_ha s_en pk ik s_ro s_me s_be s_se s_co pl pb pn il ib im l_a q_a hAd p1 (p2 ^^^ (f_X4_roundCell p1 s_ro)) _ rfl) (cwV 2 hts (gV q3_130 q3_132 qs2_11 q1_9 q3_133) rfl rfl rfl hd_X1_fits ⟨by show 2 + 1 ≤ 4 + (n + 1); omega, by show 8 + (8 + 11) + 52 ≤ 97 + 31 * (n + 1); omega⟩) (va_recv hk.1 hP (ci := 1) (q0 := 26) rfl rfl) rfl hl.1 rfl (Nat.le_of_ble_eq_true rfl) dX1_decide_93 ⟨Nat.zero_le _, Nat.zero_le _⟩) hS (fun _ h => h) (fun H locs hz93 hP hS => ?_)
              have hP : va_P D vwCl (cw ad cI cL cZ c_sr t_n t_r t_w s_w s_h s_c s_p s_s p_nx p_sz r_k r_r r_p l_z q_z t_t b_l b_b b_n r_t l_l l_b l_n q_l q_b q_n t_le s_cs s_ps s_ha s_en pk ik s_ro s_me s_be s_se s_co pl pb pn il ib im l_a q_a) H := hP
              refine lv_if_eq (tgt := 108) hx hb dX1_decide_96 (by decide) (fun c96 => ?_) (fun c96 => ?_)
              · have hr := (if_pos c96).symm.trans hr
                refine lv_aload_n hx hb dX1_decide_108 rfl (lv_at hl 5 rfl) ?_
                refine lv_iload_n hx hb dX1_decide_109 rfl (lv_at hl 6 rfl) ?_
                refine lv_lload hx hb dX1_decide_110 (lv_at hl 0 rfl) ?_
                refine go_z (ru_V (n := 2) ⟨hx, hb, hml, hown, hts⟩ hk hP (c_X1_fits l D cI cL cZ ad c_sr t_n t_r t_w s_w s_h s_c s_p s_s p_nx p_sz r_k r_r r_p l_z q_z t_t b_l b_b b_n r_t l_l l_b l_n q_l q_b q_n t_le s_cs s_ps s_ha s_en pk ik s_ro s_me s_be s_se s_co pl pb pn il ib im l_a q_a hAd p1 p2 _ rfl) (cwV 2 hts (gV q3_130 q3_132 qs2_11 q1_9 q3_133) rfl rfl rfl hd_X1_fits ⟨by show 2 + 1 ≤ 4 + (n + 1); omega, by show 8 + (8 + 11) + 52 ≤ 97 + 31 * (n + 1); omega⟩) (va_recv hk.1 hP (ci := 1) (q0 := 26) rfl rfl) rfl hl.1 rfl (Nat.le_of_ble_eq_true rfl) dX1_decide_112 ⟨Nat.zero_le _, Nat.zero_le _⟩) hS (fun _ h => h) (fun H locs hz112 hP hS => ?_)
                have hP : va_P D vwCl (cw ad cI cL cZ c_sr t_n t_r t_w s_w s_h s_c s_p s_s p_nx p_sz r_k r_r r_p l_z q_z t_t b_l b_b b_n r_t l_l l_b l_n q_l q_b q_n t_le s_cs s_ps s_ha s_en pk ik s_ro s_me s_be s_se s_co pl pb pn il ib im l_a q_a) H := hP
                refine lv_if_eq (tgt := 127) hx hb dX1_decide_115 (by decide) (fun c115 => ?_) (fun c115 => ?_)
                · have hr := (if_pos c115).symm.trans hr
                  subst hr
                  exact ret_v hx hb hrt hlocks hP hS dX1_decide_127
                · have hr := (if_neg c115).symm.trans hr
                  refine lv_aload_n hx hb dX1_decide_118 rfl (lv_at hl 5 rfl) ?_
                  refine lv_iload_n hx hb dX1_decide_119 rfl (lv_at hl 6 rfl) ?_
                  refine lv_iconst (v := 1) hx hb dX1_decide_120 (by decide) ?_
                  refine lv_isub hx hb dX1_decide_121 ?_
                  refine lv_lload hx hb dX1_decide_122 (lv_at hl 0 rfl) ?_
                  obtain ⟨u4, hu4⟩ : ∃ z, f_X1_decide l_l l_b l_n s_cs s_ha s_ro s_be s_se s_co n (p1 - 1) p2 l_z l_a = z := ⟨_, rfl⟩
                  have hr := (bd_eq hu4).symm.trans hr
                  refine go_v (ru_S (n := 3) ⟨hx, hb, hml, hown, hts⟩ hk hP (ih l_z l_a (p1 - 1) p2 _ hu4 (dec_s c14 hd)) (va_cwS 3 hts (gS q3_118 q3_119 q1_9 q3_120) rfl rfl rfl hd_X1_decide ⟨by show 4 + n + 1 ≤ 4 + (n + 1); omega, by show 8 + (12 + 11) + (97 + 31 * n) ≤ 97 + 31 * (n + 1); omega⟩) rfl hl.1 rfl (Nat.le_of_ble_eq_true rfl) dX1_decide_124 ⟨Nat.zero_le _, Nat.zero_le _⟩) hS (fun _ h => h) (fun H locs hP hS => ?_)
                  have hP : va_P D vwCl (cw ad cI cL cZ c_sr t_n t_r t_w s_w s_h s_c s_p s_s p_nx p_sz r_k r_r r_p u4.1 q_z t_t b_l b_b b_n r_t l_l l_b l_n q_l q_b q_n t_le s_cs s_ps s_ha s_en pk ik s_ro s_me s_be s_se s_co pl pb pn il ib im u4.2 q_a) H := hP
                  subst hr
                  exact ret_v hx hb hrt hlocks hP hS dX1_decide_127
              · have hr := (if_neg c96).symm.trans hr
                refine lv_aload_n hx hb dX1_decide_99 rfl (lv_at hl 5 rfl) ?_
                refine lv_iload_n hx hb dX1_decide_100 rfl (lv_at hl 6 rfl) ?_
                refine lv_iconst (v := 1) hx hb dX1_decide_101 (by decide) ?_
                refine lv_isub hx hb dX1_decide_102 ?_
                refine lv_lload hx hb dX1_decide_103 (lv_at hl 1 rfl) ?_
                obtain ⟨u5, hu5⟩ : ∃ z, f_X1_decide l_l l_b l_n s_cs s_ha s_ro s_be s_se s_co n (p1 - 1) (p2 ^^^ (f_X4_roundCell p1 s_ro)) l_z l_a = z := ⟨_, rfl⟩
                have hr := (bd_eq hu5).symm.trans hr
                refine go_v (ru_S (n := 3) ⟨hx, hb, hml, hown, hts⟩ hk hP (ih l_z l_a (p1 - 1) (p2 ^^^ (f_X4_roundCell p1 s_ro)) _ hu5 (dec_s c14 hd)) (va_cwS 3 hts (gS q3_118 q3_119 q1_9 q3_120) rfl rfl rfl hd_X1_decide ⟨by show 4 + n + 1 ≤ 4 + (n + 1); omega, by show 8 + (12 + 11) + (97 + 31 * n) ≤ 97 + 31 * (n + 1); omega⟩) rfl hl.1 rfl (Nat.le_of_ble_eq_true rfl) dX1_decide_105 ⟨Nat.zero_le _, Nat.zero_le _⟩) hS (fun _ h => h) (fun H locs hP hS => ?_)
                have hP : va_P D vwCl (cw ad cI cL cZ c_sr t_n t_r t_w s_w s_h s_c s_p s_s p_nx p_sz r_k r_r r_p u5.1 q_z t_t b_l b_b b_n r_t l_l l_b l_n q_l q_b q_n t_le s_cs s_ps s_ha s_en pk ik s_ro s_me s_be s_se s_co pl pb pn il ib im u5.2 q_a) H := hP
                refine lv_aload_n hx hb dX1_decide_108 rfl (lv_at hl 5 rfl) ?_
                refine lv_iload_n hx hb dX1_decide_109 rfl (lv_at hl 6 rfl) ?_
                refine lv_lload hx hb dX1_decide_110 (lv_at hl 0 rfl) ?_
                refine go_z (ru_V (n := 2) ⟨hx, hb, hml, hown, hts⟩ hk hP (c_X1_fits l D cI cL cZ ad c_sr t_n t_r t_w s_w s_h s_c s_p s_s p_nx p_sz r_k r_r r_p u5.1 q_z t_t b_l b_b b_n r_t l_l l_b l_n q_l q_b q_n t_le s_cs s_ps s_ha s_en pk ik s_ro s_me s_be s_se s_co pl pb pn il ib im u5.2 q_a hAd p1 p2 _ rfl) (cwV 2 hts (gV q3_130 q3_132 qs2_11 q1_9 q3_133) rfl rfl rfl hd_X1_fits ⟨by show 2 + 1 ≤ 4 + (n + 1); omega, by show 8 + (8 + 11) + 52 ≤ 97 + 31 * (n + 1); omega⟩) (va_recv hk.1 hP (ci := 1) (q0 := 26) rfl rfl) rfl hl.1 rfl (Nat.le_of_ble_eq_true rfl) dX1_decide_112 ⟨Nat.zero_le _, Nat.zero_le _⟩) hS (fun _ h => h) (fun H locs hz112 hP hS => ?_)
                have hP : va_P D vwCl (cw ad cI cL cZ c_sr t_n t_r t_w s_w s_h s_c s_p s_s p_nx p_sz r_k r_r r_p u5.1 q_z t_t b_l b_b b_n r_t l_l l_b l_n q_l q_b q_n t_le s_cs s_ps s_ha s_en pk ik s_ro s_me s_be s_se s_co pl pb pn il ib im u5.2 q_a) H := hP
                refine lv_if_eq (tgt := 127) hx hb dX1_decide_115 (by decide) (fun c115 => ?_) (fun c115 => ?_)
                · have hr := (if_pos c115).symm.trans hr
                  subst hr
                  exact ret_v hx hb hrt hlocks hP hS dX1_decide_127
                · have hr := (if_neg c115).symm.trans hr
                  refine lv_aload_n hx hb dX1_decide_118 rfl (lv_at hl 5 rfl) ?_
                  refine lv_iload_n hx hb dX1_decide_119 rfl (lv_at hl 6 rfl) ?_
                  refine lv_iconst (v := 1) hx hb dX1_decide_120 (by decide) ?_
                  refine lv_isub hx hb dX1_decide_121 ?_
                  refine lv_lload hx hb dX1_decide_122 (lv_at hl 0 rfl) ?_
                  obtain ⟨u6, hu6⟩ : ∃ z, f_X1_decide l_l l_b l_n s_cs s_ha s_ro s_be s_se s_co n (p1 - 1) p2 u5.1 u5.2 = z := ⟨_, rfl⟩
                  have hr := (bd_eq hu6).symm.trans hr
                  refine go_v (ru_S (n := 3) ⟨hx, hb, hml, hown, hts⟩ hk hP (ih u5.1 u5.2 (p1 - 1) p2 _ hu6 (dec_s c14 hd)) (va_cwS 3 hts (gS q3_118 q3_119 q1_9 q3_120) rfl rfl rfl hd_X1_decide ⟨by show 4 + n + 1 ≤ 4 + (n + 1); omega, by show 8 + (12 + 11) + (97 + 31 * n) ≤ 97 + 31 * (n + 1); omega⟩) rfl hl.1 rfl (Nat.le_of_ble_eq_true rfl) dX1_decide_124 ⟨Nat.zero_le _, Nat.zero_le _⟩) hS (fun _ h => h) (fun H locs hP hS => ?_)
                  have hP : va_P D vwCl (cw ad cI cL cZ c_sr t_n t_r t_w s_w s_h s_c s_p s_s p_nx p_sz r_k r_r r_p u6.1 q_z t_t b_l b_b b_n r_t l_l l_b l_n q_l q_b q_n t_le s_cs s_ps s_ha s_en pk ik s_ro s_me s_be s_se s_co pl pb pn il ib im u6.2 q_a) H := hP
                  subst hr
                  exact ret_v hx hb hrt hlocks hP hS dX1_decide_127
      · have hr := (if_neg c14).symm.trans hr
        refine lv_aload_n hx hb dX1_decide_17 rfl (lv_at hl 0 rfl) ?_
        refine lv_lload_n hx hb dX1_decide_18 rfl (lv_at hl 2 rfl) ?_
        obtain ⟨u7, hu7⟩ : ∃ z, f_X1_takeRing p2 l_z s_be l_a = z := ⟨_, rfl⟩
        have hr := (bd_eq hu7).symm.trans hr
        refine go_v (ru_V (n := 1) ⟨hx, hb, hml, hown, hts⟩ hk hP (c_X1_takeRing l D cI cL cZ ad c_sr t_n t_r t_w s_w s_h s_c s_p s_s p_nx p_sz r_k r_r r_p l_z q_z t_t b_l b_b b_n r_t l_l l_b l_n q_l q_b q_n t_le s_cs s_ps s_ha s_en pk ik s_ro s_me s_be s_se s_co pl pb pn il ib im l_a q_a hAd p2 _ hu7) (cwV 1 hts (gV q3_121 q3_123 qs2_10 q1_9 q3_124) rfl rfl rfl hd_X1_takeRing ⟨by show 3 + 1 ≤ 4 + (n + 1); omega, by show 8 + (4 + 11) + 74 ≤ 97 + 31 * (n + 1); omega⟩) (va_recv hk.1 hP (ci := 1) (q0 := 26) rfl rfl) rfl hl.1 rfl (Nat.le_of_ble_eq_true rfl) dX1_decide_19 ⟨Nat.zero_le _, Nat.zero_le _⟩) hS (fun _ h => h) (fun H locs hP hS => ?_)
        have hP : va_P D vwCl (cw ad cI cL cZ c_sr t_n t_r t_w s_w s_h s_c s_p s_s p_nx p_sz r_k r_r r_p u7.1 q_z t_t b_l b_b b_n r_t l_l l_b l_n q_l q_b q_n t_le s_cs s_ps s_ha s_en pk ik s_ro s_me s_be s_se s_co pl pb pn il ib im u7.2 q_a) H := hP
        subst hr
        exact ret_v hx hb hrt hlocks hP hS dX1_decide_22
    · have hr := (if_neg c9).symm.trans hr
      subst hr
      exact ret_v hx hb hrt hlocks hP hS dX1_decide_12
theorem hd_X1_search : yX1_search.cls = RX1 ∧ yX1_search.cls ≠ "java/lang/invoke/MethodHandle" ∧ yX1_search.cls ≠ "java/lang/invoke/VarHandle" ∧ (parseMethodDescriptor yX1_search.desc).map (fun d => d.parameters.length) = some 3 := by decide +kernel
def f_X1_search (p1 : Int64) (p3 : Int64) (p5 : Int64) (s_c : Int32) (s_cs : Nat → Int32) (s_ha : Nat → Int32) (s_ro : Nat → Int64) (s_be : Nat → Int64) (s_se : Nat → Int64) (s_co : Nat → Int64) (l_a : Nat → Int64) : Int32 × Int64 × Int64 × Int64 × (Nat → Int64) := (bd (f_X1_decide p1 p3 p5 s_cs s_ha s_ro s_be s_se s_co 17 ((minI s_c 16) - 1) 0 0 l_a) (fun u1 => (u1.1, p1, p3, p5, u1.2)))
set_option maxHeartbeats 4000000 in
set_option maxRecDepth 100000 in
theorem c_X1_search (l : Launch) (D : va_G) (cI cL cZ : ClassId) (ad : Nat → Nat) (c_sr t_n t_r t_w s_w s_h s_c s_p s_s p_nx p_sz r_k r_r r_p l_z q_z : Int32) (t_t b_l b_b b_n r_t l_l l_b l_n q_l q_b q_n : Int64) (t_le s_cs s_ps s_ha s_en pk ik : Nat → Int32) (s_ro s_me s_be s_se s_co pl pb pn il ib im l_a q_a : Nat → Int64) (hAd : cInj ad) (p1 p3 p5 : Int64) (r : Int32 × Int64 × Int64 × Int64 × (Nat → Int64)) (hr : f_X1_search p1 p3 p5 s_c s_cs s_ha s_ro s_be s_se s_co l_a = r) (hc : 0 ≤ s_c.toInt) : MV l yX1_search (Cond.code yX1_search cX1_search 7 none :: W0) 22 655 D cI cL cZ (cAd ad) [.ref (ad 26), .long p1, .long p3, .long p5] (cw ad cI cL cZ c_sr t_n t_r t_w s_w s_h s_c s_p s_s p_nx p_sz r_k r_r r_p l_z q_z t_t b_l b_b b_n r_t l_l l_b l_n q_l q_b q_n t_le s_cs s_ps s_ha s_en pk ik s_ro s_me s_be s_se s_co pl pb pn il ib im l_a q_a) (cw ad cI cL cZ c_sr t_n t_r t_w s_w s_h s_c s_p s_s p_nx p_sz r_k r_r r_p r.1 q_z t_t b_l b_b b_n r_t r.2.1 r.2.2.1 r.2.2.2.1 q_l q_b q_n t_le s_cs s_ps s_ha s_en pk ik s_ro s_me s_be s_se s_co pl pb pn il ib im r.2.2.2.2 q_a) := by
  refine mk_start (cc := cX1_search) (maxL := 7) (ret := none) (by decide) rfl (Nat.le_of_ble_eq_true rfl) ?_
  intro p e s m below meth c ls C hP hS hl
  obtain ⟨hx, hb, hml, hrt, hlocks, hown, hts, hk⟩ := C
  have hown : s.vm.findClass RX1 = some m.cls := hown
  have hl : lv_has ls 7 [(0, .ref (ad 26)), (1, .long p1), (3, .long p3), (5, .long p5)] := hl
  rw [f_X1_search] at hr
  refine lv_aload_n hx hb dX1_search_0 rfl (lv_at hl 0 rfl) ?_
  refine lv_lload_n hx hb dX1_search_1 rfl (lv_at hl 1 rfl) ?_
  refine va_put (D := D) (ci := 1) (v := .long p1) (ty := .long) (C := RX1) (T := TX1) (N := 6) hx hb hts u_X1 tyX1 tyX1_ok nmX1 hown hk.1 hP (cw_D hAd) hS 26 rfl rfl 2 (by decide) (hts _ q1_211) (fun _ h9 => h9) rfl (tyX1_ok 2 (by decide)) rfl rfl (Nat.le_of_ble_eq_true rfl) dX1_search_2 (fun H locs hP _ hS => ?_)
  have hP : va_P D vwCl (cw ad cI cL cZ c_sr t_n t_r t_w s_w s_h s_c s_p s_s p_nx p_sz r_k r_r r_p l_z q_z t_t b_l b_b b_n r_t p1 l_b l_n q_l q_b q_n t_le s_cs s_ps s_ha s_en pk ik s_ro s_me s_be s_se s_co pl pb pn il ib im l_a q_a) H := hP
  refine lv_aload_n hx hb dX1_search_5 rfl (lv_at hl 0 rfl) ?_
  refine lv_lload_n hx hb dX1_search_6 rfl (lv_at hl 2 rfl) ?_
  refine va_put (D := D) (ci := 1) (v := .long p3) (ty := .long) (C := RX1) (T := TX1) (N := 6) hx hb hts u_X1 tyX1 tyX1_ok nmX1 hown hk.1 hP (cw_D hAd) hS 26 rfl rfl 3 (by decide) (hts _ q1_212) (fun _ h9 => h9) rfl (tyX1_ok 3 (by decide)) rfl rfl (Nat.le_of_ble_eq_true rfl) dX1_search_7 (fun H locs hP _ hS => ?_)
  have hP : va_P D vwCl (cw ad cI cL cZ c_sr t_n t_r t_w s_w s_h s_c s_p s_s p_nx p_sz r_k r_r r_p l_z q_z t_t b_l b_b b_n r_t p1 p3 l_n q_l q_b q_n t_le s_cs s_ps s_ha s_en pk ik s_ro s_me s_be s_se s_co pl pb pn il ib im l_a q_a) H := hP
  refine lv_aload_n hx hb dX1_search_10 rfl (lv_at hl 0 rfl) ?_
  refine lv_lload hx hb dX1_search_11 (lv_at hl 3 rfl) ?_
  refine va_put (D := D) (ci := 1) (v := .long p5) (ty := .long) (C := RX1) (T := TX1) (N := 6) hx hb hts u_X1 tyX1 tyX1_ok nmX1 hown hk.1 hP (cw_D hAd) hS 26 rfl rfl 4 (by decide) (hts _ q1_213) (fun _ h9 => h9) rfl (tyX1_ok 4 (by decide)) rfl rfl (Nat.le_of_ble_eq_true rfl) dX1_search_13 (fun H locs hP _ hS => ?_)
  have hP : va_P D vwCl (cw ad cI cL cZ c_sr t_n t_r t_w s_w s_h s_c s_p s_s p_nx p_sz r_k r_r r_p l_z q_z t_t b_l b_b b_n r_t p1 p3 p5 q_l q_b q_n t_le s_cs s_ps s_ha s_en pk ik s_ro s_me s_be s_se s_co pl pb pn il ib im l_a q_a) H := hP
  refine lv_aload_n hx hb dX1_search_16 rfl (lv_at hl 0 rfl) ?_
  refine lv_iconst (v := 0) hx hb dX1_search_17 (by decide) ?_
  refine va_put (D := D) (ci := 1) (v := .int 0) (ty := .int) (C := RX1) (T := TX1) (N := 6) hx hb hts u_X1 tyX1 tyX1_ok nmX1 hown hk.1 hP (cw_D hAd) hS 26 rfl rfl 5 (by decide) (hts _ q1_214) (fun _ h9 => h9) rfl (tyX1_ok 5 (by decide)) rfl rfl (Nat.le_of_ble_eq_true rfl) dX1_search_18 (fun H locs hP _ hS => ?_)
  have hP : va_P D vwCl (cw ad cI cL cZ c_sr t_n t_r t_w s_w s_h s_c s_p s_s p_nx p_sz r_k r_r r_p 0 q_z t_t b_l b_b b_n r_t p1 p3 p5 q_l q_b q_n t_le s_cs s_ps s_ha s_en pk ik s_ro s_me s_be s_se s_co pl pb pn il ib im l_a q_a) H := hP
  refine lv_aload_n hx hb dX1_search_21 rfl (lv_at hl 0 rfl) ?_
  refine lv_aload_n hx hb dX1_search_22 rfl (lv_at hl 0 rfl) ?_
  refine va_get (D := D) (ci := 1) (v := .ref (ad 3)) (C := RX1) (T := TX1) (N := 6) hx hb hts u_X1 hown hk.1 hP 26 rfl rfl 0 (by decide) (hts _ q1_209) (fun _ h9 => h9) rfl dX1_search_23 ?_
  refine va_get (D := D) (ci := 4) (v := .int s_c) (C := RX4) (T := TX4) (N := 14) hx hb hts u_X4 hown hk.1 hP 3 rfl rfl 2 (by decide) (hts _ q1_61) (fun _ h9 => h9) rfl dX1_search_26 ?_
  refine lv_bipush (v := 16) hx hb dX1_search_29 (by decide) ?_
  refine va_mmin hx hb (hml.trans hl.1.symm) hown (hts _ q3_117) (hts _ q2_63) (hts _ q1_7) (hts _ q2_64) (Nat.le_of_ble_eq_true rfl) (Nat.le_of_ble_eq_true rfl) (Nat.zero_le _) (Nat.zero_le _) dX1_search_31 ?_
  refine lv_iconst (v := 1) hx hb dX1_search_34 (by decide) ?_
  refine lv_isub hx hb dX1_search_35 ?_
  refine lv_lconst (v := 0) hx hb dX1_search_36 (by decide) ?_
  obtain ⟨u1, hu1⟩ : ∃ z, f_X1_decide p1 p3 p5 s_cs s_ha s_ro s_be s_se s_co 17 ((minI s_c 16) - 1) 0 0 l_a = z := ⟨_, rfl⟩
  have hr := (bd_eq hu1).symm.trans hr
  refine go_v (ru_S (n := 3) ⟨hx, hb, hml, hown, hts⟩ hk hP (c_X1_decide l D cI cL cZ ad c_sr t_n t_r t_w s_w s_h s_c s_p s_s p_nx p_sz r_k r_r r_p q_z t_t b_l b_b b_n r_t p1 p3 p5 q_l q_b q_n t_le s_cs s_ps s_ha s_en pk ik s_ro s_me s_be s_se s_co pl pb pn il ib im q_a hAd 17 0 l_a ((minI s_c 16) - 1) 0 _ hu1 (dec_0 hc)) (va_cwS 3 hts (gS q3_118 q3_119 q1_9 q3_120) rfl rfl rfl hd_X1_decide ⟨Nat.le_of_ble_eq_true rfl, Nat.le_of_ble_eq_true rfl⟩) rfl hl.1 rfl (Nat.le_of_ble_eq_true rfl) dX1_search_37 ⟨Nat.zero_le _, Nat.zero_le _⟩) hS (fun _ h => h) (fun H locs hP hS => ?_)
  have hP : va_P D vwCl (cw ad cI cL cZ c_sr t_n t_r t_w s_w s_h s_c s_p s_s p_nx p_sz r_k r_r r_p u1.1 q_z t_t b_l b_b b_n r_t p1 p3 p5 q_l q_b q_n t_le s_cs s_ps s_ha s_en pk ik s_ro s_me s_be s_se s_co pl pb pn il ib im u1.2 q_a) H := hP
  subst hr
  exact ret_v hx hb hrt hlocks hP hS dX1_search_40
def f_X1_decide_b (q_l : Int64) (q_b : Int64) (q_n : Int64) (s_cs : Nat → Int32) (s_ha : Nat → Int32) (s_ro : Nat → Int64) (s_be : Nat → Int64) (s_se : Nat → Int64) (s_co : Nat → Int64) : Nat → Int32 → Int64 → Int32 → (Nat → Int64) → Int32 × (Nat → Int64)
  | 0, p1, p2, q_z, q_a => (q_z, q_a)
  | n + 1, p1, p2, q_z, q_a => (if q_z < 2 then (if 0 ≤ p1 then (if (lg_cmp (p2 &&& (f_X7_bit (f_X4_sideOfCell p1 3 s_cs))) 0) = 0 then (if (f_X1_fits_b p1 p2 q_l q_b q_n s_cs s_ha s_ro s_se s_co) = 0 then (if (f_X1_fits_b p1 (p2 ^^^ (f_X4_roundCell p1 s_ro)) q_l q_b q_n s_cs s_ha s_ro s_se s_co) = 0 then (q_z, q_a) else (bd (f_X1_decide_b q_l q_b q_n s_cs s_ha s_ro s_be s_se s_co n (p1 - 1) (p2 ^^^ (f_X4_roundCell p1 s_ro)) q_z q_a) (fun u1 => (u1.1, u1.2)))) else (bd (f_X1_decide_b q_l q_b q_n s_cs s_ha s_ro s_be s_se s_co n (p1 - 1) p2 q_z q_a) (fun u2 => (if (f_X1_fits_b p1 (p2 ^^^ (f_X4_roundCell p1 s_ro)) q_l q_b q_n s_cs s_ha s_ro s_se s_co) = 0 then (u2.1, u2.2) else (bd (f_X1_decide_b q_l q_b q_n s_cs s_ha s_ro s_be s_se s_co n (p1 - 1) (p2 ^^^ (f_X4_roundCell p1 s_ro)) u2.1 u2.2) (fun u3 => (u3.1, u3.2))))))) else (if (f_X1_fits_b p1 (p2 ^^^ (f_X4_roundCell p1 s_ro)) q_l q_b q_n s_cs s_ha s_ro s_se s_co) = 0 then (if (f_X1_fits_b p1 p2 q_l q_b q_n s_cs s_ha s_ro s_se s_co) = 0 then (q_z, q_a) else (bd (f_X1_decide_b q_l q_b q_n s_cs s_ha s_ro s_be s_se s_co n (p1 - 1) p2 q_z q_a) (fun u4 => (u4.1, u4.2)))) else (bd (f_X1_decide_b q_l q_b q_n s_cs s_ha s_ro s_be s_se s_co n (p1 - 1) (p2 ^^^ (f_X4_roundCell p1 s_ro)) q_z q_a) (fun u5 => (if (f_X1_fits_b p1 p2 q_l q_b q_n s_cs s_ha s_ro s_se s_co) = 0 then (u5.1, u5.2) else (bd (f_X1_decide_b q_l q_b q_n s_cs s_ha s_ro s_be s_se s_co n (p1 - 1) p2 u5.1 u5.2) (fun u6 => (u6.1, u6.2)))))))) else (bd (f_X1_takeRing_b p2 q_z s_be q_a) (fun u7 => (u7.1, u7.2)))) else (q_z, q_a))
set_option maxHeartbeats 4000000 in
set_option maxRecDepth 100000 in
theorem c_X1_decide_b (l : Launch) (D : va_G) (cI cL cZ : ClassId) (ad : Nat → Nat) (c_sr t_n t_r t_w s_w s_h s_c s_p s_s p_nx p_sz r_k r_r r_p l_z : Int32) (t_t b_l b_b b_n r_t l_l l_b l_n q_l q_b q_n : Int64) (t_le s_cs s_ps s_ha s_en pk ik : Nat → Int32) (s_ro s_me s_be s_se s_co pl pb pn il ib im l_a : Nat → Int64) (hAd : cInj ad) : ∀ (d : Nat) (q_z : Int32) (q_a : Nat → Int64) (p1 : Int32) (p2 : Int64) (r : Int32 × (Nat → Int64)) (hr : f_X1_decide_b q_l q_b q_n s_cs s_ha s_ro s_be s_se s_co d p1 p2 q_z q_a = r) (hd : -1 ≤ p1.toInt ∧ p1.toInt + 1 < (d : Int)), MV l yX1_decide (Cond.code yX1_decide cX1_decide 12 none :: W0) (4 + d) (97 + 31 * d) D cI cL cZ (cAd ad) [.ref (ad 28), .int p1, .long p2] (cw ad cI cL cZ c_sr t_n t_r t_w s_w s_h s_c s_p s_s p_nx p_sz r_k r_r r_p l_z q_z t_t b_l b_b b_n r_t l_l l_b l_n q_l q_b q_n t_le s_cs s_ps s_ha s_en pk ik s_ro s_me s_be s_se s_co pl pb pn il ib im l_a q_a) (cw ad cI cL cZ c_sr t_n t_r t_w s_w s_h s_c s_p s_s p_nx p_sz r_k r_r r_p l_z r.1 t_t b_l b_b b_n r_t l_l l_b l_n q_l q_b q_n t_le s_cs s_ps s_ha s_en pk ik s_ro s_me s_be s_se s_co pl pb pn il ib im l_a r.2) := by
  intro d
  induction d with
  | zero =>
    intro q_z q_a p1 p2 r hr hd
    exact absurd hd (by omega)
  | succ n ih =>
    intro q_z q_a p1 p2 r hr hd
    refine mk_start (cc := cX1_decide) (maxL := 12) (ret := none) (by decide) rfl (Nat.le_of_ble_eq_true rfl) ?_
    intro p e s m below meth c ls C hP hS hl
    obtain ⟨hx, hb, hml, hrt, hlocks, hown, hts, hk⟩ := C
    have hown : s.vm.findClass RX1 = some m.cls := hown
    have hl : lv_has ls 12 [(0, .ref (ad 28)), (1, .int p1), (2, .long p2)] := hl
    rw [f_X1_decide_b] at hr
    refine lv_aload_n hx hb dX1_decide_0 rfl (lv_at hl 0 rfl) ?_
    refine va_get (D := D) (ci := 1) (v := .int q_z) (C := RX1) (T := TX1) (N := 6) hx hb hts u_X1 hown hk.1 hP 28 rfl rfl 5 (by decide) (hts _ q1_214) (fun _ h9 => h9) rfl dX1_decide_1 ?_
    refine lv_aload_n hx hb dX1_decide_4 rfl (lv_at hl 0 rfl) ?_
    refine va_get (D := D) (ci := 1) (v := .ref (ad 29)) (C := RX1) (T := TX1) (N := 6) hx hb hts u_X1 hown hk.1 hP 28 rfl rfl 1 (by decide) (hts _ q1_210) (fun _ h9 => h9) rfl dX1_decide_5 ?_
    refine va_alen (v := 2) hx hb hk.1 hP 29 1 rfl rfl rfl dX1_decide_8 ?_
    refine lv_icmp_lt (tgt := 13) hx hb dX1_decide_9 (by decide) (fun c9 => ?_) (fun c9 => ?_)
    · have hr := (if_pos c9).symm.trans hr
      refine lv_iload_n hx hb dX1_decide_13 rfl (lv_at hl 1 rfl) ?_
      refine lv_if_ge (tgt := 23) hx hb dX1_decide_14 (by decide) (fun c14 => ?_) (fun c14 => ?_)
      · have hr := (if_pos c14).symm.trans hr
        refine lv_aload_n hx hb dX1_decide_23 rfl (lv_at hl 0 rfl) ?_
        refine va_get (D := D) (ci := 1) (v := .ref (ad 3)) (C := RX1) (T := TX1) (N := 6) hx hb hts u_X1 hown hk.1 hP 28 rfl rfl 0 (by decide) (hts _ q1_209) (fun _ h9 => h9) rfl dX1_decide_24 ?_
        refine lv_astore (lv' := [(4, .ref (ad 3)), (0, .ref (ad 28)), (1, .int p1), (2, .long p2)]) hx hb dX1_decide_27 hl (by decide) rfl (fun ls hl => ?_)
        refine lv_lload_n hx hb dX1_decide_29 rfl (lv_at hl 3 rfl) ?_
        refine lv_aload hx hb dX1_decide_30 (lv_at hl 0 rfl) ?_
        refine lv_iload_n hx hb dX1_decide_32 rfl (lv_at hl 2 rfl) ?_
        refine go_l (ru_V (n := 1) ⟨hx, hb, hml, hown, hts⟩ hk hP (c_X4_roundCell l D cI cL cZ ad c_sr t_n t_r t_w s_w s_h s_c s_p s_s p_nx p_sz r_k r_r r_p l_z q_z t_t b_l b_b b_n r_t l_l l_b l_n q_l q_b q_n t_le s_cs s_ps s_ha s_en pk ik s_ro s_me s_be s_se s_co pl pb pn il ib im l_a q_a hAd p1 _ rfl) (cwV 1 hts (gV q3_127 q2_15 q2_16 q1_3 q2_17) rfl rfl rfl hd_X4_roundCell ⟨by show 0 + 1 ≤ 4 + (n + 1); omega, by show 8 + (2 + 11) + 0 ≤ 97 + 31 * (n + 1); omega⟩) (va_recv hk.1 hP (ci := 4) (q0 := 3) rfl rfl) rfl hl.1 rfl (Nat.le_of_ble_eq_true rfl) dX1_decide_33 ⟨Nat.zero_le _, Nat.zero_le _⟩) hS (fun _ h => h) (fun H locs hP hS => ?_)
        have hP : va_P D vwCl (cw ad cI cL cZ c_sr t_n t_r t_w s_w s_h s_c s_p s_s p_nx p_sz r_k r_r r_p l_z q_z t_t b_l b_b b_n r_t l_l l_b l_n q_l q_b q_n t_le s_cs s_ps s_ha s_en pk ik s_ro s_me s_be s_se s_co pl pb pn il ib im l_a q_a) H := hP
        refine lv_lxor hx hb dX1_decide_36 ?_
        refine lv_lstore (lv' := [(5, .long (p2 ^^^ (f_X4_roundCell p1 s_ro))), (4, .ref (ad 3)), (0, .ref (ad 28)), (1, .int p1), (2, .long p2)]) hx hb dX1_decide_37 hl (by decide) rfl (fun ls hl => ?_)
        refine lv_lload_n hx hb dX1_decide_39 rfl (lv_at hl 4 rfl) ?_
        refine lv_aload hx hb dX1_decide_40 (lv_at hl 1 rfl) ?_
        refine lv_iload_n hx hb dX1_decide_42 rfl (lv_at hl 3 rfl) ?_
        refine lv_iconst (v := 3) hx hb dX1_decide_43 (by decide) ?_
        refine go_i (ru_V (n := 2) ⟨hx, hb, hml, hown, hts⟩ hk hP (c_X4_sideOfCell l D cI cL cZ ad c_sr t_n t_r t_w s_w s_h s_c s_p s_s p_nx p_sz r_k r_r r_p l_z q_z t_t b_l b_b b_n r_t l_l l_b l_n q_l q_b q_n t_le s_cs s_ps s_ha s_en pk ik s_ro s_me s_be s_se s_co pl pb pn il ib im l_a q_a hAd p1 3 _ rfl) (cwV 2 hts (gV q3_128 q2_74 q2_75 q1_3 q2_76) rfl rfl rfl hd_X4_sideOfCell ⟨by show 1 + 1 ≤ 4 + (n + 1); omega, by show 8 + (3 + 11) + 21 ≤ 97 + 31 * (n + 1); omega⟩) (va_recv hk.1 hP (ci := 4) (q0 := 3) rfl rfl) rfl hl.1 rfl (Nat.le_of_ble_eq_true rfl) dX1_decide_44 ⟨Nat.zero_le _, Nat.zero_le _⟩) hS (fun _ h => h) (fun H locs hP hS => ?_)
        have hP : va_P D vwCl (cw ad cI cL cZ c_sr t_n t_r t_w s_w s_h s_c s_p s_s p_nx p_sz r_k r_r r_p l_z q_z t_t b_l b_b b_n r_t l_l l_b l_n q_l q_b q_n t_le s_cs s_ps s_ha s_en pk ik s_ro s_me s_be s_se s_co pl pb pn il ib im l_a q_a) H := hP
        refine go_l (ru_N (n := 1) ⟨hx, hb, hml, hown, hts⟩ hk hP (c_X7_bit l D cI cL cZ (cAd ad) (cw ad cI cL cZ c_sr t_n t_r t_w s_w s_h s_c s_p s_s p_nx p_sz r_k r_r r_p l_z q_z t_t b_l b_b b_n r_t l_l l_b l_n q_l q_b q_n t_le s_cs s_ps s_ha s_en pk ik s_ro s_me s_be s_se s_co pl pb pn il ib im l_a q_a) (f_X4_sideOfCell p1 3 s_cs) _ rfl) ⟨va_cnB 1 hts (gN q2_20) rfl rfl rfl (hk.2 _ nwm_X1_72) (hts _ q1_1) hd_X7_bit ⟨by show 0 + 1 ≤ 4 + (n + 1); omega, by show 8 + (1 + 11) + 0 ≤ 97 + 31 * (n + 1); omega⟩, hts _ q2_19, trivial⟩ rfl hl.1 rfl (Nat.le_of_ble_eq_true rfl) dX1_decide_47 ⟨Nat.zero_le _, Nat.zero_le _⟩) hS (fun _ h => h) (fun H locs hP hS => ?_)
        have hP : va_P D vwCl (cw ad cI cL cZ c_sr t_n t_r t_w s_w s_h s_c s_p s_s p_nx p_sz r_k r_r r_p l_z q_z t_t b_l b_b b_n r_t l_l l_b l_n q_l q_b q_n t_le s_cs s_ps s_ha s_en pk ik s_ro s_me s_be s_se s_co pl pb pn il ib im l_a q_a) H := hP
        refine lv_land hx hb dX1_decide_50 ?_
        refine lv_lconst (v := 0) hx hb dX1_decide_51 (by decide) ?_
        refine W.lcmp hx hb dX1_decide_52 ?_
        refine lv_if_eq (tgt := 60) hx hb dX1_decide_53 (by decide) (fun c53 => ?_) (fun c53 => ?_)
        · have hr := (if_pos c53).symm.trans hr
          refine lv_iconst (v := 0) hx hb dX1_decide_60 (by decide) ?_
          refine lv_istore (lv' := [(7, .int 0), (5, .long (p2 ^^^ (f_X4_roundCell p1 s_ro))), (4, .ref (ad 3)), (0, .ref (ad 28)), (1, .int p1), (2, .long p2)]) hx hb dX1_decide_61 hl (by decide) rfl (fun ls hl => ?_)
          refine lv_iload hx hb dX1_decide_63 (lv_at hl 0 rfl) ?_
          refine lv_if_eq (tgt := 73) hx hb dX1_decide_65 (by decide) (fun c65 => ?_) (fun c65 => ?_)
          · refine lv_lload_n hx hb dX1_decide_73 rfl (lv_at hl 5 rfl) ?_
            refine lv_lstore (lv' := [(8, .long p2), (7, .int 0), (5, .long (p2 ^^^ (f_X4_roundCell p1 s_ro))), (4, .ref (ad 3)), (0, .ref (ad 28)), (1, .int p1), (2, .long p2)]) hx hb dX1_decide_74 hl (by decide) rfl (fun ls hl => ?_)
            refine lv_iload hx hb dX1_decide_76 (lv_at hl 1 rfl) ?_
            refine lv_if_eq (tgt := 85) hx hb dX1_decide_78 (by decide) (fun c78 => ?_) (fun c78 => ?_)
            · refine lv_lload hx hb dX1_decide_85 (lv_at hl 2 rfl) ?_
              refine lv_lstore (lv' := [(10, .long (p2 ^^^ (f_X4_roundCell p1 s_ro))), (8, .long p2), (7, .int 0), (5, .long (p2 ^^^ (f_X4_roundCell p1 s_ro))), (4, .ref (ad 3)), (0, .ref (ad 28)), (1, .int p1), (2, .long p2)]) hx hb dX1_decide_87 hl (by decide) rfl (fun ls hl => ?_)
              refine lv_aload_n hx hb dX1_decide_89 rfl (lv_at hl 5 rfl) ?_
              refine lv_iload_n hx hb dX1_decide_90 rfl (lv_at hl 6 rfl) ?_
              refine lv_lload hx hb dX1_decide_91 (lv_at hl 1 rfl) ?_
              refine go_z (ru_V (n := 2) ⟨hx, hb, hml, hown, hts⟩ hk hP (c_X1_fits_b l D cI cL cZ ad c_sr t_n t_r t_w s_w s_h s_c s_p s_s p_nx p_sz r_k r_r r_p l_z q_z t_t b_l b_b b_n r_t l_l l_b l_n q_l q_b q_n t_le s_cs s_ps s_ha s_en pk ik s_ro s_me s_be s_se s_co pl pb pn il ib im l_a q_a hAd p1 p2 _ rfl) (cwV 2 hts (gV q3_130 q3_132 qs2_11 q1_9 q3_133) rfl rfl rfl hd_X1_fits ⟨by show 2 + 1 ≤ 4 + (n + 1); omega, by show 8 + (8 + 11) + 52 ≤ 97 + 31 * (n + 1); omega⟩) (va_recv hk.1 hP (ci := 1) (q0 := 28) rfl rfl) rfl hl.1 rfl (Nat.le_of_ble_eq_true rfl) dX1_decide_93 ⟨Nat.zero_le _, Nat.zero_le _⟩) hS (fun _ h => h) (fun H locs hz93 hP hS => ?_)
              have hP : va_P D vwCl (cw ad cI cL cZ c_sr t_n t_r t_w s_w s_h s_c s_p s_s p_nx p_sz r_k r_r r_p l_z q_z t_t b_l b_b b_n r_t l_l l_b l_n q_l q_b q_n t_le s_cs s_ps s_ha s_en pk ik s_ro s_me s_be s_se s_co pl pb pn il ib im l_a q_a) H := hP
              refine lv_if_eq (tgt := 108) hx hb dX1_decide_96 (by decide) (fun c96 => ?_) (fun c96 => ?_)
              · have hr := (if_pos c96).symm.trans hr
                refine lv_aload_n hx hb dX1_decide_108 rfl (lv_at hl 5 rfl) ?_
                refine lv_iload_n hx hb dX1_decide_109 rfl (lv_at hl 6 rfl) ?_
                refine lv_lload hx hb dX1_decide_110 (lv_at hl 0 rfl) ?_
                refine go_z (ru_V (n := 2) ⟨hx, hb, hml, hown, hts⟩ hk hP (c_X1_fits_b l D cI cL cZ ad c_sr t_n t_r t_w s_w s_h s_c s_p s_s p_nx p_sz r_k r_r r_p l_z q_z t_t b_l b_b b_n r_t l_l l_b l_n q_l q_b q_n t_le s_cs s_ps s_ha s_en pk ik s_ro s_me s_be s_se s_co pl pb pn il ib im l_a q_a hAd p1 (p2 ^^^ (f_X4_roundCell p1 s_ro)) _ rfl) (cwV 2 hts (gV q3_130 q3_132 qs2_11 q1_9 q3_133) rfl rfl rfl hd_X1_fits ⟨by show 2 + 1 ≤ 4 + (n + 1); omega, by show 8 + (8 + 11) + 52 ≤ 97 + 31 * (n + 1); omega⟩) (va_recv hk.1 hP (ci := 1) (q0 := 28) rfl rfl) rfl hl.1 rfl (Nat.le_of_ble_eq_true rfl) dX1_decide_112 ⟨Nat.zero_le _, Nat.zero_le _⟩) hS (fun _ h => h) (fun H locs hz112 hP hS => ?_)
                have hP : va_P D vwCl (cw ad cI cL cZ c_sr t_n t_r t_w s_w s_h s_c s_p s_s p_nx p_sz r_k r_r r_p l_z q_z t_t b_l b_b b_n r_t l_l l_b l_n q_l q_b q_n t_le s_cs s_ps s_ha s_en pk ik s_ro s_me s_be s_se s_co pl pb pn il ib im l_a q_a) H := hP
                refine lv_if_eq (tgt := 127) hx hb dX1_decide_115 (by decide) (fun c115 => ?_) (fun c115 => ?_)
                · have hr := (if_pos c115).symm.trans hr
                  subst hr
                  exact ret_v hx hb hrt hlocks hP hS dX1_decide_127
                · have hr := (if_neg c115).symm.trans hr
                  refine lv_aload_n hx hb dX1_decide_118 rfl (lv_at hl 5 rfl) ?_
                  refine lv_iload_n hx hb dX1_decide_119 rfl (lv_at hl 6 rfl) ?_
                  refine lv_iconst (v := 1) hx hb dX1_decide_120 (by decide) ?_
                  refine lv_isub hx hb dX1_decide_121 ?_
                  refine lv_lload hx hb dX1_decide_122 (lv_at hl 0 rfl) ?_
                  obtain ⟨u1, hu1⟩ : ∃ z, f_X1_decide_b q_l q_b q_n s_cs s_ha s_ro s_be s_se s_co n (p1 - 1) (p2 ^^^ (f_X4_roundCell p1 s_ro)) q_z q_a = z := ⟨_, rfl⟩
                  have hr := (bd_eq hu1).symm.trans hr
                  refine go_v (ru_S (n := 3) ⟨hx, hb, hml, hown, hts⟩ hk hP (ih q_z q_a (p1 - 1) (p2 ^^^ (f_X4_roundCell p1 s_ro)) _ hu1 (dec_s c14 hd)) (va_cwS 3 hts (gS q3_118 q3_119 q1_9 q3_120) rfl rfl rfl hd_X1_decide ⟨by show 4 + n + 1 ≤ 4 + (n + 1); omega, by show 8 + (12 + 11) + (97 + 31 * n) ≤ 97 + 31 * (n + 1); omega⟩) rfl hl.1 rfl (Nat.le_of_ble_eq_true rfl) dX1_decide_124 ⟨Nat.zero_le _, Nat.zero_le _⟩) hS (fun _ h => h) (fun H locs hP hS => ?_)
                  have hP : va_P D vwCl (cw ad cI cL cZ c_sr t_n t_r t_w s_w s_h s_c s_p s_s p_nx p_sz r_k r_r r_p l_z u1.1 t_t b_l b_b b_n r_t l_l l_b l_n q_l q_b q_n t_le s_cs s_ps s_ha s_en pk ik s_ro s_me s_be s_se s_co pl pb pn il ib im l_a u1.2) H := hP
                  subst hr
                  exact ret_v hx hb hrt hlocks hP hS dX1_decide_127
              · have hr := (if_neg c96).symm.trans hr
                refine lv_aload_n hx hb dX1_decide_99 rfl (lv_at hl 5 rfl) ?_
                refine lv_iload_n hx hb dX1_decide_100 rfl (lv_at hl 6 rfl) ?_
                refine lv_iconst (v := 1) hx hb dX1_decide_101 (by decide) ?_
                refine lv_isub hx hb dX1_decide_102 ?_
                refine lv_lload hx hb dX1_decide_103 (lv_at hl 1 rfl) ?_
                obtain ⟨u2, hu2⟩ : ∃ z, f_X1_decide_b q_l q_b q_n s_cs s_ha s_ro s_be s_se s_co n (p1 - 1) p2 q_z q_a = z := ⟨_, rfl⟩
                have hr := (bd_eq hu2).symm.trans hr
                refine go_v (ru_S (n := 3) ⟨hx, hb, hml, hown, hts⟩ hk hP (ih q_z q_a (p1 - 1) p2 _ hu2 (dec_s c14 hd)) (va_cwS 3 hts (gS q3_118 q3_119 q1_9 q3_120) rfl rfl rfl hd_X1_decide ⟨by show 4 + n + 1 ≤ 4 + (n + 1); omega, by show 8 + (12 + 11) + (97 + 31 * n) ≤ 97 + 31 * (n + 1); omega⟩) rfl hl.1 rfl (Nat.le_of_ble_eq_true rfl) dX1_decide_105 ⟨Nat.zero_le _, Nat.zero_le _⟩) hS (fun _ h => h) (fun H locs hP hS => ?_)
                have hP : va_P D vwCl (cw ad cI cL cZ c_sr t_n t_r t_w s_w s_h s_c s_p s_s p_nx p_sz r_k r_r r_p l_z u2.1 t_t b_l b_b b_n r_t l_l l_b l_n q_l q_b q_n t_le s_cs s_ps s_ha s_en pk ik s_ro s_me s_be s_se s_co pl pb pn il ib im l_a u2.2) H := hP
                refine lv_aload_n hx hb dX1_decide_108 rfl (lv_at hl 5 rfl) ?_
                refine lv_iload_n hx hb dX1_decide_109 rfl (lv_at hl 6 rfl) ?_
                refine lv_lload hx hb dX1_decide_110 (lv_at hl 0 rfl) ?_
                refine go_z (ru_V (n := 2) ⟨hx, hb, hml, hown, hts⟩ hk hP (c_X1_fits_b l D cI cL cZ ad c_sr t_n t_r t_w s_w s_h s_c s_p s_s p_nx p_sz r_k r_r r_p l_z u2.1 t_t b_l b_b b_n r_t l_l l_b l_n q_l q_b q_n t_le s_cs s_ps s_ha s_en pk ik s_ro s_me s_be s_se s_co pl pb pn il ib im l_a u2.2 hAd p1 (p2 ^^^ (f_X4_roundCell p1 s_ro)) _ rfl) (cwV 2 hts (gV q3_130 q3_132 qs2_11 q1_9 q3_133) rfl rfl rfl hd_X1_fits ⟨by show 2 + 1 ≤ 4 + (n + 1); omega, by show 8 + (8 + 11) + 52 ≤ 97 + 31 * (n + 1); omega⟩) (va_recv hk.1 hP (ci := 1) (q0 := 28) rfl rfl) rfl hl.1 rfl (Nat.le_of_ble_eq_true rfl) dX1_decide_112 ⟨Nat.zero_le _, Nat.zero_le _⟩) hS (fun _ h => h) (fun H locs hz112 hP hS => ?_)
                have hP : va_P D vwCl (cw ad cI cL cZ c_sr t_n t_r t_w s_w s_h s_c s_p s_s p_nx p_sz r_k r_r r_p l_z u2.1 t_t b_l b_b b_n r_t l_l l_b l_n q_l q_b q_n t_le s_cs s_ps s_ha s_en pk ik s_ro s_me s_be s_se s_co pl pb pn il ib im l_a u2.2) H := hP
                refine lv_if_eq (tgt := 127) hx hb dX1_decide_115 (by decide) (fun c115 => ?_) (fun c115 => ?_)
                · have hr := (if_pos c115).symm.trans hr
                  subst hr
                  exact ret_v hx hb hrt hlocks hP hS dX1_decide_127
                · have hr := (if_neg c115).symm.trans hr
                  refine lv_aload_n hx hb dX1_decide_118 rfl (lv_at hl 5 rfl) ?_
                  refine lv_iload_n hx hb dX1_decide_119 rfl (lv_at hl 6 rfl) ?_
                  refine lv_iconst (v := 1) hx hb dX1_decide_120 (by decide) ?_
                  refine lv_isub hx hb dX1_decide_121 ?_
                  refine lv_lload hx hb dX1_decide_122 (lv_at hl 0 rfl) ?_
                  obtain ⟨u3, hu3⟩ : ∃ z, f_X1_decide_b q_l q_b q_n s_cs s_ha s_ro s_be s_se s_co n (p1 - 1) (p2 ^^^ (f_X4_roundCell p1 s_ro)) u2.1 u2.2 = z := ⟨_, rfl⟩
                  have hr := (bd_eq hu3).symm.trans hr
                  refine go_v (ru_S (n := 3) ⟨hx, hb, hml, hown, hts⟩ hk hP (ih u2.1 u2.2 (p1 - 1) (p2 ^^^ (f_X4_roundCell p1 s_ro)) _ hu3 (dec_s c14 hd)) (va_cwS 3 hts (gS q3_118 q3_119 q1_9 q3_120) rfl rfl rfl hd_X1_decide ⟨by show 4 + n + 1 ≤ 4 + (n + 1); omega, by show 8 + (12 + 11) + (97 + 31 * n) ≤ 97 + 31 * (n + 1); omega⟩) rfl hl.1 rfl (Nat.le_of_ble_eq_true rfl) dX1_decide_124 ⟨Nat.zero_le _, Nat.zero_le _⟩) hS (fun _ h => h) (fun H locs hP hS => ?_)
                  have hP : va_P D vwCl (cw ad cI cL cZ c_sr t_n t_r t_w s_w s_h s_c s_p s_s p_nx p_sz r_k r_r r_p l_z u3.1 t_t b_l b_b b_n r_t l_l l_b l_n q_l q_b q_n t_le s_cs s_ps s_ha s_en pk ik s_ro s_me s_be s_se s_co pl pb pn il ib im l_a u3.2) H := hP
                  subst hr
                  exact ret_v hx hb hrt hlocks hP hS dX1_decide_127
            · exact absurd (by decide) c78
          · exact absurd (by decide) c65
        · have hr := (if_neg c53).symm.trans hr
          refine lv_iconst (v := 1) hx hb dX1_decide_56 (by decide) ?_
          refine lv_goto (tgt := 61) hx hb dX1_decide_57 (by decide) ?_
          refine lv_istore (lv' := [(7, .int 1), (5, .long (p2 ^^^ (f_X4_roundCell p1 s_ro))), (4, .ref (ad 3)), (0, .ref (ad 28)), (1, .int p1), (2, .long p2)]) hx hb dX1_decide_61 hl (by decide) rfl (fun ls hl => ?_)
          refine lv_iload hx hb dX1_decide_63 (lv_at hl 0 rfl) ?_
          refine lv_if_eq (tgt := 73) hx hb dX1_decide_65 (by decide) (fun c65 => ?_) (fun c65 => ?_)
          · exact absurd c65 (by decide)
          · refine lv_lload hx hb dX1_decide_68 (lv_at hl 1 rfl) ?_
            refine lv_goto (tgt := 74) hx hb dX1_decide_70 (by decide) ?_
            refine lv_lstore (lv' := [(8, .long (p2 ^^^ (f_X4_roundCell p1 s_ro))), (7, .int 1), (5, .long (p2 ^^^ (f_X4_roundCell p1 s_ro))), (4, .ref (ad 3)), (0, .ref (ad 28)), (1, .int p1), (2, .long p2)]) hx hb dX1_decide_74 hl (by decide) rfl (fun ls hl => ?_)
            refine lv_iload hx hb dX1_decide_76 (lv_at hl 1 rfl) ?_
            refine lv_if_eq (tgt := 85) hx hb dX1_decide_78 (by decide) (fun c78 => ?_) (fun c78 => ?_)
            · exact absurd c78 (by decide)
            · refine lv_lload_n hx hb dX1_decide_81 rfl (lv_at hl 6 rfl) ?_
              refine lv_goto (tgt := 87) hx hb dX1_decide_82 (by decide) ?_
              refine lv_lstore (lv' := [(10, .long p2), (8, .long (p2 ^^^ (f_X4_roundCell p1 s_ro))), (7, .int 1), (5, .long (p2 ^^^ (f_X4_roundCell p1 s_ro))), (4, .ref (ad 3)), (0, .ref (ad 28)), (1, .int p1), (2, .long p2)]) hx hb dX1_decide_87 hl (by decide) rfl (fun ls hl => ?_)
              refine lv_aload_n hx hb dX1_decide_89 rfl (lv_at hl 5 rfl) ?_
              refine lv_iload_n hx hb dX1_decide_90 rfl (lv_at hl 6 rfl) ?_
              refine lv_lload hx hb dX1_decide_91 (lv_at hl 1 rfl) ?_
              refine go_z (ru_V (n := 2) ⟨hx, hb, hml, hown, hts⟩ hk hP (c_X1_fits_b l D cI cL cZ ad c_sr t_n t_r t_w s_w s_h s_c s_p s_s p_nx p_sz r_k r_r r_p l_z q_z t_t b_l b_b b_n r_t l_l l_b l_n q_l q_b q_n t_le s_cs s_ps s_ha s_en pk ik s_ro s_me s_be s_se s_co pl pb pn il ib im l_a q_a hAd p1 (p2 ^^^ (f_X4_roundCell p1 s_ro)) _ rfl) (cwV 2 hts (gV q3_130 q3_132 qs2_11 q1_9 q3_133) rfl rfl rfl hd_X1_fits ⟨by show 2 + 1 ≤ 4 + (n + 1); omega, by show 8 + (8 + 11) + 52 ≤ 97 + 31 * (n + 1); omega⟩) (va_recv hk.1 hP (ci := 1) (q0 := 28) rfl rfl) rfl hl.1 rfl (Nat.le_of_ble_eq_true rfl) dX1_decide_93 ⟨Nat.zero_le _, Nat.zero_le _⟩) hS (fun _ h => h) (fun H locs hz93 hP hS => ?_)
              have hP : va_P D vwCl (cw ad cI cL cZ c_sr t_n t_r t_w s_w s_h s_c s_p s_s p_nx p_sz r_k r_r r_p l_z q_z t_t b_l b_b b_n r_t l_l l_b l_n q_l q_b q_n t_le s_cs s_ps s_ha s_en pk ik s_ro s_me s_be s_se s_co pl pb pn il ib im l_a q_a) H := hP
              refine lv_if_eq (tgt := 108) hx hb dX1_decide_96 (by decide) (fun c96 => ?_) (fun c96 => ?_)
              · have hr := (if_pos c96).symm.trans hr
                refine lv_aload_n hx hb dX1_decide_108 rfl (lv_at hl 5 rfl) ?_
                refine lv_iload_n hx hb dX1_decide_109 rfl (lv_at hl 6 rfl) ?_
                refine lv_lload hx hb dX1_decide_110 (lv_at hl 0 rfl) ?_
                refine go_z (ru_V (n := 2) ⟨hx, hb, hml, hown, hts⟩ hk hP (c_X1_fits_b l D cI cL cZ ad c_sr t_n t_r t_w s_w s_h s_c s_p s_s p_nx p_sz r_k r_r r_p l_z q_z t_t b_l b_b b_n r_t l_l l_b l_n q_l q_b q_n t_le s_cs s_ps s_ha s_en pk ik s_ro s_me s_be s_se s_co pl pb pn il ib im l_a q_a hAd p1 p2 _ rfl) (cwV 2 hts (gV q3_130 q3_132 qs2_11 q1_9 q3_133) rfl rfl rfl hd_X1_fits ⟨by show 2 + 1 ≤ 4 + (n + 1); omega, by show 8 + (8 + 11) + 52 ≤ 97 + 31 * (n + 1); omega⟩) (va_recv hk.1 hP (ci := 1) (q0 := 28) rfl rfl) rfl hl.1 rfl (Nat.le_of_ble_eq_true rfl) dX1_decide_112 ⟨Nat.zero_le _, Nat.zero_le _⟩) hS (fun _ h => h) (fun H locs hz112 hP hS => ?_)
                have hP : va_P D vwCl (cw ad cI cL cZ c_sr t_n t_r t_w s_w s_h s_c s_p s_s p_nx p_sz r_k r_r r_p l_z q_z t_t b_l b_b b_n r_t l_l l_b l_n q_l q_b q_n t_le s_cs s_ps s_ha s_en pk ik s_ro s_me s_be s_se s_co pl pb pn il ib im l_a q_a) H := hP
                refine lv_if_eq (tgt := 127) hx hb dX1_decide_115 (by decide) (fun c115 => ?_) (fun c115 => ?_)
                · have hr := (if_pos c115).symm.trans hr
                  subst hr
                  exact ret_v hx hb hrt hlocks hP hS dX1_decide_127
                · have hr := (if_neg c115).symm.trans hr
                  refine lv_aload_n hx hb dX1_decide_118 rfl (lv_at hl 5 rfl) ?_
                  refine lv_iload_n hx hb dX1_decide_119 rfl (lv_at hl 6 rfl) ?_
                  refine lv_iconst (v := 1) hx hb dX1_decide_120 (by decide) ?_
                  refine lv_isub hx hb dX1_decide_121 ?_
                  refine lv_lload hx hb dX1_decide_122 (lv_at hl 0 rfl) ?_
                  obtain ⟨u4, hu4⟩ : ∃ z, f_X1_decide_b q_l q_b q_n s_cs s_ha s_ro s_be s_se s_co n (p1 - 1) p2 q_z q_a = z := ⟨_, rfl⟩
                  have hr := (bd_eq hu4).symm.trans hr
                  refine go_v (ru_S (n := 3) ⟨hx, hb, hml, hown, hts⟩ hk hP (ih q_z q_a (p1 - 1) p2 _ hu4 (dec_s c14 hd)) (va_cwS 3 hts (gS q3_118 q3_119 q1_9 q3_120) rfl rfl rfl hd_X1_decide ⟨by show 4 + n + 1 ≤ 4 + (n + 1); omega, by show 8 + (12 + 11) + (97 + 31 * n) ≤ 97 + 31 * (n + 1); omega⟩) rfl hl.1 rfl (Nat.le_of_ble_eq_true rfl) dX1_decide_124 ⟨Nat.zero_le _, Nat.zero_le _⟩) hS (fun _ h => h) (fun H locs hP hS => ?_)
                  have hP : va_P D vwCl (cw ad cI cL cZ c_sr t_n t_r t_w s_w s_h s_c s_p s_s p_nx p_sz r_k r_r r_p l_z u4.1 t_t b_l b_b b_n r_t l_l l_b l_n q_l q_b q_n t_le s_cs s_ps s_ha s_en pk ik s_ro s_me s_be s_se s_co pl pb pn il ib im l_a u4.2) H := hP
                  subst hr
                  exact ret_v hx hb hrt hlocks hP hS dX1_decide_127
              · have hr := (if_neg c96).symm.trans hr
                refine lv_aload_n hx hb dX1_decide_99 rfl (lv_at hl 5 rfl) ?_
                refine lv_iload_n hx hb dX1_decide_100 rfl (lv_at hl 6 rfl) ?_
                refine lv_iconst (v := 1) hx hb dX1_decide_101 (by decide) ?_
                refine lv_isub hx hb dX1_decide_102 ?_
                refine lv_lload hx hb dX1_decide_103 (lv_at hl 1 rfl) ?_
                obtain ⟨u5, hu5⟩ : ∃ z, f_X1_decide_b q_l q_b q_n s_cs s_ha s_ro s_be s_se s_co n (p1 - 1) (p2 ^^^ (f_X4_roundCell p1 s_ro)) q_z q_a = z := ⟨_, rfl⟩
                have hr := (bd_eq hu5).symm.trans hr
                refine go_v (ru_S (n := 3) ⟨hx, hb, hml, hown, hts⟩ hk hP (ih q_z q_a (p1 - 1) (p2 ^^^ (f_X4_roundCell p1 s_ro)) _ hu5 (dec_s c14 hd)) (va_cwS 3 hts (gS q3_118 q3_119 q1_9 q3_120) rfl rfl rfl hd_X1_decide ⟨by show 4 + n + 1 ≤ 4 + (n + 1); omega, by show 8 + (12 + 11) + (97 + 31 * n) ≤ 97 + 31 * (n + 1); omega⟩) rfl hl.1 rfl (Nat.le_of_ble_eq_true rfl) dX1_decide_105 ⟨Nat.zero_le _, Nat.zero_le _⟩) hS (fun _ h => h) (fun H locs hP hS => ?_)
                have hP : va_P D vwCl (cw ad cI cL cZ c_sr t_n t_r t_w s_w s_h s_c s_p s_s p_nx p_sz r_k r_r r_p l_z u5.1 t_t b_l b_b b_n r_t l_l l_b l_n q_l q_b q_n t_le s_cs s_ps s_ha s_en pk ik s_ro s_me s_be s_se s_co pl pb pn il ib im l_a u5.2) H := hP
                refine lv_aload_n hx hb dX1_decide_108 rfl (lv_at hl 5 rfl) ?_
                refine lv_iload_n hx hb dX1_decide_109 rfl (lv_at hl 6 rfl) ?_
                refine lv_lload hx hb dX1_decide_110 (lv_at hl 0 rfl) ?_
                refine go_z (ru_V (n := 2) ⟨hx, hb, hml, hown, hts⟩ hk hP (c_X1_fits_b l D cI cL cZ ad c_sr t_n t_r t_w s_w s_h s_c s_p s_s p_nx p_sz r_k r_r r_p l_z u5.1 t_t b_l b_b b_n r_t l_l l_b l_n q_l q_b q_n t_le s_cs s_ps s_ha s_en pk ik s_ro s_me s_be s_se s_co pl pb pn il ib im l_a u5.2 hAd p1 p2 _ rfl) (cwV 2 hts (gV q3_130 q3_132 qs2_11 q1_9 q3_133) rfl rfl rfl hd_X1_fits ⟨by show 2 + 1 ≤ 4 + (n + 1); omega, by show 8 + (8 + 11) + 52 ≤ 97 + 31 * (n + 1); omega⟩) (va_recv hk.1 hP (ci := 1) (q0 := 28) rfl rfl) rfl hl.1 rfl (Nat.le_of_ble_eq_true rfl) dX1_decide_112 ⟨Nat.zero_le _, Nat.zero_le _⟩) hS (fun _ h => h) (fun H locs hz112 hP hS => ?_)
                have hP : va_P D vwCl (cw ad cI cL cZ c_sr t_n t_r t_w s_w s_h s_c s_p s_s p_nx p_sz r_k r_r r_p l_z u5.1 t_t b_l b_b b_n r_t l_l l_b l_n q_l q_b q_n t_le s_cs s_ps s_ha s_en pk ik s_ro s_me s_be s_se s_co pl pb pn il ib im l_a u5.2) H := hP
                refine lv_if_eq (tgt := 127) hx hb dX1_decide_115 (by decide) (fun c115 => ?_) (fun c115 => ?_)
                · have hr := (if_pos c115).symm.trans hr
                  subst hr
                  exact ret_v hx hb hrt hlocks hP hS dX1_decide_127
                · have hr := (if_neg c115).symm.trans hr
                  refine lv_aload_n hx hb dX1_decide_118 rfl (lv_at hl 5 rfl) ?_
                  refine lv_iload_n hx hb dX1_decide_119 rfl (lv_at hl 6 rfl) ?_
                  refine lv_iconst (v := 1) hx hb dX1_decide_120 (by decide) ?_
                  refine lv_isub hx hb dX1_decide_121 ?_
                  refine lv_lload hx hb dX1_decide_122 (lv_at hl 0 rfl) ?_
                  obtain ⟨u6, hu6⟩ : ∃ z, f_X1_decide_b q_l q_b q_n s_cs s_ha s_ro s_be s_se s_co n (p1 - 1) p2 u5.1 u5.2 = z := ⟨_, rfl⟩
                  have hr := (bd_eq hu6).symm.trans hr
                  refine go_v (ru_S (n := 3) ⟨hx, hb, hml, hown, hts⟩ hk hP (ih u5.1 u5.2 (p1 - 1) p2 _ hu6 (dec_s c14 hd)) (va_cwS 3 hts (gS q3_118 q3_119 q1_9 q3_120) rfl rfl rfl hd_X1_decide ⟨by show 4 + n + 1 ≤ 4 + (n + 1); omega, by show 8 + (12 + 11) + (97 + 31 * n) ≤ 97 + 31 * (n + 1); omega⟩) rfl hl.1 rfl (Nat.le_of_ble_eq_true rfl) dX1_decide_124 ⟨Nat.zero_le _, Nat.zero_le _⟩) hS (fun _ h => h) (fun H locs hP hS => ?_)
                  have hP : va_P D vwCl (cw ad cI cL cZ c_sr t_n t_r t_w s_w s_h s_c s_p s_s p_nx p_sz r_k r_r r_p l_z u6.1 t_t b_l b_b b_n r_t l_l l_b l_n q_l q_b q_n t_le s_cs s_ps s_ha s_en pk ik s_ro s_me s_be s_se s_co pl pb pn il ib im l_a u6.2) H := hP
                  subst hr
                  exact ret_v hx hb hrt hlocks hP hS dX1_decide_127
      · have hr := (if_neg c14).symm.trans hr
        refine lv_aload_n hx hb dX1_decide_17 rfl (lv_at hl 0 rfl) ?_
        refine lv_lload_n hx hb dX1_decide_18 rfl (lv_at hl 2 rfl) ?_
        obtain ⟨u7, hu7⟩ : ∃ z, f_X1_takeRing_b p2 q_z s_be q_a = z := ⟨_, rfl⟩
        have hr := (bd_eq hu7).symm.trans hr
        refine go_v (ru_V (n := 1) ⟨hx, hb, hml, hown, hts⟩ hk hP (c_X1_takeRing_b l D cI cL cZ ad c_sr t_n t_r t_w s_w s_h s_c s_p s_s p_nx p_sz r_k r_r r_p l_z q_z t_t b_l b_b b_n r_t l_l l_b l_n q_l q_b q_n t_le s_cs s_ps s_ha s_en pk ik s_ro s_me s_be s_se s_co pl pb pn il ib im l_a q_a hAd p2 _ hu7) (cwV 1 hts (gV q3_121 q3_123 qs2_10 q1_9 q3_124) rfl rfl rfl hd_X1_takeRing ⟨by show 3 + 1 ≤ 4 + (n + 1); omega, by show 8 + (4 + 11) + 74 ≤ 97 + 31 * (n + 1); omega⟩) (va_recv hk.1 hP (ci := 1) (q0 := 28) rfl rfl) rfl hl.1 rfl (Nat.le_of_ble_eq_true rfl) dX1_decide_19 ⟨Nat.zero_le _, Nat.zero_le _⟩) hS (fun _ h => h) (fun H locs hP hS => ?_)
        have hP : va_P D vwCl (cw ad cI cL cZ c_sr t_n t_r t_w s_w s_h s_c s_p s_s p_nx p_sz r_k r_r r_p l_z u7.1 t_t b_l b_b b_n r_t l_l l_b l_n q_l q_b q_n t_le s_cs s_ps s_ha s_en pk ik s_ro s_me s_be s_se s_co pl pb pn il ib im l_a u7.2) H := hP
        subst hr
        exact ret_v hx hb hrt hlocks hP hS dX1_decide_22
    · have hr := (if_neg c9).symm.trans hr
      subst hr
      exact ret_v hx hb hrt hlocks hP hS dX1_decide_12
def f_X1_search_b (p1 : Int64) (p3 : Int64) (p5 : Int64) (s_c : Int32) (s_cs : Nat → Int32) (s_ha : Nat → Int32) (s_ro : Nat → Int64) (s_be : Nat → Int64) (s_se : Nat → Int64) (s_co : Nat → Int64) (q_a : Nat → Int64) : Int32 × Int64 × Int64 × Int64 × (Nat → Int64) := (bd (f_X1_decide_b p1 p3 p5 s_cs s_ha s_ro s_be s_se s_co 17 ((minI s_c 16) - 1) 0 0 q_a) (fun u1 => (u1.1, p1, p3, p5, u1.2)))
set_option maxHeartbeats 4000000 in
set_option maxRecDepth 100000 in
theorem c_X1_search_b (l : Launch) (D : va_G) (cI cL cZ : ClassId) (ad : Nat → Nat) (c_sr t_n t_r t_w s_w s_h s_c s_p s_s p_nx p_sz r_k r_r r_p l_z q_z : Int32) (t_t b_l b_b b_n r_t l_l l_b l_n q_l q_b q_n : Int64) (t_le s_cs s_ps s_ha s_en pk ik : Nat → Int32) (s_ro s_me s_be s_se s_co pl pb pn il ib im l_a q_a : Nat → Int64) (hAd : cInj ad) (p1 p3 p5 : Int64) (r : Int32 × Int64 × Int64 × Int64 × (Nat → Int64)) (hr : f_X1_search_b p1 p3 p5 s_c s_cs s_ha s_ro s_be s_se s_co q_a = r) (hc : 0 ≤ s_c.toInt) : MV l yX1_search (Cond.code yX1_search cX1_search 7 none :: W0) 22 655 D cI cL cZ (cAd ad) [.ref (ad 28), .long p1, .long p3, .long p5] (cw ad cI cL cZ c_sr t_n t_r t_w s_w s_h s_c s_p s_s p_nx p_sz r_k r_r r_p l_z q_z t_t b_l b_b b_n r_t l_l l_b l_n q_l q_b q_n t_le s_cs s_ps s_ha s_en pk ik s_ro s_me s_be s_se s_co pl pb pn il ib im l_a q_a) (cw ad cI cL cZ c_sr t_n t_r t_w s_w s_h s_c s_p s_s p_nx p_sz r_k r_r r_p l_z r.1 t_t b_l b_b b_n r_t l_l l_b l_n r.2.1 r.2.2.1 r.2.2.2.1 t_le s_cs s_ps s_ha s_en pk ik s_ro s_me s_be s_se s_co pl pb pn il ib im l_a r.2.2.2.2) := by
  refine mk_start (cc := cX1_search) (maxL := 7) (ret := none) (by decide) rfl (Nat.le_of_ble_eq_true rfl) ?_
  intro p e s m below meth c ls C hP hS hl
  obtain ⟨hx, hb, hml, hrt, hlocks, hown, hts, hk⟩ := C
  have hown : s.vm.findClass RX1 = some m.cls := hown
  have hl : lv_has ls 7 [(0, .ref (ad 28)), (1, .long p1), (3, .long p3), (5, .long p5)] := hl
  rw [f_X1_search_b] at hr
  refine lv_aload_n hx hb dX1_search_0 rfl (lv_at hl 0 rfl) ?_
  refine lv_lload_n hx hb dX1_search_1 rfl (lv_at hl 1 rfl) ?_
  refine va_put (D := D) (ci := 1) (v := .long p1) (ty := .long) (C := RX1) (T := TX1) (N := 6) hx hb hts u_X1 tyX1 tyX1_ok nmX1 hown hk.1 hP (cw_D hAd) hS 28 rfl rfl 2 (by decide) (hts _ q1_211) (fun _ h9 => h9) rfl (tyX1_ok 2 (by decide)) rfl rfl (Nat.le_of_ble_eq_true rfl) dX1_search_2 (fun H locs hP _ hS => ?_)
  have hP : va_P D vwCl (cw ad cI cL cZ c_sr t_n t_r t_w s_w s_h s_c s_p s_s p_nx p_sz r_k r_r r_p l_z q_z t_t b_l b_b b_n r_t l_l l_b l_n p1 q_b q_n t_le s_cs s_ps s_ha s_en pk ik s_ro s_me s_be s_se s_co pl pb pn il ib im l_a q_a) H := hP
  refine lv_aload_n hx hb dX1_search_5 rfl (lv_at hl 0 rfl) ?_
  refine lv_lload_n hx hb dX1_search_6 rfl (lv_at hl 2 rfl) ?_
  refine va_put (D := D) (ci := 1) (v := .long p3) (ty := .long) (C := RX1) (T := TX1) (N := 6) hx hb hts u_X1 tyX1 tyX1_ok nmX1 hown hk.1 hP (cw_D hAd) hS 28 rfl rfl 3 (by decide) (hts _ q1_212) (fun _ h9 => h9) rfl (tyX1_ok 3 (by decide)) rfl rfl (Nat.le_of_ble_eq_true rfl) dX1_search_7 (fun H locs hP _ hS => ?_)
  have hP : va_P D vwCl (cw ad cI cL cZ c_sr t_n t_r t_w s_w s_h s_c s_p s_s p_nx p_sz r_k r_r r_p l_z q_z t_t b_l b_b b_n r_t l_l l_b l_n p1 p3 q_n t_le s_cs s_ps s_ha s_en pk ik s_ro s_me s_be s_se s_co pl pb pn il ib im l_a q_a) H := hP
  refine lv_aload_n hx hb dX1_search_10 rfl (lv_at hl 0 rfl) ?_
  refine lv_lload hx hb dX1_search_11 (lv_at hl 3 rfl) ?_
  refine va_put (D := D) (ci := 1) (v := .long p5) (ty := .long) (C := RX1) (T := TX1) (N := 6) hx hb hts u_X1 tyX1 tyX1_ok nmX1 hown hk.1 hP (cw_D hAd) hS 28 rfl rfl 4 (by decide) (hts _ q1_213) (fun _ h9 => h9) rfl (tyX1_ok 4 (by decide)) rfl rfl (Nat.le_of_ble_eq_true rfl) dX1_search_13 (fun H locs hP _ hS => ?_)
  have hP : va_P D vwCl (cw ad cI cL cZ c_sr t_n t_r t_w s_w s_h s_c s_p s_s p_nx p_sz r_k r_r r_p l_z q_z t_t b_l b_b b_n r_t l_l l_b l_n p1 p3 p5 t_le s_cs s_ps s_ha s_en pk ik s_ro s_me s_be s_se s_co pl pb pn il ib im l_a q_a) H := hP
  refine lv_aload_n hx hb dX1_search_16 rfl (lv_at hl 0 rfl) ?_
  refine lv_iconst (v := 0) hx hb dX1_search_17 (by decide) ?_
  refine va_put (D := D) (ci := 1) (v := .int 0) (ty := .int) (C := RX1) (T := TX1) (N := 6) hx hb hts u_X1 tyX1 tyX1_ok nmX1 hown hk.1 hP (cw_D hAd) hS 28 rfl rfl 5 (by decide) (hts _ q1_214) (fun _ h9 => h9) rfl (tyX1_ok 5 (by decide)) rfl rfl (Nat.le_of_ble_eq_true rfl) dX1_search_18 (fun H locs hP _ hS => ?_)
  have hP : va_P D vwCl (cw ad cI cL cZ c_sr t_n t_r t_w s_w s_h s_c s_p s_s p_nx p_sz r_k r_r r_p l_z 0 t_t b_l b_b b_n r_t l_l l_b l_n p1 p3 p5 t_le s_cs s_ps s_ha s_en pk ik s_ro s_me s_be s_se s_co pl pb pn il ib im l_a q_a) H := hP
  refine lv_aload_n hx hb dX1_search_21 rfl (lv_at hl 0 rfl) ?_
  refine lv_aload_n hx hb dX1_search_22 rfl (lv_at hl 0 rfl) ?_
  refine va_get (D := D) (ci := 1) (v := .ref (ad 3)) (C := RX1) (T := TX1) (N := 6) hx hb hts u_X1 hown hk.1 hP 28 rfl rfl 0 (by decide) (hts _ q1_209) (fun _ h9 => h9) rfl dX1_search_23 ?_
  refine va_get (D := D) (ci := 4) (v := .int s_c) (C := RX4) (T := TX4) (N := 14) hx hb hts u_X4 hown hk.1 hP 3 rfl rfl 2 (by decide) (hts _ q1_61) (fun _ h9 => h9) rfl dX1_search_26 ?_
  refine lv_bipush (v := 16) hx hb dX1_search_29 (by decide) ?_
  refine va_mmin hx hb (hml.trans hl.1.symm) hown (hts _ q3_117) (hts _ q2_63) (hts _ q1_7) (hts _ q2_64) (Nat.le_of_ble_eq_true rfl) (Nat.le_of_ble_eq_true rfl) (Nat.zero_le _) (Nat.zero_le _) dX1_search_31 ?_
  refine lv_iconst (v := 1) hx hb dX1_search_34 (by decide) ?_
  refine lv_isub hx hb dX1_search_35 ?_
  refine lv_lconst (v := 0) hx hb dX1_search_36 (by decide) ?_
  obtain ⟨u1, hu1⟩ : ∃ z, f_X1_decide_b p1 p3 p5 s_cs s_ha s_ro s_be s_se s_co 17 ((minI s_c 16) - 1) 0 0 q_a = z := ⟨_, rfl⟩
  have hr := (bd_eq hu1).symm.trans hr
  refine go_v (ru_S (n := 3) ⟨hx, hb, hml, hown, hts⟩ hk hP (c_X1_decide_b l D cI cL cZ ad c_sr t_n t_r t_w s_w s_h s_c s_p s_s p_nx p_sz r_k r_r r_p l_z t_t b_l b_b b_n r_t l_l l_b l_n p1 p3 p5 t_le s_cs s_ps s_ha s_en pk ik s_ro s_me s_be s_se s_co pl pb pn il ib im l_a hAd 17 0 q_a ((minI s_c 16) - 1) 0 _ hu1 (dec_0 hc)) (va_cwS 3 hts (gS q3_118 q3_119 q1_9 q3_120) rfl rfl rfl hd_X1_decide ⟨Nat.le_of_ble_eq_true rfl, Nat.le_of_ble_eq_true rfl⟩) rfl hl.1 rfl (Nat.le_of_ble_eq_true rfl) dX1_search_37 ⟨Nat.zero_le _, Nat.zero_le _⟩) hS (fun _ h => h) (fun H locs hP hS => ?_)
  have hP : va_P D vwCl (cw ad cI cL cZ c_sr t_n t_r t_w s_w s_h s_c s_p s_s p_nx p_sz r_k r_r r_p l_z u1.1 t_t b_l b_b b_n r_t l_l l_b l_n p1 p3 p5 t_le s_cs s_ps s_ha s_en pk ik s_ro s_me s_be s_se s_co pl pb pn il ib im l_a u1.2) H := hP
  subst hr
  exact ret_v hx hb hrt hlocks hP hS dX1_search_40
