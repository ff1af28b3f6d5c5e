theorem hd_X8_around : yX8_around.cls = RX8 ∧ yX8_around.cls ≠ "java/lang/invoke/MethodHandle" ∧ yX8_around.cls ≠ "java/lang/invoke/VarHandle" ∧ (parseMethodDescriptor yX8_around.desc).map (fun d => d.parameters.length) = some 1 := by decide +kernel
def F_X8_around_5 (y1 : Int32) (m_s : Int32) (m_ho : Nat → Int32) {β : Type} (k0 : Int64 → β) : Nat → Int64 → Int32 → β
  | 0, x2, x4 => k0 x2
  | n + 1, x2, x4 => (if m_s ≤ x4 then k0 x2 else (if 16 ≤ (m_ho (2 * x4).toNatClampNeg) then (if 16 ≤ (m_ho ((2 * x4) + 1).toNatClampNeg) then F_X8_around_5 y1 m_s m_ho k0 n (x2 ||| 0) (x4 + 1) else (if (f_X8_has y1.toInt64 (m_ho ((2 * x4) + 1).toNatClampNeg)) = 0 then F_X8_around_5 y1 m_s m_ho k0 n (x2 ||| 0) (x4 + 1) else F_X8_around_5 y1 m_s m_ho k0 n (x2 ||| (shlL 1 x4)) (x4 + 1))) else (if (f_X8_has y1.toInt64 (m_ho (2 * x4).toNatClampNeg)) = 0 then (if 16 ≤ (m_ho ((2 * x4) + 1).toNatClampNeg) then F_X8_around_5 y1 m_s m_ho k0 n (x2 ||| 0) (x4 + 1) else (if (f_X8_has y1.toInt64 (m_ho ((2 * x4) + 1).toNatClampNeg)) = 0 then F_X8_around_5 y1 m_s m_ho k0 n (x2 ||| 0) (x4 + 1) else F_X8_around_5 y1 m_s m_ho k0 n (x2 ||| (shlL 1 x4)) (x4 + 1))) else (if 16 ≤ (m_ho ((2 * x4) + 1).toNatClampNeg) then F_X8_around_5 y1 m_s m_ho k0 n (x2 ||| (shlL 1 x4)) (x4 + 1) else (if (f_X8_has y1.toInt64 (m_ho ((2 * x4) + 1).toNatClampNeg)) = 0 then F_X8_around_5 y1 m_s m_ho k0 n (x2 ||| (shlL 1 x4)) (x4 + 1) else F_X8_around_5 y1 m_s m_ho k0 n (x2 ||| 0) (x4 + 1))))))
def f_X8_around (p1 : Int32) (m_s : Int32) (m_ho : Nat → Int32) : Int64 := F_X8_around_5 p1 m_s m_ho (fun z1 => z1) (fu m_s (0 : Int32)) 0 0
set_option maxHeartbeats 4000000 in
set_option maxRecDepth 100000 in
theorem lp_X8_around_5 (l : Launch) (D : va_G) (cI cL cZ : ClassId) (ad : Nat → Nat) (m_w m_h m_c m_s m_le m_un m_he m_ro m_wi m_hi m_hr m_hp m_rn m_rw m_rh : Int32) (m_n m_l m_b m_to m_hs : Int64) (m_ho m_tx m_ik m_wt : Nat → Int32) (m_ac m_ap m_pa m_im m_ri : Nat → Int64) {p : Program} {e : Env} {s : State} {m : MethodId} {args : Array Value} {below : List Frame} {meth : Method} {c : Code} {Q : State → Prop} (C : Cx p s m args meth c cX8_around 7 (some .long) W0 RX8 D cI cL cZ) (hAd : mInj ad) (y1 : Int32) (hg : mG m_w m_h m_c m_s) {β : Type} (k0 : Int64 → β) (r : β)
    (h0 : ∀ (e2 : Int64) (H : Heap) (locs : List Loc) (ls : Array Slot), k0 e2 = r → va_P D vwCl (mw ad cI cL cZ m_w m_h m_c m_s m_le m_un m_he m_ro m_wi m_hi m_hr m_hp m_rn m_rw m_rh m_n m_l m_b m_to m_hs m_ho m_tx m_ik m_wt m_ac m_ap m_pa m_im m_ri) H → va_S (mAd ad) s.heap H locs → lv_has ls 7 [(2, .long e2)] → W p l e (rmS 1 22) s m args below meth c H locs 0 0 Q (F0 m 118 ls [])) :
    ∀ (n : Nat) (x2 : Int64) (x4 : Int32) (H : Heap) (locs : List Loc) (ls : Array Slot), fuU n m_s x4 → F_X8_around_5 y1 m_s m_ho k0 n x2 x4 = r → va_P D vwCl (mw ad cI cL cZ m_w m_h m_c m_s m_le m_un m_he m_ro m_wi m_hi m_hr m_hp m_rn m_rw m_rh m_n m_l m_b m_to m_hs m_ho m_tx m_ik m_wt m_ac m_ap m_pa m_im m_ri) H → va_S (mAd ad) s.heap H locs → lv_has ls 7 [(0, .ref (ad 0)), (1, .int y1), (2, .long x2), (4, .int x4)] → W p l e (rmS 1 22) s m args below meth c H locs 0 0 Q (F0 m 5 ls []) := by
  obtain ⟨hx, hb, hml, hrt, hlocks, hown, hts, hk⟩ := C
  intro n
  induction n with
  | zero =>
    intro x2 x4 H locs ls hf
    exact absurd hf.1 (Nat.lt_irrefl 0)
  | succ n ih =>
    intro x2 x4 H locs ls hf hr hP hS hl
    rw [F_X8_around_5] at hr
    refine lv_iload hx hb dX8_around_5 (lv_at hl 3 rfl) ?_
    refine lv_aload_n hx hb dX8_around_7 rfl (lv_at hl 0 rfl) ?_
    refine va_get (D := D) (ci := 8) (v := .int m_s) (C := RX8) (T := TX8) (N := 29) hx hb hts u_X8 hown hk.1 hP 0 rfl rfl 6 (by decide) (hts _ q4_18) (fun _ h9 => h9) rfl dX8_around_8 ?_
    refine lv_icmp_ge (tgt := 118) hx hb dX8_around_11 (by decide) (fun c11 => ?_) (fun c11 => ?_)
    · have hr := (if_pos c11).symm.trans hr
      exact h0 x2 _ _ _ hr hP hS (lv_sub hl [2] rfl)
    · have hr := (if_neg c11).symm.trans hr
      refine lv_aload_n hx hb dX8_around_14 rfl (lv_at hl 0 rfl) ?_
      refine va_get (D := D) (ci := 8) (v := .ref (ad 3)) (C := RX8) (T := TX8) (N := 29) hx hb hts u_X8 hown hk.1 hP 0 rfl rfl 9 (by decide) (hts _ q4_21) (fun _ h9 => h9) rfl dX8_around_15 ?_
      refine lv_iconst (v := 2) hx hb dX8_around_18 (by decide) ?_
      refine lv_iload hx hb dX8_around_19 (lv_at hl 3 rfl) ?_
      refine lv_imul hx hb dX8_around_21 ?_
      refine va_iald hx hb hk.1 hP 3 0 (rfl) rfl (vin_2 (ms_lt hf.2.2 c11 (mG_s hg))) dX8_around_22 ?_
      refine lv_bipush (v := 16) hx hb dX8_around_23 (by decide) ?_
      refine lv_icmp_ge (tgt := 49) hx hb dX8_around_25 (by decide) (fun c25 => ?_) (fun c25 => ?_)
      · have hr := (if_pos c25).symm.trans hr
        refine lv_iconst (v := 0) hx hb dX8_around_49 (by decide) ?_
        refine lv_istore (lv' := [(5, .int 0), (0, .ref (ad 0)), (1, .int y1), (2, .long x2), (4, .int x4)]) hx hb dX8_around_50 hl (by decide) rfl (fun ls hl => ?_)
        refine lv_aload_n hx hb dX8_around_52 rfl (lv_at hl 1 rfl) ?_
        refine va_get (D := D) (ci := 8) (v := .ref (ad 3)) (C := RX8) (T := TX8) (N := 29) hx hb hts u_X8 hown hk.1 hP 0 rfl rfl 9 (by decide) (hts _ q4_21) (fun _ h9 => h9) rfl dX8_around_53 ?_
        refine lv_iconst (v := 2) hx hb dX8_around_56 (by decide) ?_
        refine lv_iload hx hb dX8_around_57 (lv_at hl 4 rfl) ?_
        refine lv_imul hx hb dX8_around_59 ?_
        refine lv_iconst (v := 1) hx hb dX8_around_60 (by decide) ?_
        refine lv_iadd hx hb dX8_around_61 ?_
        refine va_iald hx hb hk.1 hP 3 0 (rfl) rfl (vin_21 (ms_lt hf.2.2 c11 (mG_s hg))) dX8_around_62 ?_
        refine lv_bipush (v := 16) hx hb dX8_around_63 (by decide) ?_
        refine lv_icmp_ge (tgt := 91) hx hb dX8_around_65 (by decide) (fun c65 => ?_) (fun c65 => ?_)
        · have hr := (if_pos c65).symm.trans hr
          refine lv_iconst (v := 0) hx hb dX8_around_91 (by decide) ?_
          refine lv_istore (lv' := [(6, .int 0), (5, .int 0), (0, .ref (ad 0)), (1, .int y1), (2, .long x2), (4, .int x4)]) hx hb dX8_around_92 hl (by decide) rfl (fun ls hl => ?_)
          refine lv_lload_n hx hb dX8_around_94 rfl (lv_at hl 4 rfl) ?_
          refine lv_iload hx hb dX8_around_95 (lv_at hl 1 rfl) ?_
          refine lv_iload hx hb dX8_around_97 (lv_at hl 0 rfl) ?_
          refine lv_icmp_eq (tgt := 109) hx hb dX8_around_99 (by decide) (fun c99 => ?_) (fun c99 => ?_)
          · refine lv_lconst (v := 0) hx hb dX8_around_109 (by decide) ?_
            refine lv_lor hx hb dX8_around_110 ?_
            refine lv_lstore_n (lv' := [(2, .long (x2 ||| 0)), (6, .int 0), (5, .int 0), (0, .ref (ad 0)), (1, .int y1), (4, .int x4)]) hx hb dX8_around_111 rfl hl (by decide) rfl (fun ls hl => ?_)
            refine lv_iinc (v := x4 + 1) (lv' := [(4, .int (x4 + 1)), (2, .long (x2 ||| 0)), (6, .int 0), (5, .int 0), (0, .ref (ad 0)), (1, .int y1)]) hx hb dX8_around_112 hl (k := 5) rfl rfl (by decide) rfl (fun ls hl => ?_)
            refine lv_goto (tgt := 5) hx hb dX8_around_115 (by decide) ?_
            exact ih (x2 ||| 0) (x4 + 1) _ _ _ (fuU_s hf c11) hr hP hS (lv_sub hl [4, 5, 1, 0] rfl)
          · exact absurd (by decide) c99
        · have hr := (if_neg c65).symm.trans hr
          refine lv_iload_n hx hb dX8_around_68 rfl (lv_at hl 2 rfl) ?_
          refine lv_i2l hx hb dX8_around_69 rfl ?_
          refine lv_aload_n hx hb dX8_around_70 rfl (lv_at hl 1 rfl) ?_
          refine va_get (D := D) (ci := 8) (v := .ref (ad 3)) (C := RX8) (T := TX8) (N := 29) hx hb hts u_X8 hown hk.1 hP 0 rfl rfl 9 (by decide) (hts _ q4_21) (fun _ h9 => h9) rfl dX8_around_71 ?_
          refine lv_iconst (v := 2) hx hb dX8_around_74 (by decide) ?_
          refine lv_iload hx hb dX8_around_75 (lv_at hl 4 rfl) ?_
          refine lv_imul hx hb dX8_around_77 ?_
          refine lv_iconst (v := 1) hx hb dX8_around_78 (by decide) ?_
          refine lv_iadd hx hb dX8_around_79 ?_
          refine va_iald hx hb hk.1 hP 3 0 (rfl) rfl (vin_21 (ms_lt hf.2.2 c11 (mG_s hg))) dX8_around_80 ?_
          refine go_z (ru_S (n := 2) ⟨hx, hb, hml, hown, hts⟩ hk hP (c_X8_has l D cI cL cZ (mAd ad) (mw ad cI cL cZ m_w m_h m_c m_s m_le m_un m_he m_ro m_wi m_hi m_hr m_hp m_rn m_rw m_rh m_n m_l m_b m_to m_hs m_ho m_tx m_ik m_wt m_ac m_ap m_pa m_im m_ri) y1.toInt64 (m_ho ((2 * x4) + 1).toNatClampNeg) _ rfl) (va_cwS 2 hts (gS q4_153 q4_154 q1_11 q4_155) rfl rfl rfl hd_X8_has ⟨Nat.le_of_ble_eq_true rfl, Nat.le_of_ble_eq_true rfl⟩) rfl hl.1 rfl (Nat.le_of_ble_eq_true rfl) dX8_around_81 ⟨Nat.zero_le _, Nat.zero_le _⟩) hS (fun _ h => h) (fun H locs hz81 hP hS => ?_)
          have hP : va_P D vwCl (mw ad cI cL cZ m_w m_h m_c m_s m_le m_un m_he m_ro m_wi m_hi m_hr m_hp m_rn m_rw m_rh m_n m_l m_b m_to m_hs m_ho m_tx m_ik m_wt m_ac m_ap m_pa m_im m_ri) H := hP
          refine lv_if_eq (tgt := 91) hx hb dX8_around_84 (by decide) (fun c84 => ?_) (fun c84 => ?_)
          · have hr := (if_pos c84).symm.trans hr
            refine lv_iconst (v := 0) hx hb dX8_around_91 (by decide) ?_
            refine lv_istore (lv' := [(6, .int 0), (5, .int 0), (0, .ref (ad 0)), (1, .int y1), (2, .long x2), (4, .int x4)]) hx hb dX8_around_92 hl (by decide) rfl (fun ls hl => ?_)
            refine lv_lload_n hx hb dX8_around_94 rfl (lv_at hl 4 rfl) ?_
            refine lv_iload hx hb dX8_around_95 (lv_at hl 1 rfl) ?_
            refine lv_iload hx hb dX8_around_97 (lv_at hl 0 rfl) ?_
            refine lv_icmp_eq (tgt := 109) hx hb dX8_around_99 (by decide) (fun c99 => ?_) (fun c99 => ?_)
            · refine lv_lconst (v := 0) hx hb dX8_around_109 (by decide) ?_
              refine lv_lor hx hb dX8_around_110 ?_
              refine lv_lstore_n (lv' := [(2, .long (x2 ||| 0)), (6, .int 0), (5, .int 0), (0, .ref (ad 0)), (1, .int y1), (4, .int x4)]) hx hb dX8_around_111 rfl hl (by decide) rfl (fun ls hl => ?_)
              refine lv_iinc (v := x4 + 1) (lv' := [(4, .int (x4 + 1)), (2, .long (x2 ||| 0)), (6, .int 0), (5, .int 0), (0, .ref (ad 0)), (1, .int y1)]) hx hb dX8_around_112 hl (k := 5) rfl rfl (by decide) rfl (fun ls hl => ?_)
              refine lv_goto (tgt := 5) hx hb dX8_around_115 (by decide) ?_
              exact ih (x2 ||| 0) (x4 + 1) _ _ _ (fuU_s hf c11) hr hP hS (lv_sub hl [4, 5, 1, 0] rfl)
            · exact absurd (by decide) c99
          · have hr := (if_neg c84).symm.trans hr
            refine lv_iconst (v := 1) hx hb dX8_around_87 (by decide) ?_
            refine lv_goto (tgt := 92) hx hb dX8_around_88 (by decide) ?_
            refine lv_istore (lv' := [(6, .int 1), (5, .int 0), (0, .ref (ad 0)), (1, .int y1), (2, .long x2), (4, .int x4)]) hx hb dX8_around_92 hl (by decide) rfl (fun ls hl => ?_)
            refine lv_lload_n hx hb dX8_around_94 rfl (lv_at hl 4 rfl) ?_
            refine lv_iload hx hb dX8_around_95 (lv_at hl 1 rfl) ?_
            refine lv_iload hx hb dX8_around_97 (lv_at hl 0 rfl) ?_
            refine lv_icmp_eq (tgt := 109) hx hb dX8_around_99 (by decide) (fun c99 => ?_) (fun c99 => ?_)
            · exact absurd c99 (by decide)
            · refine lv_lconst (v := 1) hx hb dX8_around_102 (by decide) ?_
              refine lv_iload hx hb dX8_around_103 (lv_at hl 5 rfl) ?_
              refine lv_lshl (v := shlL 1 x4) hx hb dX8_around_105 rfl ?_
              refine lv_goto (tgt := 110) hx hb dX8_around_106 (by decide) ?_
              refine lv_lor hx hb dX8_around_110 ?_
              refine lv_lstore_n (lv' := [(2, .long (x2 ||| (shlL 1 x4))), (6, .int 1), (5, .int 0), (0, .ref (ad 0)), (1, .int y1), (4, .int x4)]) hx hb dX8_around_111 rfl hl (by decide) rfl (fun ls hl => ?_)
              refine lv_iinc (v := x4 + 1) (lv' := [(4, .int (x4 + 1)), (2, .long (x2 ||| (shlL 1 x4))), (6, .int 1), (5, .int 0), (0, .ref (ad 0)), (1, .int y1)]) hx hb dX8_around_112 hl (k := 5) rfl rfl (by decide) rfl (fun ls hl => ?_)
              refine lv_goto (tgt := 5) hx hb dX8_around_115 (by decide) ?_
              exact ih (x2 ||| (shlL 1 x4)) (x4 + 1) _ _ _ (fuU_s hf c11) hr hP hS (lv_sub hl [4, 5, 1, 0] rfl)
      · have hr := (if_neg c25).symm.trans hr
        refine lv_iload_n hx hb dX8_around_28 rfl (lv_at hl 1 rfl) ?_
        refine lv_i2l hx hb dX8_around_29 rfl ?_
        refine lv_aload_n hx hb dX8_around_30 rfl (lv_at hl 0 rfl) ?_
        refine va_get (D := D) (ci := 8) (v := .ref (ad 3)) (C := RX8) (T := TX8) (N := 29) hx hb hts u_X8 hown hk.1 hP 0 rfl rfl 9 (by decide) (hts _ q4_21) (fun _ h9 => h9) rfl dX8_around_31 ?_
        refine lv_iconst (v := 2) hx hb dX8_around_34 (by decide) ?_
        refine lv_iload hx hb dX8_around_35 (lv_at hl 3 rfl) ?_
        refine lv_imul hx hb dX8_around_37 ?_
        refine va_iald hx hb hk.1 hP 3 0 (rfl) rfl (vin_2 (ms_lt hf.2.2 c11 (mG_s hg))) dX8_around_38 ?_
        refine go_z (ru_S (n := 2) ⟨hx, hb, hml, hown, hts⟩ hk hP (c_X8_has l D cI cL cZ (mAd ad) (mw ad cI cL cZ m_w m_h m_c m_s m_le m_un m_he m_ro m_wi m_hi m_hr m_hp m_rn m_rw m_rh m_n m_l m_b m_to m_hs m_ho m_tx m_ik m_wt m_ac m_ap m_pa m_im m_ri) y1.toInt64 (m_ho (2 * x4).toNatClampNeg) _ rfl) (va_cwS 2 hts (gS q4_153 q4_154 q1_11 q4_155) rfl rfl rfl hd_X8_has ⟨Nat.le_of_ble_eq_true rfl, Nat.le_of_ble_eq_true rfl⟩) rfl hl.1 rfl (Nat.le_of_ble_eq_true rfl) dX8_around_39 ⟨Nat.zero_le _, Nat.zero_le _⟩) hS (fun _ h => h) (fun H locs hz39 hP hS => ?_)
        have hP : va_P D vwCl (mw ad cI cL cZ m_w m_h m_c m_s m_le m_un m_he m_ro m_wi m_hi m_hr m_hp m_rn m_rw m_rh m_n m_l m_b m_to m_hs m_ho m_tx m_ik m_wt m_ac m_ap m_pa m_im m_ri) H := hP
        refine lv_if_eq (tgt := 49) hx hb dX8_around_42 (by decide) (fun c42 => ?_) (fun c42 => ?_)
        · have hr := (if_pos c42).symm.trans hr
          refine lv_iconst (v := 0) hx hb dX8_around_49 (by decide) ?_
          refine lv_istore (lv' := [(5, .int 0), (0, .ref (ad 0)), (1, .int y1), (2, .long x2), (4, .int x4)]) hx hb dX8_around_50 hl (by decide) rfl (fun ls hl => ?_)
          refine lv_aload_n hx hb dX8_around_52 rfl (lv_at hl 1 rfl) ?_
          refine va_get (D := D) (ci := 8) (v := .ref (ad 3)) (C := RX8) (T := TX8) (N := 29) hx hb hts u_X8 hown hk.1 hP 0 rfl rfl 9 (by decide) (hts _ q4_21) (fun _ h9 => h9) rfl dX8_around_53 ?_
          refine lv_iconst (v := 2) hx hb dX8_around_56 (by decide) ?_
          refine lv_iload hx hb dX8_around_57 (lv_at hl 4 rfl) ?_
          refine lv_imul hx hb dX8_around_59 ?_
          refine lv_iconst (v := 1) hx hb dX8_around_60 (by decide) ?_
          refine lv_iadd hx hb dX8_around_61 ?_
          refine va_iald hx hb hk.1 hP 3 0 (rfl) rfl (vin_21 (ms_lt hf.2.2 c11 (mG_s hg))) dX8_around_62 ?_
          refine lv_bipush (v := 16) hx hb dX8_around_63 (by decide) ?_
          refine lv_icmp_ge (tgt := 91) hx hb dX8_around_65 (by decide) (fun c65 => ?_) (fun c65 => ?_)
          · have hr := (if_pos c65).symm.trans hr
            refine lv_iconst (v := 0) hx hb dX8_around_91 (by decide) ?_
            refine lv_istore (lv' := [(6, .int 0), (5, .int 0), (0, .ref (ad 0)), (1, .int y1), (2, .long x2), (4, .int x4)]) hx hb dX8_around_92 hl (by decide) rfl (fun ls hl => ?_)
            refine lv_lload_n hx hb dX8_around_94 rfl (lv_at hl 4 rfl) ?_
            refine lv_iload hx hb dX8_around_95 (lv_at hl 1 rfl) ?_
            refine lv_iload hx hb dX8_around_97 (lv_at hl 0 rfl) ?_
            refine lv_icmp_eq (tgt := 109) hx hb dX8_around_99 (by decide) (fun c99 => ?_) (fun c99 => ?_)
            · refine lv_lconst (v := 0) hx hb dX8_around_109 (by decide) ?_
              refine lv_lor hx hb dX8_around_110 ?_
              refine lv_lstore_n (lv' := [(2, .long (x2 ||| 0)), (6, .int 0), (5, .int 0), (0, .ref (ad 0)), (1, .int y1), (4, .int x4)]) hx hb dX8_around_111 rfl hl (by decide) rfl (fun ls hl => ?_)
              refine lv_iinc (v := x4 + 1) (lv' := [(4, .int (x4 + 1)), (2, .long (x2 ||| 0)), (6, .int 0), (5, .int 0), (0, .ref (ad 0)), (1, .int y1)]) hx hb dX8_around_112 hl (k := 5) rfl rfl (by decide) rfl (fun ls hl => ?_)
              refine lv_goto (tgt := 5) hx hb dX8_around_115 (by decide) ?_
              exact ih (x2 ||| 0) (x4 + 1) _ _ _ (fuU_s hf c11) hr hP hS (lv_sub hl [4, 5, 1, 0] rfl)
            · exact absurd (by decide) c99
          · have hr := (if_neg c65).symm.trans hr
            refine lv_iload_n hx hb dX8_around_68 rfl (lv_at hl 2 rfl) ?_
            refine lv_i2l hx hb dX8_around_69 rfl ?_
            refine lv_aload_n hx hb dX8_around_70 rfl (lv_at hl 1 rfl) ?_
            refine va_get (D := D) (ci := 8) (v := .ref (ad 3)) (C := RX8) (T := TX8) (N := 29) hx hb hts u_X8 hown hk.1 hP 0 rfl rfl 9 (by decide) (hts _ q4_21) (fun _ h9 => h9) rfl dX8_around_71 ?_
            refine lv_iconst (v := 2) hx hb dX8_around_74 (by decide) ?_
            refine lv_iload hx hb dX8_around_75 (lv_at hl 4 rfl) ?_
            refine lv_imul hx hb dX8_around_77 ?_
            refine lv_iconst (v := 1) hx hb dX8_around_78 (by decide) ?_
            refine lv_iadd hx hb dX8_around_79 ?_
            refine va_iald hx hb hk.1 hP 3 0 (rfl) rfl (vin_21 (ms_lt hf.2.2 c11 (mG_s hg))) dX8_around_80 ?_
            refine go_z (ru_S (n := 2) ⟨hx, hb, hml, hown, hts⟩ hk hP (c_X8_has l D cI cL cZ (mAd ad) (mw ad cI cL cZ m_w m_h m_c m_s m_le m_un m_he m_ro m_wi m_hi m_hr m_hp m_rn m_rw m_rh m_n m_l m_b m_to m_hs m_ho m_tx m_ik m_wt m_ac m_ap m_pa m_im m_ri) y1.toInt64 (m_ho ((2 * x4) + 1).toNatClampNeg) _ rfl) (va_cwS 2 hts (gS q4_153 q4_154 q1_11 q4_155) rfl rfl rfl hd_X8_has ⟨Nat.le_of_ble_eq_true rfl, Nat.le_of_ble_eq_true rfl⟩) rfl hl.1 rfl (Nat.le_of_ble_eq_true rfl) dX8_around_81 ⟨Nat.zero_le _, Nat.zero_le _⟩) hS (fun _ h => h) (fun H locs hz81 hP hS => ?_)
            have hP : va_P D vwCl (mw ad cI cL cZ m_w m_h m_c m_s m_le m_un m_he m_ro m_wi m_hi m_hr m_hp m_rn m_rw m_rh m_n m_l m_b m_to m_hs m_ho m_tx m_ik m_wt m_ac m_ap m_pa m_im m_ri) H := hP
            refine lv_if_eq (tgt := 91) hx hb dX8_around_84 (by decide) (fun c84 => ?_) (fun c84 => ?_)
            · have hr := (if_pos c84).symm.trans hr
              refine lv_iconst (v := 0) hx hb dX8_around_91 (by decide) ?_
              refine lv_istore (lv' := [(6, .int 0), (5, .int 0), (0, .ref (ad 0)), (1, .int y1), (2, .long x2), (4, .int x4)]) hx hb dX8_around_92 hl (by decide) rfl (fun ls hl => ?_)
              refine lv_lload_n hx hb dX8_around_94 rfl (lv_at hl 4 rfl) ?_
              refine lv_iload hx hb dX8_around_95 (lv_at hl 1 rfl) ?_
              refine lv_iload hx hb dX8_around_97 (lv_at hl 0 rfl) ?_
              refine lv_icmp_eq (tgt := 109) hx hb dX8_around_99 (by decide) (fun c99 => ?_) (fun c99 => ?_)
              · refine lv_lconst (v := 0) hx hb dX8_around_109 (by decide) ?_
                refine lv_lor hx hb dX8_around_110 ?_
                refine lv_lstore_n (lv' := [(2, .long (x2 ||| 0)), (6, .int 0), (5, .int 0), (0, .ref (ad 0)), (1, .int y1), (4, .int x4)]) hx hb dX8_around_111 rfl hl (by decide) rfl (fun ls hl => ?_)
                refine lv_iinc (v := x4 + 1) (lv' := [(4, .int (x4 + 1)), (2, .long (x2 ||| 0)), (6, .int 0), (5, .int 0), (0, .ref (ad 0)), (1, .int y1)]) hx hb dX8_around_112 hl (k := 5) rfl rfl (by decide) rfl (fun ls hl => ?_)
                refine lv_goto (tgt := 5) hx hb dX8_around_115 (by decide) ?_
                exact ih (x2 ||| 0) (x4 + 1) _ _ _ (fuU_s hf c11) hr hP hS (lv_sub hl [4, 5, 1, 0] rfl)
              · exact absurd (by decide) c99
            · have hr := (if_neg c84).symm.trans hr
              refine lv_iconst (v := 1) hx hb dX8_around_87 (by decide) ?_
              refine lv_goto (tgt := 92) hx hb dX8_around_88 (by decide) ?_
              refine lv_istore (lv' := [(6, .int 1), (5, .int 0), (0, .ref (ad 0)), (1, .int y1), (2, .long x2), (4, .int x4)]) hx hb dX8_around_92 hl (by decide) rfl (fun ls hl => ?_)
              refine lv_lload_n hx hb dX8_around_94 rfl (lv_at hl 4 rfl) ?_
              refine lv_iload hx hb dX8_around_95 (lv_at hl 1 rfl) ?_
              refine lv_iload hx hb dX8_around_97 (lv_at hl 0 rfl) ?_
              refine lv_icmp_eq (tgt := 109) hx hb dX8_around_99 (by decide) (fun c99 => ?_) (fun c99 => ?_)
              · exact absurd c99 (by decide)
              · refine lv_lconst (v := 1) hx hb dX8_around_102 (by decide) ?_
                refine lv_iload hx hb dX8_around_103 (lv_at hl 5 rfl) ?_
                refine lv_lshl (v := shlL 1 x4) hx hb dX8_around_105 rfl ?_
                refine lv_goto (tgt := 110) hx hb dX8_around_106 (by decide) ?_
                refine lv_lor hx hb dX8_around_110 ?_
                refine lv_lstore_n (lv' := [(2, .long (x2 ||| (shlL 1 x4))), (6, .int 1), (5, .int 0), (0, .ref (ad 0)), (1, .int y1), (4, .int x4)]) hx hb dX8_around_111 rfl hl (by decide) rfl (fun ls hl => ?_)
                refine lv_iinc (v := x4 + 1) (lv' := [(4, .int (x4 + 1)), (2, .long (x2 ||| (shlL 1 x4))), (6, .int 1), (5, .int 0), (0, .ref (ad 0)), (1, .int y1)]) hx hb dX8_around_112 hl (k := 5) rfl rfl (by decide) rfl (fun ls hl => ?_)
                refine lv_goto (tgt := 5) hx hb dX8_around_115 (by decide) ?_
                exact ih (x2 ||| (shlL 1 x4)) (x4 + 1) _ _ _ (fuU_s hf c11) hr hP hS (lv_sub hl [4, 5, 1, 0] rfl)
        · have hr := (if_neg c42).symm.trans hr
          refine lv_iconst (v := 1) hx hb dX8_around_45 (by decide) ?_
          refine lv_goto (tgt := 50) hx hb dX8_around_46 (by decide) ?_
          refine lv_istore (lv' := [(5, .int 1), (0, .ref (ad 0)), (1, .int y1), (2, .long x2), (4, .int x4)]) hx hb dX8_around_50 hl (by decide) rfl (fun ls hl => ?_)
          refine lv_aload_n hx hb dX8_around_52 rfl (lv_at hl 1 rfl) ?_
          refine va_get (D := D) (ci := 8) (v := .ref (ad 3)) (C := RX8) (T := TX8) (N := 29) hx hb hts u_X8 hown hk.1 hP 0 rfl rfl 9 (by decide) (hts _ q4_21) (fun _ h9 => h9) rfl dX8_around_53 ?_
          refine lv_iconst (v := 2) hx hb dX8_around_56 (by decide) ?_
          refine lv_iload hx hb dX8_around_57 (lv_at hl 4 rfl) ?_
          refine lv_imul hx hb dX8_around_59 ?_
          refine lv_iconst (v := 1) hx hb dX8_around_60 (by decide) ?_
          refine lv_iadd hx hb dX8_around_61 ?_
          refine va_iald hx hb hk.1 hP 3 0 (rfl) rfl (vin_21 (ms_lt hf.2.2 c11 (mG_s hg))) dX8_around_62 ?_
          refine lv_bipush (v := 16) hx hb dX8_around_63 (by decide) ?_
          refine lv_icmp_ge (tgt := 91) hx hb dX8_around_65 (by decide) (fun c65 => ?_) (fun c65 => ?_)
          · have hr := (if_pos c65).symm.trans hr
            refine lv_iconst (v := 0) hx hb dX8_around_91 (by decide) ?_
            refine lv_istore (lv' := [(6, .int 0), (5, .int 1), (0, .ref (ad 0)), (1, .int y1), (2, .long x2), (4, .int x4)]) hx hb dX8_around_92 hl (by decide) rfl (fun ls hl => ?_)
            refine lv_lload_n hx hb dX8_around_94 rfl (lv_at hl 4 rfl) ?_
            refine lv_iload hx hb dX8_around_95 (lv_at hl 1 rfl) ?_
            refine lv_iload hx hb dX8_around_97 (lv_at hl 0 rfl) ?_
            refine lv_icmp_eq (tgt := 109) hx hb dX8_around_99 (by decide) (fun c99 => ?_) (fun c99 => ?_)
            · exact absurd c99 (by decide)
            · refine lv_lconst (v := 1) hx hb dX8_around_102 (by decide) ?_
              refine lv_iload hx hb dX8_around_103 (lv_at hl 5 rfl) ?_
              refine lv_lshl (v := shlL 1 x4) hx hb dX8_around_105 rfl ?_
              refine lv_goto (tgt := 110) hx hb dX8_around_106 (by decide) ?_
              refine lv_lor hx hb dX8_around_110 ?_
              refine lv_lstore_n (lv' := [(2, .long (x2 ||| (shlL 1 x4))), (6, .int 0), (5, .int 1), (0, .ref (ad 0)), (1, .int y1), (4, .int x4)]) hx hb dX8_around_111 rfl hl (by decide) rfl (fun ls hl => ?_)
              refine lv_iinc (v := x4 + 1) (lv' := [(4, .int (x4 + 1)), (2, .long (x2 ||| (shlL 1 x4))), (6, .int 0), (5, .int 1), (0, .ref (ad 0)), (1, .int y1)]) hx hb dX8_around_112 hl (k := 5) rfl rfl (by decide) rfl (fun ls hl => ?_)
              refine lv_goto (tgt := 5) hx hb dX8_around_115 (by decide) ?_
              exact ih (x2 ||| (shlL 1 x4)) (x4 + 1) _ _ _ (fuU_s hf c11) hr hP hS (lv_sub hl [4, 5, 1, 0] rfl)
          · have hr := (if_neg c65).symm.trans hr
            refine lv_iload_n hx hb dX8_around_68 rfl (lv_at hl 2 rfl) ?_
            refine lv_i2l hx hb dX8_around_69 rfl ?_
            refine lv_aload_n hx hb dX8_around_70 rfl (lv_at hl 1 rfl) ?_
            refine va_get (D := D) (ci := 8) (v := .ref (ad 3)) (C := RX8) (T := TX8) (N := 29) hx hb hts u_X8 hown hk.1 hP 0 rfl rfl 9 (by decide) (hts _ q4_21) (fun _ h9 => h9) rfl dX8_around_71 ?_
            refine lv_iconst (v := 2) hx hb dX8_around_74 (by decide) ?_
            refine lv_iload hx hb dX8_around_75 (lv_at hl 4 rfl) ?_
            refine lv_imul hx hb dX8_around_77 ?_
            refine lv_iconst (v := 1) hx hb dX8_around_78 (by decide) ?_
            refine lv_iadd hx hb dX8_around_79 ?_
            refine va_iald hx hb hk.1 hP 3 0 (rfl) rfl (vin_21 (ms_lt hf.2.2 c11 (mG_s hg))) dX8_around_80 ?_
            refine go_z (ru_S (n := 2) ⟨hx, hb, hml, hown, hts⟩ hk hP (c_X8_has l D cI cL cZ (mAd ad) (mw ad cI cL cZ m_w m_h m_c m_s m_le m_un m_he m_ro m_wi m_hi m_hr m_hp m_rn m_rw m_rh m_n m_l m_b m_to m_hs m_ho m_tx m_ik m_wt m_ac m_ap m_pa m_im m_ri) y1.toInt64 (m_ho ((2 * x4) + 1).toNatClampNeg) _ rfl) (va_cwS 2 hts (gS q4_153 q4_154 q1_11 q4_155) rfl rfl rfl hd_X8_has ⟨Nat.le_of_ble_eq_true rfl, Nat.le_of_ble_eq_true rfl⟩) rfl hl.1 rfl (Nat.le_of_ble_eq_true rfl) dX8_around_81 ⟨Nat.zero_le _, Nat.zero_le _⟩) hS (fun _ h => h) (fun H locs hz81 hP hS => ?_)
            have hP : va_P D vwCl (mw ad cI cL cZ m_w m_h m_c m_s m_le m_un m_he m_ro m_wi m_hi m_hr m_hp m_rn m_rw m_rh m_n m_l m_b m_to m_hs m_ho m_tx m_ik m_wt m_ac m_ap m_pa m_im m_ri) H := hP
            refine lv_if_eq (tgt := 91) hx hb dX8_around_84 (by decide) (fun c84 => ?_) (fun c84 => ?_)
            · have hr := (if_pos c84).symm.trans hr
              refine lv_iconst (v := 0) hx hb dX8_around_91 (by decide) ?_
              refine lv_istore (lv' := [(6, .int 0), (5, .int 1), (0, .ref (ad 0)), (1, .int y1), (2, .long x2), (4, .int x4)]) hx hb dX8_around_92 hl (by decide) rfl (fun ls hl => ?_)
              refine lv_lload_n hx hb dX8_around_94 rfl (lv_at hl 4 rfl) ?_
              refine lv_iload hx hb dX8_around_95 (lv_at hl 1 rfl) ?_
              refine lv_iload hx hb dX8_around_97 (lv_at hl 0 rfl) ?_
              refine lv_icmp_eq (tgt := 109) hx hb dX8_around_99 (by decide) (fun c99 => ?_) (fun c99 => ?_)
              · exact absurd c99 (by decide)
              · refine lv_lconst (v := 1) hx hb dX8_around_102 (by decide) ?_
                refine lv_iload hx hb dX8_around_103 (lv_at hl 5 rfl) ?_
                refine lv_lshl (v := shlL 1 x4) hx hb dX8_around_105 rfl ?_
                refine lv_goto (tgt := 110) hx hb dX8_around_106 (by decide) ?_
                refine lv_lor hx hb dX8_around_110 ?_
                refine lv_lstore_n (lv' := [(2, .long (x2 ||| (shlL 1 x4))), (6, .int 0), (5, .int 1), (0, .ref (ad 0)), (1, .int y1), (4, .int x4)]) hx hb dX8_around_111 rfl hl (by decide) rfl (fun ls hl => ?_)
                refine lv_iinc (v := x4 + 1) (lv' := [(4, .int (x4 + 1)), (2, .long (x2 ||| (shlL 1 x4))), (6, .int 0), (5, .int 1), (0, .ref (ad 0)), (1, .int y1)]) hx hb dX8_around_112 hl (k := 5) rfl rfl (by decide) rfl (fun ls hl => ?_)
                refine lv_goto (tgt := 5) hx hb dX8_around_115 (by decide) ?_
                exact ih (x2 ||| (shlL 1 x4)) (x4 + 1) _ _ _ (fuU_s hf c11) hr hP hS (lv_sub hl [4, 5, 1, 0] rfl)
            · have hr := (if_neg c84).symm.trans hr
              refine lv_iconst (v := 1) hx hb dX8_around_87 (by decide) ?_
              refine lv_goto (tgt := 92) hx hb dX8_around_88 (by decide) ?_
              refine lv_istore (lv' := [(6, .int 1), (5, .int 1), (0, .ref (ad 0)), (1, .int y1), (2, .long x2), (4, .int x4)]) hx hb dX8_around_92 hl (by decide) rfl (fun ls hl => ?_)
              refine lv_lload_n hx hb dX8_around_94 rfl (lv_at hl 4 rfl) ?_
              refine lv_iload hx hb dX8_around_95 (lv_at hl 1 rfl) ?_
              refine lv_iload hx hb dX8_around_97 (lv_at hl 0 rfl) ?_
              refine lv_icmp_eq (tgt := 109) hx hb dX8_around_99 (by decide) (fun c99 => ?_) (fun c99 => ?_)
              · refine lv_lconst (v := 0) hx hb dX8_around_109 (by decide) ?_
                refine lv_lor hx hb dX8_around_110 ?_
                refine lv_lstore_n (lv' := [(2, .long (x2 ||| 0)), (6, .int 1), (5, .int 1), (0, .ref (ad 0)), (1, .int y1), (4, .int x4)]) hx hb dX8_around_111 rfl hl (by decide) rfl (fun ls hl => ?_)
                refine lv_iinc (v := x4 + 1) (lv' := [(4, .int (x4 + 1)), (2, .long (x2 ||| 0)), (6, .int 1), (5, .int 1), (0, .ref (ad 0)), (1, .int y1)]) hx hb dX8_around_112 hl (k := 5) rfl rfl (by decide) rfl (fun ls hl => ?_)
                refine lv_goto (tgt := 5) hx hb dX8_around_115 (by decide) ?_
                exact ih (x2 ||| 0) (x4 + 1) _ _ _ (fuU_s hf c11) hr hP hS (lv_sub hl [4, 5, 1, 0] rfl)
              · exact absurd (by decide) c99
set_option maxHeartbeats 4000000 in
set_option maxRecDepth 100000 in
theorem c_X8_around (l : Launch) (D : va_G) (cI cL cZ : ClassId) (ad : Nat → Nat) (m_w m_h m_c m_s m_le m_un m_he m_ro m_wi m_hi m_hr m_hp m_rn m_rw m_rh : Int32) (m_n m_l m_b m_to m_hs : Int64) (m_ho m_tx m_ik m_wt : Nat → Int32) (m_ac m_ap m_pa m_im m_ri : Nat → Int64) (hAd : mInj ad) (p1 : Int32) (r : Int64) (hr : f_X8_around p1 m_s m_ho = r) (hg : mG m_w m_h m_c m_s) : ML l yX8_around (Cond.code yX8_around cX8_around 7 (some .long) :: W0) 1 22 D cI cL cZ (mAd ad) [.ref (ad 0), .int p1] (mw ad cI cL cZ m_w m_h m_c m_s m_le m_un m_he m_ro m_wi m_hi m_hr m_hp m_rn m_rw m_rh m_n m_l m_b m_to m_hs m_ho m_tx m_ik m_wt m_ac m_ap m_pa m_im m_ri) r (mw ad cI cL cZ m_w m_h m_c m_s m_le m_un m_he m_ro m_wi m_hi m_hr m_hp m_rn m_rw m_rh m_n m_l m_b m_to m_hs m_ho m_tx m_ik m_wt m_ac m_ap m_pa m_im m_ri) := by
  refine mk_start (cc := cX8_around) (maxL := 7) (ret := (some .long)) (by decide) rfl (Nat.le_of_ble_eq_true rfl) ?_
  intro p e s m below meth c ls C hP hS hl
  obtain ⟨hx, hb, hml, hrt, hlocks, hown, hts, hk⟩ := C
  have hown : s.vm.findClass RX8 = some m.cls := hown
  have hl : lv_has ls 7 [(0, .ref (ad 0)), (1, .int p1)] := hl
  rw [f_X8_around] at hr
  refine lv_lconst (v := 0) hx hb dX8_around_0 (by decide) ?_
  refine lv_lstore_n (lv' := [(2, .long 0), (0, .ref (ad 0)), (1, .int p1)]) hx hb dX8_around_1 rfl hl (by decide) rfl (fun ls hl => ?_)
  refine lv_iconst (v := 0) hx hb dX8_around_2 (by decide) ?_
  refine lv_istore (lv' := [(4, .int 0), (2, .long 0), (0, .ref (ad 0)), (1, .int p1)]) hx hb dX8_around_3 hl (by decide) rfl (fun ls hl => ?_)
  refine lp_X8_around_5 l D cI cL cZ ad m_w m_h m_c m_s m_le m_un m_he m_ro m_wi m_hi m_hr m_hp m_rn m_rw m_rh m_n m_l m_b m_to m_hs m_ho m_tx m_ik m_wt m_ac m_ap m_pa m_im m_ri ⟨hx, hb, hml, hrt, hlocks, hown, hts, hk⟩ hAd p1 hg _ _ (fun z1 H locs ls hr hP hS hl => ?_) (fu m_s (0 : Int32)) 0 0 _ _ _ (fuU_0 (by decide)) hr hP hS (lv_sub hl [2, 3, 1, 0] rfl)
  refine lv_lload_n hx hb dX8_around_118 rfl (lv_at hl 0 rfl) ?_
  subst hr
  exact ret_l hx hb hrt hlocks hP hS dX8_around_119
theorem hd_X8_isRing : yX8_isRing.cls = RX8 ∧ yX8_isRing.cls ≠ "java/lang/invoke/MethodHandle" ∧ yX8_isRing.cls ≠ "java/lang/invoke/VarHandle" ∧ (parseMethodDescriptor yX8_isRing.desc).map (fun d => d.parameters.length) = some 1 := by decide +kernel
def F_X8_isRing_5 (y1 : Int64) (m_w : Int32) (m_h : Int32) (m_ap : Nat → Int64) {β : Type} (k0 : Int32 → β) : Nat → Int32 → Int32 → β
  | 0, x3, x4 => k0 x3
  | n + 1, x3, x4 => (if (f_X8_points m_w m_h) ≤ x4 then k0 x3 else (if x3 = 0 then k0 x3 else (if (f_X8_ones ((m_ap x4.toNatClampNeg) &&& y1)) = 0 then F_X8_isRing_5 y1 m_w m_h m_ap k0 n 1 (x4 + 1) else (if (f_X8_ones ((m_ap x4.toNatClampNeg) &&& y1)) = 2 then F_X8_isRing_5 y1 m_w m_h m_ap k0 n 1 (x4 + 1) else F_X8_isRing_5 y1 m_w m_h m_ap k0 n 0 (x4 + 1)))))
def f_X8_isRing (p1 : Int64) (m_w : Int32) (m_h : Int32) (m_ap : Nat → Int64) : Int32 := F_X8_isRing_5 p1 m_w m_h m_ap (fun z1 => (if z1 = 0 then 0 else (if (lg_cmp (f_X8_chain (p1 &&& (-p1)) p1 m_w m_h m_ap) p1) = 0 then 1 else 0))) (fu (f_X8_points m_w m_h) (0 : Int32)) 1 0
set_option maxHeartbeats 4000000 in
set_option maxRecDepth 100000 in
theorem lp_X8_isRing_5 (l : Launch) (D : va_G) (cI cL cZ : ClassId) (ad : Nat → Nat) (m_w m_h m_c m_s m_le m_un m_he m_ro m_wi m_hi m_hr m_hp m_rn m_rw m_rh : Int32) (m_n m_l m_b m_to m_hs : Int64) (m_ho m_tx m_ik m_wt : Nat → Int32) (m_ac m_ap m_pa m_im m_ri : Nat → Int64) {p : Program} {e : Env} {s : State} {m : MethodId} {args : Array Value} {below : List Frame} {meth : Method} {c : Code} {Q : State → Prop} (C : Cx p s m args meth c cX8_isRing 6 (some .boolean) W0 RX8 D cI cL cZ) (hAd : mInj ad) (y1 : Int64) (hg : mG m_w m_h m_c m_s) {β : Type} (k0 : Int32 → β) (r : β)
    (h0 : ∀ (e3 : Int32) (H : Heap) (locs : List Loc) (ls : Array Slot), bz e3 → k0 e3 = r → va_P D vwCl (mw ad cI cL cZ m_w m_h m_c m_s m_le m_un m_he m_ro m_wi m_hi m_hr m_hp m_rn m_rw m_rh m_n m_l m_b m_to m_hs m_ho m_tx m_ik m_wt m_ac m_ap m_pa m_im m_ri) H → va_S (mAd ad) s.heap H locs → lv_has ls 6 [(0, .ref (ad 0)), (1, .long y1), (3, .int e3)] → W p l e (rmS 2 49) s m args below meth c H locs 0 0 Q (F0 m 55 ls [])) :
    ∀ (n : Nat) (x3 x4 : Int32) (H : Heap) (locs : List Loc) (ls : Array Slot), fuU n (f_X8_points m_w m_h) x4 ∧ bz x3 → F_X8_isRing_5 y1 m_w m_h m_ap k0 n x3 x4 = r → va_P D vwCl (mw ad cI cL cZ m_w m_h m_c m_s m_le m_un m_he m_ro m_wi m_hi m_hr m_hp m_rn m_rw m_rh m_n m_l m_b m_to m_hs m_ho m_tx m_ik m_wt m_ac m_ap m_pa m_im m_ri) H → va_S (mAd ad) s.heap H locs → lv_has ls 6 [(0, .ref (ad 0)), (1, .long y1), (3, .int x3), (4, .int x4)] → W p l e (rmS 2 49) s m args below meth c H locs 0 0 Q (F0 m 5 ls []) := by
  obtain ⟨hx, hb, hml, hrt, hlocks, hown, hts, hk⟩ := C
  intro n
  induction n with
  | zero =>
    intro x3 x4 H locs ls hf
    exact absurd hf.1.1 (Nat.lt_irrefl 0)
  | succ n ih =>
    intro x3 x4 H locs ls hf hr hP hS hl
    rw [F_X8_isRing_5] at hr
    refine lv_iload hx hb dX8_isRing_5 (lv_at hl 3 rfl) ?_
    refine lv_aload_n hx hb dX8_isRing_7 rfl (lv_at hl 0 rfl) ?_
    refine go_i (ru_V (n := 0) ⟨hx, hb, hml, hown, hts⟩ hk hP (c_X8_points l D cI cL cZ ad m_w m_h m_c m_s m_le m_un m_he m_ro m_wi m_hi m_hr m_hp m_rn m_rw m_rh m_n m_l m_b m_to m_hs m_ho m_tx m_ik m_wt m_ac m_ap m_pa m_im m_ri hAd _ rfl) (cwV 0 hts (gV q4_160 q4_162 qs3_11 q1_11 q4_163) rfl rfl rfl hd_X8_points ⟨Nat.le_of_ble_eq_true rfl, Nat.le_of_ble_eq_true rfl⟩) (va_recv hk.1 hP (ci := 8) (q0 := 0) rfl rfl) rfl hl.1 rfl (Nat.le_of_ble_eq_true rfl) dX8_isRing_8 ⟨Nat.zero_le _, Nat.zero_le _⟩) hS (fun _ h => h) (fun H locs hP hS => ?_)
    have hP : va_P D vwCl (mw ad cI cL cZ m_w m_h m_c m_s m_le m_un m_he m_ro m_wi m_hi m_hr m_hp m_rn m_rw m_rh m_n m_l m_b m_to m_hs m_ho m_tx m_ik m_wt m_ac m_ap m_pa m_im m_ri) H := hP
    refine lv_icmp_ge (tgt := 55) hx hb dX8_isRing_11 (by decide) (fun c11 => ?_) (fun c11 => ?_)
    · have hr := (if_pos c11).symm.trans hr
      exact h0 x3 _ _ _ hf.2 hr hP hS (lv_sub hl [0, 1, 2] rfl)
    · have hr := (if_neg c11).symm.trans hr
      refine lv_iload_n hx hb dX8_isRing_14 rfl (lv_at hl 2 rfl) ?_
      refine lv_if_eq (tgt := 55) hx hb dX8_isRing_15 (by decide) (fun c15 => ?_) (fun c15 => ?_)
      · have hr := (if_pos c15).symm.trans hr
        exact h0 x3 _ _ _ hf.2 hr hP hS (lv_sub hl [0, 1, 2] rfl)
      · have hr := (if_neg c15).symm.trans hr
        refine lv_aload_n hx hb dX8_isRing_18 rfl (lv_at hl 0 rfl) ?_
        refine va_get (D := D) (ci := 8) (v := .ref (ad 2)) (C := RX8) (T := TX8) (N := 29) hx hb hts u_X8 hown hk.1 hP 0 rfl rfl 8 (by decide) (hts _ q4_20) (fun _ h9 => h9) rfl dX8_isRing_19 ?_
        refine lv_iload hx hb dX8_isRing_22 (lv_at hl 3 rfl) ?_
        refine va_lald hx hb hk.1 hP 2 1 (rfl) rfl (vin_c hf.1.2.2 c11 (mG_p hg)) dX8_isRing_24 ?_
        refine lv_lload_n hx hb dX8_isRing_25 rfl (lv_at hl 1 rfl) ?_
        refine lv_land hx hb dX8_isRing_26 ?_
        refine go_i (ru_S (n := 1) ⟨hx, hb, hml, hown, hts⟩ hk hP (c_X8_ones l D cI cL cZ (mAd ad) (mw ad cI cL cZ m_w m_h m_c m_s m_le m_un m_he m_ro m_wi m_hi m_hr m_hp m_rn m_rw m_rh m_n m_l m_b m_to m_hs m_ho m_tx m_ik m_wt m_ac m_ap m_pa m_im m_ri) ((m_ap x4.toNatClampNeg) &&& y1) _ rfl) (va_cwS 1 hts (gS q4_213 q4_214 q1_11 q4_215) rfl rfl rfl hd_X8_ones ⟨Nat.le_of_ble_eq_true rfl, Nat.le_of_ble_eq_true rfl⟩) rfl hl.1 rfl (Nat.le_of_ble_eq_true rfl) dX8_isRing_27 ⟨Nat.zero_le _, Nat.zero_le _⟩) hS (fun _ h => h) (fun H locs hP hS => ?_)
        have hP : va_P D vwCl (mw ad cI cL cZ m_w m_h m_c m_s m_le m_un m_he m_ro m_wi m_hi m_hr m_hp m_rn m_rw m_rh m_n m_l m_b m_to m_hs m_ho m_tx m_ik m_wt m_ac m_ap m_pa m_im m_ri) H := hP
        refine lv_istore (lv' := [(5, .int (f_X8_ones ((m_ap x4.toNatClampNeg) &&& y1))), (0, .ref (ad 0)), (1, .long y1), (3, .int x3), (4, .int x4)]) hx hb dX8_isRing_30 hl (by decide) rfl (fun ls hl => ?_)
        refine lv_iload hx hb dX8_isRing_32 (lv_at hl 0 rfl) ?_
        refine lv_if_eq (tgt := 43) hx hb dX8_isRing_34 (by decide) (fun c34 => ?_) (fun c34 => ?_)
        · have hr := (if_pos c34).symm.trans hr
          refine lv_iconst (v := 1) hx hb dX8_isRing_43 (by decide) ?_
          refine lv_goto (tgt := 48) hx hb dX8_isRing_44 (by decide) ?_
          refine lv_istore_n (lv' := [(3, .int 1), (5, .int (f_X8_ones ((m_ap x4.toNatClampNeg) &&& y1))), (0, .ref (ad 0)), (1, .long y1), (4, .int x4)]) hx hb dX8_isRing_48 rfl hl (by decide) rfl (fun ls hl => ?_)
          refine lv_iinc (v := x4 + 1) (lv' := [(4, .int (x4 + 1)), (3, .int 1), (5, .int (f_X8_ones ((m_ap x4.toNatClampNeg) &&& y1))), (0, .ref (ad 0)), (1, .long y1)]) hx hb dX8_isRing_49 hl (k := 4) rfl rfl (by decide) rfl (fun ls hl => ?_)
          refine lv_goto (tgt := 5) hx hb dX8_isRing_52 (by decide) ?_
          exact ih 1 (x4 + 1) _ _ _ (by first | exact ⟨fuU_s hf.1 c11, bz_0⟩ | exact ⟨fuU_s hf.1 c11, bz_1⟩) hr hP hS (lv_sub hl [3, 4, 1, 0] rfl)
        · have hr := (if_neg c34).symm.trans hr
          refine lv_iload hx hb dX8_isRing_37 (lv_at hl 0 rfl) ?_
          refine lv_iconst (v := 2) hx hb dX8_isRing_39 (by decide) ?_
          refine lv_icmp_ne (tgt := 47) hx hb dX8_isRing_40 (by decide) (fun c40 => ?_) (fun c40 => ?_)
          · have hr := (if_neg c40).symm.trans hr
            refine lv_iconst (v := 0) hx hb dX8_isRing_47 (by decide) ?_
            refine lv_istore_n (lv' := [(3, .int 0), (5, .int (f_X8_ones ((m_ap x4.toNatClampNeg) &&& y1))), (0, .ref (ad 0)), (1, .long y1), (4, .int x4)]) hx hb dX8_isRing_48 rfl hl (by decide) rfl (fun ls hl => ?_)
            refine lv_iinc (v := x4 + 1) (lv' := [(4, .int (x4 + 1)), (3, .int 0), (5, .int (f_X8_ones ((m_ap x4.toNatClampNeg) &&& y1))), (0, .ref (ad 0)), (1, .long y1)]) hx hb dX8_isRing_49 hl (k := 4) rfl rfl (by decide) rfl (fun ls hl => ?_)
            refine lv_goto (tgt := 5) hx hb dX8_isRing_52 (by decide) ?_
            exact ih 0 (x4 + 1) _ _ _ (by first | exact ⟨fuU_s hf.1 c11, bz_0⟩ | exact ⟨fuU_s hf.1 c11, bz_1⟩) hr hP hS (lv_sub hl [3, 4, 1, 0] rfl)
          · have hr := (if_pos c40).symm.trans hr
            refine lv_iconst (v := 1) hx hb dX8_isRing_43 (by decide) ?_
            refine lv_goto (tgt := 48) hx hb dX8_isRing_44 (by decide) ?_
            refine lv_istore_n (lv' := [(3, .int 1), (5, .int (f_X8_ones ((m_ap x4.toNatClampNeg) &&& y1))), (0, .ref (ad 0)), (1, .long y1), (4, .int x4)]) hx hb dX8_isRing_48 rfl hl (by decide) rfl (fun ls hl => ?_)
            refine lv_iinc (v := x4 + 1) (lv' := [(4, .int (x4 + 1)), (3, .int 1), (5, .int (f_X8_ones ((m_ap x4.toNatClampNeg) &&& y1))), (0, .ref (ad 0)), (1, .long y1)]) hx hb dX8_isRing_49 hl (k := 4) rfl rfl (by decide) rfl (fun ls hl => ?_)
            refine lv_goto (tgt := 5) hx hb dX8_isRing_52 (by decide) ?_
            exact ih 1 (x4 + 1) _ _ _ (by first | exact ⟨fuU_s hf.1 c11, bz_0⟩ | exact ⟨fuU_s hf.1 c11, bz_1⟩) hr hP hS (lv_sub hl [3, 4, 1, 0] rfl)
set_option maxHeartbeats 4000000 in
set_option maxRecDepth 100000 in
theorem c_X8_isRing (l : Launch) (D : va_G) (cI cL cZ : ClassId) (ad : Nat → Nat) (m_w m_h m_c m_s m_le m_un m_he m_ro m_wi m_hi m_hr m_hp m_rn m_rw m_rh : Int32) (m_n m_l m_b m_to m_hs : Int64) (m_ho m_tx m_ik m_wt : Nat → Int32) (m_ac m_ap m_pa m_im m_ri : Nat → Int64) (hAd : mInj ad) (p1 : Int64) (r : Int32) (hr : f_X8_isRing p1 m_w m_h m_ap = r) (hg : mG m_w m_h m_c m_s) : MZ l yX8_isRing (Cond.code yX8_isRing cX8_isRing 6 (some .boolean) :: W0) 2 49 D cI cL cZ (mAd ad) [.ref (ad 0), .long p1] (mw ad cI cL cZ m_w m_h m_c m_s m_le m_un m_he m_ro m_wi m_hi m_hr m_hp m_rn m_rw m_rh m_n m_l m_b m_to m_hs m_ho m_tx m_ik m_wt m_ac m_ap m_pa m_im m_ri) r (mw ad cI cL cZ m_w m_h m_c m_s m_le m_un m_he m_ro m_wi m_hi m_hr m_hp m_rn m_rw m_rh m_n m_l m_b m_to m_hs m_ho m_tx m_ik m_wt m_ac m_ap m_pa m_im m_ri) := by
  refine mk_start (cc := cX8_isRing) (maxL := 6) (ret := (some .boolean)) (by decide) rfl (Nat.le_of_ble_eq_true rfl) ?_
  intro p e s m below meth c ls C hP hS hl
  obtain ⟨hx, hb, hml, hrt, hlocks, hown, hts, hk⟩ := C
  have hown : s.vm.findClass RX8 = some m.cls := hown
  have hl : lv_has ls 6 [(0, .ref (ad 0)), (1, .long p1)] := hl
  rw [f_X8_isRing] at hr
  refine lv_iconst (v := 1) hx hb dX8_isRing_0 (by decide) ?_
  refine lv_istore_n (lv' := [(3, .int 1), (0, .ref (ad 0)), (1, .long p1)]) hx hb dX8_isRing_1 rfl hl (by decide) rfl (fun ls hl => ?_)
  refine lv_iconst (v := 0) hx hb dX8_isRing_2 (by decide) ?_
  refine lv_istore (lv' := [(4, .int 0), (3, .int 1), (0, .ref (ad 0)), (1, .long p1)]) hx hb dX8_isRing_3 hl (by decide) rfl (fun ls hl => ?_)
  refine lp_X8_isRing_5 l D cI cL cZ ad m_w m_h m_c m_s m_le m_un m_he m_ro m_wi m_hi m_hr m_hp m_rn m_rw m_rh m_n m_l m_b m_to m_hs m_ho m_tx m_ik m_wt m_ac m_ap m_pa m_im m_ri ⟨hx, hb, hml, hrt, hlocks, hown, hts, hk⟩ hAd p1 hg _ _ (fun z1 H locs ls hze hr hP hS hl => ?_) (fu (f_X8_points m_w m_h) (0 : Int32)) 1 0 _ _ _ ⟨fuU_0 (by decide), bz_1⟩ hr hP hS (lv_sub hl [2, 3, 1, 0] rfl)
  refine lv_iload_n hx hb dX8_isRing_55 rfl (lv_at hl 2 rfl) ?_
  refine lv_if_eq (tgt := 77) hx hb dX8_isRing_56 (by decide) (fun c56 => ?_) (fun c56 => ?_)
  · have hr := (if_pos c56).symm.trans hr
    refine lv_iconst (v := 0) hx hb dX8_isRing_77 (by decide) ?_
    subst hr
    exact ret_z hx hb hrt hlocks bz_0 hP hS dX8_isRing_78
  · have hr := (if_neg c56).symm.trans hr
    refine lv_aload_n hx hb dX8_isRing_59 rfl (lv_at hl 0 rfl) ?_
    refine lv_lload_n hx hb dX8_isRing_60 rfl (lv_at hl 1 rfl) ?_
    refine lv_lload_n hx hb dX8_isRing_61 rfl (lv_at hl 1 rfl) ?_
    refine lv_lneg hx hb dX8_isRing_62 ?_
    refine lv_land hx hb dX8_isRing_63 ?_
    refine lv_lload_n hx hb dX8_isRing_64 rfl (lv_at hl 1 rfl) ?_
    refine go_l (ru_V (n := 2) ⟨hx, hb, hml, hown, hts⟩ hk hP (c_X8_chain l D cI cL cZ ad m_w m_h m_c m_s m_le m_un m_he m_ro m_wi m_hi m_hr m_hp m_rn m_rw m_rh m_n m_l m_b m_to m_hs m_ho m_tx m_ik m_wt m_ac m_ap m_pa m_im m_ri hAd (p1 &&& (-p1)) p1 _ rfl hg) (cwV 2 hts (gV q4_236 q4_238 qs4_9 q1_11 q4_239) rfl rfl rfl hd_X8_chain ⟨Nat.le_of_ble_eq_true rfl, Nat.le_of_ble_eq_true rfl⟩) (va_recv hk.1 hP (ci := 8) (q0 := 0) rfl rfl) rfl hl.1 rfl (Nat.le_of_ble_eq_true rfl) dX8_isRing_65 ⟨Nat.zero_le _, Nat.zero_le _⟩) hS (fun _ h => h) (fun H locs hP hS => ?_)
    have hP : va_P D vwCl (mw ad cI cL cZ m_w m_h m_c m_s m_le m_un m_he m_ro m_wi m_hi m_hr m_hp m_rn m_rw m_rh m_n m_l m_b m_to m_hs m_ho m_tx m_ik m_wt m_ac m_ap m_pa m_im m_ri) H := hP
    refine lv_lload_n hx hb dX8_isRing_68 rfl (lv_at hl 1 rfl) ?_
    refine W.lcmp hx hb dX8_isRing_69 ?_
    refine lv_if_ne (tgt := 77) hx hb dX8_isRing_70 (by decide) (fun c70 => ?_) (fun c70 => ?_)
    · have hr := (if_neg c70).symm.trans hr
      refine lv_iconst (v := 0) hx hb dX8_isRing_77 (by decide) ?_
      subst hr
      exact ret_z hx hb hrt hlocks bz_0 hP hS dX8_isRing_78
    · have hr := (if_pos c70).symm.trans hr
      refine lv_iconst (v := 1) hx hb dX8_isRing_73 (by decide) ?_
      refine lv_goto (tgt := 78) hx hb dX8_isRing_74 (by decide) ?_
      subst hr
      exact ret_z hx hb hrt hlocks bz_1 hP hS dX8_isRing_78
theorem hd_X8_fits : yX8_fits.cls = RX8 ∧ yX8_fits.cls ≠ "java/lang/invoke/MethodHandle" ∧ yX8_fits.cls ≠ "java/lang/invoke/VarHandle" ∧ (parseMethodDescriptor yX8_fits.desc).map (fun d => d.parameters.length) = some 2 := by decide +kernel
def F_X8_fits_36 (y1 : Int64) (y3 : Int32) (m_c : Int32) (m_n : Int64) (m_ac : Nat → Int64) {β : Type} (k0 : Int32 → β) : Nat → Int32 → Int32 → β
  | 0, x4, x5 => k0 x4
  | n + 1, x4, x5 => (if m_c ≤ x5 then k0 x4 else (if x4 = 0 then k0 x4 else (if x5 = y3 then F_X8_fits_36 y1 y3 m_c m_n m_ac k0 n 1 (x5 + 1) else (if (f_X8_numberAt x5 m_n) = 5 then F_X8_fits_36 y1 y3 m_c m_n m_ac k0 n 1 (x5 + 1) else (if (f_X8_ones ((m_ac x5.toNatClampNeg) &&& y1)) = (f_X8_numberAt x5 m_n) then F_X8_fits_36 y1 y3 m_c m_n m_ac k0 n 1 (x5 + 1) else F_X8_fits_36 y1 y3 m_c m_n m_ac k0 n 0 (x5 + 1))))))
def f_X8_fits (p1 : Int64) (p3 : Int32) (m_c : Int32) (m_n : Int64) (m_l : Int64) (m_b : Int64) (m_ac : Nat → Int64) : Int32 := (if (lg_cmp (m_l &&& (p1 ^^^ ((-1)))) 0) = 0 then (if (lg_cmp (m_b &&& p1) 0) = 0 then F_X8_fits_36 p1 p3 m_c m_n m_ac (fun z3 => z3) (fu m_c (0 : Int32)) 1 0 else F_X8_fits_36 p1 p3 m_c m_n m_ac (fun z2 => z2) (fu m_c (0 : Int32)) 0 0) else F_X8_fits_36 p1 p3 m_c m_n m_ac (fun z1 => z1) (fu m_c (0 : Int32)) 0 0)
set_option maxHeartbeats 4000000 in
set_option maxRecDepth 100000 in
theorem lp_X8_fits_36 (l : Launch) (D : va_G) (cI cL cZ : ClassId) (ad : Nat → Nat) (m_w m_h m_c m_s m_le m_un m_he m_ro m_wi m_hi m_hr m_hp m_rn m_rw m_rh : Int32) (m_n m_l m_b m_to m_hs : Int64) (m_ho m_tx m_ik m_wt : Nat → Int32) (m_ac m_ap m_pa m_im m_ri : Nat → Int64) {p : Program} {e : Env} {s : State} {m : MethodId} {args : Array Value} {below : List Frame} {meth : Method} {c : Code} {Q : State → Prop} (C : Cx p s m args meth c cX8_fits 6 (some .boolean) W0 RX8 D cI cL cZ) (hAd : mInj ad) (y1 : Int64) (y3 : Int32) (hg : mG m_w m_h m_c m_s) {β : Type} (k0 : Int32 → β) (r : β)
    (h0 : ∀ (e4 : Int32) (H : Heap) (locs : List Loc) (ls : Array Slot), bz e4 → k0 e4 = r → va_P D vwCl (mw ad cI cL cZ m_w m_h m_c m_s m_le m_un m_he m_ro m_wi m_hi m_hr m_hp m_rn m_rw m_rh m_n m_l m_b m_to m_hs m_ho m_tx m_ik m_wt m_ac m_ap m_pa m_im m_ri) H → va_S (mAd ad) s.heap H locs → lv_has ls 6 [(4, .int e4)] → W p l e (rmS 1 24) s m args below meth c H locs 0 0 Q (F0 m 100 ls [])) :
    ∀ (n : Nat) (x4 x5 : Int32) (H : Heap) (locs : List Loc) (ls : Array Slot), fuU n m_c x5 ∧ bz x4 → F_X8_fits_36 y1 y3 m_c m_n m_ac k0 n x4 x5 = r → va_P D vwCl (mw ad cI cL cZ m_w m_h m_c m_s m_le m_un m_he m_ro m_wi m_hi m_hr m_hp m_rn m_rw m_rh m_n m_l m_b m_to m_hs m_ho m_tx m_ik m_wt m_ac m_ap m_pa m_im m_ri) H → va_S (mAd ad) s.heap H locs → lv_has ls 6 [(0, .ref (ad 0)), (1, .long y1), (3, .int y3), (4, .int x4), (5, .int x5)] → W p l e (rmS 1 24) s m args below meth c H locs 0 0 Q (F0 m 36 ls []) := by
  obtain ⟨hx, hb, hml, hrt, hlocks, hown, hts, hk⟩ := C
  intro n
  induction n with
  | zero =>
    intro x4 x5 H locs ls hf
    exact absurd hf.1.1 (Nat.lt_irrefl 0)
  | succ n ih =>
    intro x4 x5 H locs ls hf hr hP hS hl
    rw [F_X8_fits_36] at hr
    refine lv_iload hx hb dX8_fits_36 (lv_at hl 4 rfl) ?_
    refine lv_aload_n hx hb dX8_fits_38 rfl (lv_at hl 0 rfl) ?_
    refine va_get (D := D) (ci := 8) (v := .int m_c) (C := RX8) (T := TX8) (N := 29) hx hb hts u_X8 hown hk.1 hP 0 rfl rfl 5 (by decide) (hts _ q4_17) (fun _ h9 => h9) rfl dX8_fits_39 ?_
    refine lv_icmp_ge (tgt := 100) hx hb dX8_fits_42 (by decide) (fun c42 => ?_) (fun c42 => ?_)
    · have hr := (if_pos c42).symm.trans hr
      exact h0 x4 _ _ _ hf.2 hr hP hS (lv_sub hl [3] rfl)
    · have hr := (if_neg c42).symm.trans hr
      refine lv_iload hx hb dX8_fits_45 (lv_at hl 3 rfl) ?_
      refine lv_if_eq (tgt := 100) hx hb dX8_fits_47 (by decide) (fun c47 => ?_) (fun c47 => ?_)
      · have hr := (if_pos c47).symm.trans hr
        exact h0 x4 _ _ _ hf.2 hr hP hS (lv_sub hl [3] rfl)
      · have hr := (if_neg c47).symm.trans hr
        refine lv_iload hx hb dX8_fits_50 (lv_at hl 4 rfl) ?_
        refine lv_iload_n hx hb dX8_fits_52 rfl (lv_at hl 2 rfl) ?_
        refine lv_icmp_eq (tgt := 87) hx hb dX8_fits_53 (by decide) (fun c53 => ?_) (fun c53 => ?_)
        · have hr := (if_pos c53).symm.trans hr
          refine lv_iconst (v := 1) hx hb dX8_fits_87 (by decide) ?_
          refine lv_goto (tgt := 92) hx hb dX8_fits_88 (by decide) ?_
          refine lv_istore (lv' := [(4, .int 1), (0, .ref (ad 0)), (1, .long y1), (3, .int y3), (5, .int x5)]) hx hb dX8_fits_92 hl (by decide) rfl (fun ls hl => ?_)
          refine lv_iinc (v := x5 + 1) (lv' := [(5, .int (x5 + 1)), (4, .int 1), (0, .ref (ad 0)), (1, .long y1), (3, .int y3)]) hx hb dX8_fits_94 hl (k := 4) rfl rfl (by decide) rfl (fun ls hl => ?_)
          refine lv_goto (tgt := 36) hx hb dX8_fits_97 (by decide) ?_
          exact ih 1 (x5 + 1) _ _ _ (by first | exact ⟨fuU_s hf.1 c42, bz_0⟩ | exact ⟨fuU_s hf.1 c42, bz_1⟩) hr hP hS (lv_sub hl [2, 3, 4, 1, 0] rfl)
        · have hr := (if_neg c53).symm.trans hr
          refine lv_aload_n hx hb dX8_fits_56 rfl (lv_at hl 0 rfl) ?_
          refine lv_iload hx hb dX8_fits_57 (lv_at hl 4 rfl) ?_
          refine go_i (ru_V (n := 1) ⟨hx, hb, hml, hown, hts⟩ hk hP (c_X8_numberAt l D cI cL cZ ad m_w m_h m_c m_s m_le m_un m_he m_ro m_wi m_hi m_hr m_hp m_rn m_rw m_rh m_n m_l m_b m_to m_hs m_ho m_tx m_ik m_wt m_ac m_ap m_pa m_im m_ri hAd x5 _ rfl) (cwV 1 hts (gV q4_140 q4_142 qs3_9 q1_11 q4_143) rfl rfl rfl hd_X8_numberAt ⟨Nat.le_of_ble_eq_true rfl, Nat.le_of_ble_eq_true rfl⟩) (va_recv hk.1 hP (ci := 8) (q0 := 0) rfl rfl) rfl hl.1 rfl (Nat.le_of_ble_eq_true rfl) dX8_fits_59 ⟨Nat.zero_le _, Nat.zero_le _⟩) hS (fun _ h => h) (fun H locs hP hS => ?_)
          have hP : va_P D vwCl (mw ad cI cL cZ m_w m_h m_c m_s m_le m_un m_he m_ro m_wi m_hi m_hr m_hp m_rn m_rw m_rh m_n m_l m_b m_to m_hs m_ho m_tx m_ik m_wt m_ac m_ap m_pa m_im m_ri) H := hP
          refine lv_iconst (v := 5) hx hb dX8_fits_62 (by decide) ?_
          refine lv_icmp_eq (tgt := 87) hx hb dX8_fits_63 (by decide) (fun c63 => ?_) (fun c63 => ?_)
          · have hr := (if_pos c63).symm.trans hr
            refine lv_iconst (v := 1) hx hb dX8_fits_87 (by decide) ?_
            refine lv_goto (tgt := 92) hx hb dX8_fits_88 (by decide) ?_
            refine lv_istore (lv' := [(4, .int 1), (0, .ref (ad 0)), (1, .long y1), (3, .int y3), (5, .int x5)]) hx hb dX8_fits_92 hl (by decide) rfl (fun ls hl => ?_)
            refine lv_iinc (v := x5 + 1) (lv' := [(5, .int (x5 + 1)), (4, .int 1), (0, .ref (ad 0)), (1, .long y1), (3, .int y3)]) hx hb dX8_fits_94 hl (k := 4) rfl rfl (by decide) rfl (fun ls hl => ?_)
            refine lv_goto (tgt := 36) hx hb dX8_fits_97 (by decide) ?_
            exact ih 1 (x5 + 1) _ _ _ (by first | exact ⟨fuU_s hf.1 c42, bz_0⟩ | exact ⟨fuU_s hf.1 c42, bz_1⟩) hr hP hS (lv_sub hl [2, 3, 4, 1, 0] rfl)
          · have hr := (if_neg c63).symm.trans hr
            refine lv_aload_n hx hb dX8_fits_66 rfl (lv_at hl 0 rfl) ?_
            refine va_get (D := D) (ci := 8) (v := .ref (ad 1)) (C := RX8) (T := TX8) (N := 29) hx hb hts u_X8 hown hk.1 hP 0 rfl rfl 7 (by decide) (hts _ q4_19) (fun _ h9 => h9) rfl dX8_fits_67 ?_
            refine lv_iload hx hb dX8_fits_70 (lv_at hl 4 rfl) ?_
            refine va_lald hx hb hk.1 hP 1 1 (rfl) rfl (vin_c hf.1.2.2 c42 (mG_c hg)) dX8_fits_72 ?_
            refine lv_lload_n hx hb dX8_fits_73 rfl (lv_at hl 1 rfl) ?_
            refine lv_land hx hb dX8_fits_74 ?_
            refine go_i (ru_S (n := 1) ⟨hx, hb, hml, hown, hts⟩ hk hP (c_X8_ones l D cI cL cZ (mAd ad) (mw ad cI cL cZ m_w m_h m_c m_s m_le m_un m_he m_ro m_wi m_hi m_hr m_hp m_rn m_rw m_rh m_n m_l m_b m_to m_hs m_ho m_tx m_ik m_wt m_ac m_ap m_pa m_im m_ri) ((m_ac x5.toNatClampNeg) &&& y1) _ rfl) (va_cwS 1 hts (gS q4_213 q4_214 q1_11 q4_215) rfl rfl rfl hd_X8_ones ⟨Nat.le_of_ble_eq_true rfl, Nat.le_of_ble_eq_true rfl⟩) rfl hl.1 rfl (Nat.le_of_ble_eq_true rfl) dX8_fits_75 ⟨Nat.zero_le _, Nat.zero_le _⟩) hS (fun _ h => h) (fun H locs hP hS => ?_)
            have hP : va_P D vwCl (mw ad cI cL cZ m_w m_h m_c m_s m_le m_un m_he m_ro m_wi m_hi m_hr m_hp m_rn m_rw m_rh m_n m_l m_b m_to m_hs m_ho m_tx m_ik m_wt m_ac m_ap m_pa m_im m_ri) H := hP
            refine lv_aload_n hx hb dX8_fits_78 rfl (lv_at hl 0 rfl) ?_
            refine lv_iload hx hb dX8_fits_79 (lv_at hl 4 rfl) ?_
            refine go_i (ru_V (n := 1) ⟨hx, hb, hml, hown, hts⟩ hk hP (c_X8_numberAt l D cI cL cZ ad m_w m_h m_c m_s m_le m_un m_he m_ro m_wi m_hi m_hr m_hp m_rn m_rw m_rh m_n m_l m_b m_to m_hs m_ho m_tx m_ik m_wt m_ac m_ap m_pa m_im m_ri hAd x5 _ rfl) (cwV 1 hts (gV q4_140 q4_142 qs3_9 q1_11 q4_143) rfl rfl rfl hd_X8_numberAt ⟨Nat.le_of_ble_eq_true rfl, Nat.le_of_ble_eq_true rfl⟩) (va_recv hk.1 hP (ci := 8) (q0 := 0) rfl rfl) rfl hl.1 rfl (Nat.le_of_ble_eq_true rfl) dX8_fits_81 ⟨Nat.zero_le _, Nat.zero_le _⟩) hS (fun _ h => h) (fun H locs hP hS => ?_)
            have hP : va_P D vwCl (mw ad cI cL cZ m_w m_h m_c m_s m_le m_un m_he m_ro m_wi m_hi m_hr m_hp m_rn m_rw m_rh m_n m_l m_b m_to m_hs m_ho m_tx m_ik m_wt m_ac m_ap m_pa m_im m_ri) H := hP
            refine lv_icmp_ne (tgt := 91) hx hb dX8_fits_84 (by decide) (fun c84 => ?_) (fun c84 => ?_)
            · have hr := (if_neg c84).symm.trans hr
              refine lv_iconst (v := 0) hx hb dX8_fits_91 (by decide) ?_
              refine lv_istore (lv' := [(4, .int 0), (0, .ref (ad 0)), (1, .long y1), (3, .int y3), (5, .int x5)]) hx hb dX8_fits_92 hl (by decide) rfl (fun ls hl => ?_)
              refine lv_iinc (v := x5 + 1) (lv' := [(5, .int (x5 + 1)), (4, .int 0), (0, .ref (ad 0)), (1, .long y1), (3, .int y3)]) hx hb dX8_fits_94 hl (k := 4) rfl rfl (by decide) rfl (fun ls hl => ?_)
              refine lv_goto (tgt := 36) hx hb dX8_fits_97 (by decide) ?_
              exact ih 0 (x5 + 1) _ _ _ (by first | exact ⟨fuU_s hf.1 c42, bz_0⟩ | exact ⟨fuU_s hf.1 c42, bz_1⟩) hr hP hS (lv_sub hl [2, 3, 4, 1, 0] rfl)
            · have hr := (if_pos c84).symm.trans hr
              refine lv_iconst (v := 1) hx hb dX8_fits_87 (by decide) ?_
              refine lv_goto (tgt := 92) hx hb dX8_fits_88 (by decide) ?_
              refine lv_istore (lv' := [(4, .int 1), (0, .ref (ad 0)), (1, .long y1), (3, .int y3), (5, .int x5)]) hx hb dX8_fits_92 hl (by decide) rfl (fun ls hl => ?_)
              refine lv_iinc (v := x5 + 1) (lv' := [(5, .int (x5 + 1)), (4, .int 1), (0, .ref (ad 0)), (1, .long y1), (3, .int y3)]) hx hb dX8_fits_94 hl (k := 4) rfl rfl (by decide) rfl (fun ls hl => ?_)
              refine lv_goto (tgt := 36) hx hb dX8_fits_97 (by decide) ?_
              exact ih 1 (x5 + 1) _ _ _ (by first | exact ⟨fuU_s hf.1 c42, bz_0⟩ | exact ⟨fuU_s hf.1 c42, bz_1⟩) hr hP hS (lv_sub hl [2, 3, 4, 1, 0] rfl)
set_option maxHeartbeats 4000000 in
set_option maxRecDepth 100000 in
theorem c_X8_fits (l : Launch) (D : va_G) (cI cL cZ : ClassId) (ad : Nat → Nat) (m_w m_h m_c m_s m_le m_un m_he m_ro m_wi m_hi m_hr m_hp m_rn m_rw m_rh : Int32) (m_n m_l m_b m_to m_hs : Int64) (m_ho m_tx m_ik m_wt : Nat → Int32) (m_ac m_ap m_pa m_im m_ri : Nat → Int64) (hAd : mInj ad) (p1 : Int64) (p3 : Int32) (r : Int32) (hr : f_X8_fits p1 p3 m_c m_n m_l m_b m_ac = r) (hg : mG m_w m_h m_c m_s) : MZ l yX8_fits (Cond.code yX8_fits cX8_fits 6 (some .boolean) :: W0) 1 24 D cI cL cZ (mAd ad) [.ref (ad 0), .long p1, .int p3] (mw ad cI cL cZ m_w m_h m_c m_s m_le m_un m_he m_ro m_wi m_hi m_hr m_hp m_rn m_rw m_rh m_n m_l m_b m_to m_hs m_ho m_tx m_ik m_wt m_ac m_ap m_pa m_im m_ri) r (mw ad cI cL cZ m_w m_h m_c m_s m_le m_un m_he m_ro m_wi m_hi m_hr m_hp m_rn m_rw m_rh m_n m_l m_b m_to m_hs m_ho m_tx m_ik m_wt m_ac m_ap m_pa m_im m_ri) := by
  refine mk_start (cc := cX8_fits) (maxL := 6) (ret := (some .boolean)) (by decide) rfl (Nat.le_of_ble_eq_true rfl) ?_
  intro p e s m below meth c ls C hP hS hl
  obtain ⟨hx, hb, hml, hrt, hlocks, hown, hts, hk⟩ := C
  have hown : s.vm.findClass RX8 = some m.cls := hown
  have hl : lv_has ls 6 [(0, .ref (ad 0)), (1, .long p1), (3, .int p3)] := hl
  rw [f_X8_fits] at hr
  refine lv_aload_n hx hb dX8_fits_0 rfl (lv_at hl 0 rfl) ?_
  refine va_get (D := D) (ci := 8) (v := .long m_l) (C := RX8) (T := TX8) (N := 29) hx hb hts u_X8 hown hk.1 hP 0 rfl rfl 1 (by decide) (hts _ q4_13) (fun _ h9 => h9) rfl dX8_fits_1 ?_
  refine lv_lload_n hx hb dX8_fits_4 rfl (lv_at hl 1 rfl) ?_
  refine lv_ldc2 hx hb hown (hts _ q4_187) dX8_fits_5 ?_
  refine lv_lxor hx hb dX8_fits_8 ?_
  refine lv_land hx hb dX8_fits_9 ?_
  refine lv_lconst (v := 0) hx hb dX8_fits_10 (by decide) ?_
  refine W.lcmp hx hb dX8_fits_11 ?_
  refine lv_if_ne (tgt := 30) hx hb dX8_fits_12 (by decide) (fun c12 => ?_) (fun c12 => ?_)
  · have hr := (if_neg c12).symm.trans hr
    refine lv_iconst (v := 0) hx hb dX8_fits_30 (by decide) ?_
    refine lv_istore (lv' := [(4, .int 0), (0, .ref (ad 0)), (1, .long p1), (3, .int p3)]) hx hb dX8_fits_31 hl (by decide) rfl (fun ls hl => ?_)
    refine lv_iconst (v := 0) hx hb dX8_fits_33 (by decide) ?_
    refine lv_istore (lv' := [(5, .int 0), (4, .int 0), (0, .ref (ad 0)), (1, .long p1), (3, .int p3)]) hx hb dX8_fits_34 hl (by decide) rfl (fun ls hl => ?_)
    refine lp_X8_fits_36 l D cI cL cZ ad m_w m_h m_c m_s m_le m_un m_he m_ro m_wi m_hi m_hr m_hp m_rn m_rw m_rh m_n m_l m_b m_to m_hs m_ho m_tx m_ik m_wt m_ac m_ap m_pa m_im m_ri ⟨hx, hb, hml, hrt, hlocks, hown, hts, hk⟩ hAd p1 p3 hg _ _ (fun z1 H locs ls hze hr hP hS hl => ?_) (fu m_c (0 : Int32)) 0 0 _ _ _ ⟨fuU_0 (by decide), (by first | exact bz_0 | exact bz_1)⟩ hr hP hS (lv_sub hl [2, 3, 4, 1, 0] rfl)
    refine lv_iload hx hb dX8_fits_100 (lv_at hl 0 rfl) ?_
    subst hr
    exact ret_z hx hb hrt hlocks (by first | assumption | exact bz_ok (by assumption)) hP hS dX8_fits_102
  · have hr := (if_pos c12).symm.trans hr
    refine lv_aload_n hx hb dX8_fits_15 rfl (lv_at hl 0 rfl) ?_
    refine va_get (D := D) (ci := 8) (v := .long m_b) (C := RX8) (T := TX8) (N := 29) hx hb hts u_X8 hown hk.1 hP 0 rfl rfl 2 (by decide) (hts _ q4_14) (fun _ h9 => h9) rfl dX8_fits_16 ?_
    refine lv_lload_n hx hb dX8_fits_19 rfl (lv_at hl 1 rfl) ?_
    refine lv_land hx hb dX8_fits_20 ?_
    refine lv_lconst (v := 0) hx hb dX8_fits_21 (by decide) ?_
    refine W.lcmp hx hb dX8_fits_22 ?_
    refine lv_if_ne (tgt := 30) hx hb dX8_fits_23 (by decide) (fun c23 => ?_) (fun c23 => ?_)
    · have hr := (if_neg c23).symm.trans hr
      refine lv_iconst (v := 0) hx hb dX8_fits_30 (by decide) ?_
      refine lv_istore (lv' := [(4, .int 0), (0, .ref (ad 0)), (1, .long p1), (3, .int p3)]) hx hb dX8_fits_31 hl (by decide) rfl (fun ls hl => ?_)
      refine lv_iconst (v := 0) hx hb dX8_fits_33 (by decide) ?_
      refine lv_istore (lv' := [(5, .int 0), (4, .int 0), (0, .ref (ad 0)), (1, .long p1), (3, .int p3)]) hx hb dX8_fits_34 hl (by decide) rfl (fun ls hl => ?_)
      refine lp_X8_fits_36 l D cI cL cZ ad m_w m_h m_c m_s m_le m_un m_he m_ro m_wi m_hi m_hr m_hp m_rn m_rw m_rh m_n m_l m_b m_to m_hs m_ho m_tx m_ik m_wt m_ac m_ap m_pa m_im m_ri ⟨hx, hb, hml, hrt, hlocks, hown, hts, hk⟩ hAd p1 p3 hg _ _ (fun z2 H locs ls hze hr hP hS hl => ?_) (fu m_c (0 : Int32)) 0 0 _ _ _ ⟨fuU_0 (by decide), (by first | exact bz_0 | exact bz_1)⟩ hr hP hS (lv_sub hl [2, 3, 4, 1, 0] rfl)
      refine lv_iload hx hb dX8_fits_100 (lv_at hl 0 rfl) ?_
      subst hr
      exact ret_z hx hb hrt hlocks (by first | assumption | exact bz_ok (by assumption)) hP hS dX8_fits_102
    · have hr := (if_pos c23).symm.trans hr
      refine lv_iconst (v := 1) hx hb dX8_fits_26 (by decide) ?_
      refine lv_goto (tgt := 31) hx hb dX8_fits_27 (by decide) ?_
      refine lv_istore (lv' := [(4, .int 1), (0, .ref (ad 0)), (1, .long p1), (3, .int p3)]) hx hb dX8_fits_31 hl (by decide) rfl (fun ls hl => ?_)
      refine lv_iconst (v := 0) hx hb dX8_fits_33 (by decide) ?_
      refine lv_istore (lv' := [(5, .int 0), (4, .int 1), (0, .ref (ad 0)), (1, .long p1), (3, .int p3)]) hx hb dX8_fits_34 hl (by decide) rfl (fun ls hl => ?_)
      refine lp_X8_fits_36 l D cI cL cZ ad m_w m_h m_c m_s m_le m_un m_he m_ro m_wi m_hi m_hr m_hp m_rn m_rw m_rh m_n m_l m_b m_to m_hs m_ho m_tx m_ik m_wt m_ac m_ap m_pa m_im m_ri ⟨hx, hb, hml, hrt, hlocks, hown, hts, hk⟩ hAd p1 p3 hg _ _ (fun z3 H locs ls hze hr hP hS hl => ?_) (fu m_c (0 : Int32)) 1 0 _ _ _ ⟨fuU_0 (by decide), (by first | exact bz_0 | exact bz_1)⟩ hr hP hS (lv_sub hl [2, 3, 4, 1, 0] rfl)
      refine lv_iload hx hb dX8_fits_100 (lv_at hl 0 rfl) ?_
      subst hr
      exact ret_z hx hb hrt hlocks (by first | assumption | exact bz_ok (by assumption)) hP hS dX8_fits_102
