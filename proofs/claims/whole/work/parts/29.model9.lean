theorem hd_X8_chain : yX8_chain.cls = RX8 ∧ yX8_chain.cls ≠ "java/lang/invoke/MethodHandle" ∧ yX8_chain.cls ≠ "java/lang/invoke/VarHandle" ∧ (parseMethodDescriptor yX8_chain.desc).map (fun d => d.parameters.length) = some 2 := by decide +kernel
def F_X8_chain_21 (y3 : Int64) (m_w : Int32) (m_h : Int32) (m_ap : Nat → Int64) {β : Type} (k0 : Int64 → β) : Nat → Int64 → Int32 → β
  | 0, x5, x9 => k0 x5
  | n + 1, x5, x9 => (if (f_X8_points m_w m_h) ≤ x9 then k0 x5 else (if (lg_cmp ((m_ap x9.toNatClampNeg) &&& x5) 0) = 0 then F_X8_chain_21 y3 m_w m_h m_ap k0 n (x5 ||| 0) (x9 + 1) else F_X8_chain_21 y3 m_w m_h m_ap k0 n (x5 ||| ((m_ap x9.toNatClampNeg) &&& y3)) (x9 + 1)))
def F_X8_chain_6 (y3 : Int64) (m_w : Int32) (m_h : Int32) (m_ap : Nat → Int64) {β : Type} (k0 : Int64 → β) : Nat → Int64 → Int64 → β
  | 0, x5, x7 => k0 x5
  | n + 1, x5, x7 => (if (lg_cmp x7 x5) = 0 then k0 x5 else F_X8_chain_21 y3 m_w m_h m_ap (fun z1 => F_X8_chain_6 y3 m_w m_h m_ap k0 n z1 x5) (fu (f_X8_points m_w m_h) (0 : Int32)) x5 0)
def f_X8_chain (p1 : Int64) (p3 : Int64) (m_w : Int32) (m_h : Int32) (m_ap : Nat → Int64) : Int64 := F_X8_chain_6 p3 m_w m_h m_ap (fun z2 => z2) (18446744073709551617 - (0 : Int64).toBitVec.toNat) p1 0
set_option maxHeartbeats 4000000 in
set_option maxRecDepth 100000 in
theorem lp_X8_chain_21 (l : Launch) (D : va_G) (cI cL cZ : ClassId) (ad : Nat → Nat) (m_w m_h m_c m_s m_le m_un m_he m_ro m_wi m_hi m_hr m_hp m_rn m_rw m_rh : Int32) (m_n m_l m_b m_to m_hs : Int64) (m_ho m_tx m_ik m_wt : Nat → Int32) (m_ac m_ap m_pa m_im m_ri : Nat → Int64) {p : Program} {e : Env} {s : State} {m : MethodId} {args : Array Value} {below : List Frame} {meth : Method} {c : Code} {Q : State → Prop} (C : Cx p s m args meth c cX8_chain 10 (some .long) W0 RX8 D cI cL cZ) (hAd : mInj ad) (y3 y7 : Int64) (hg : mG m_w m_h m_c m_s) {β : Type} (k0 : Int64 → β) (r : β)
    (h0 : ∀ (e5 : Int64) (H : Heap) (locs : List Loc) (ls : Array Slot), y7.toBitVec.toNat ≤ e5.toBitVec.toNat → k0 e5 = r → va_P D vwCl (mw ad cI cL cZ m_w m_h m_c m_s m_le m_un m_he m_ro m_wi m_hi m_hr m_hp m_rn m_rw m_rh m_n m_l m_b m_to m_hs m_ho m_tx m_ik m_wt m_ac m_ap m_pa m_im m_ri) H → va_S (mAd ad) s.heap H locs → lv_has ls 10 [(0, .ref (ad 0)), (3, .long y3), (5, .long e5), (7, .long y7)] → W p l e (rmS 1 20) s m args below meth c H locs 0 0 Q (F0 m 69 ls [])) :
    ∀ (n : Nat) (x5 : Int64) (x9 : Int32) (H : Heap) (locs : List Loc) (ls : Array Slot), fuU n (f_X8_points m_w m_h) x9 ∧ y7.toBitVec.toNat ≤ x5.toBitVec.toNat → F_X8_chain_21 y3 m_w m_h m_ap k0 n x5 x9 = r → va_P D vwCl (mw ad cI cL cZ m_w m_h m_c m_s m_le m_un m_he m_ro m_wi m_hi m_hr m_hp m_rn m_rw m_rh m_n m_l m_b m_to m_hs m_ho m_tx m_ik m_wt m_ac m_ap m_pa m_im m_ri) H → va_S (mAd ad) s.heap H locs → lv_has ls 10 [(0, .ref (ad 0)), (3, .long y3), (5, .long x5), (7, .long y7), (9, .int x9)] → W p l e (rmS 1 20) s m args below meth c H locs 0 0 Q (F0 m 21 ls []) := by
  obtain ⟨hx, hb, hml, hrt, hlocks, hown, hts, hk⟩ := C
  intro n
  induction n with
  | zero =>
    intro x5 x9 H locs ls hf
    exact absurd hf.1.1 (Nat.lt_irrefl 0)
  | succ n ih =>
    intro x5 x9 H locs ls hf hr hP hS hl
    rw [F_X8_chain_21] at hr
    refine lv_iload hx hb dX8_chain_21 (lv_at hl 4 rfl) ?_
    refine lv_aload_n hx hb dX8_chain_23 rfl (lv_at hl 0 rfl) ?_
    refine go_i (ru_V (n := 0) ⟨hx, hb, hml, hown, hts⟩ hk hP (c_X8_points l D cI cL cZ ad m_w m_h m_c m_s m_le m_un m_he m_ro m_wi m_hi m_hr m_hp m_rn m_rw m_rh m_n m_l m_b m_to m_hs m_ho m_tx m_ik m_wt m_ac m_ap m_pa m_im m_ri hAd _ rfl) (cwV 0 hts (gV q4_160 q4_162 qs3_11 q1_11 q4_163) rfl rfl rfl hd_X8_points ⟨Nat.le_of_ble_eq_true rfl, Nat.le_of_ble_eq_true rfl⟩) (va_recv hk.1 hP (ci := 8) (q0 := 0) rfl rfl) rfl hl.1 rfl (Nat.le_of_ble_eq_true rfl) dX8_chain_24 ⟨Nat.zero_le _, Nat.zero_le _⟩) hS (fun _ h => h) (fun H locs hP hS => ?_)
    have hP : va_P D vwCl (mw ad cI cL cZ m_w m_h m_c m_s m_le m_un m_he m_ro m_wi m_hi m_hr m_hp m_rn m_rw m_rh m_n m_l m_b m_to m_hs m_ho m_tx m_ik m_wt m_ac m_ap m_pa m_im m_ri) H := hP
    refine lv_icmp_ge (tgt := 69) hx hb dX8_chain_27 (by decide) (fun c27 => ?_) (fun c27 => ?_)
    · have hr := (if_pos c27).symm.trans hr
      exact h0 x5 _ _ _ hf.2 hr hP hS (lv_sub hl [0, 1, 2, 3] rfl)
    · have hr := (if_neg c27).symm.trans hr
      refine lv_lload hx hb dX8_chain_30 (lv_at hl 2 rfl) ?_
      refine lv_aload_n hx hb dX8_chain_32 rfl (lv_at hl 0 rfl) ?_
      refine va_get (D := D) (ci := 8) (v := .ref (ad 2)) (C := RX8) (T := TX8) (N := 29) hx hb hts u_X8 hown hk.1 hP 0 rfl rfl 8 (by decide) (hts _ q4_20) (fun _ h9 => h9) rfl dX8_chain_33 ?_
      refine lv_iload hx hb dX8_chain_36 (lv_at hl 4 rfl) ?_
      refine va_lald hx hb hk.1 hP 2 1 (rfl) rfl (vin_c hf.1.2.2 c27 (mG_p hg)) dX8_chain_38 ?_
      refine lv_lload hx hb dX8_chain_39 (lv_at hl 2 rfl) ?_
      refine lv_land hx hb dX8_chain_41 ?_
      refine lv_lconst (v := 0) hx hb dX8_chain_42 (by decide) ?_
      refine W.lcmp hx hb dX8_chain_43 ?_
      refine lv_if_ne (tgt := 51) hx hb dX8_chain_44 (by decide) (fun c44 => ?_) (fun c44 => ?_)
      · have hr := (if_neg c44).symm.trans hr
        refine lv_aload_n hx hb dX8_chain_51 rfl (lv_at hl 0 rfl) ?_
        refine va_get (D := D) (ci := 8) (v := .ref (ad 2)) (C := RX8) (T := TX8) (N := 29) hx hb hts u_X8 hown hk.1 hP 0 rfl rfl 8 (by decide) (hts _ q4_20) (fun _ h9 => h9) rfl dX8_chain_52 ?_
        refine lv_iload hx hb dX8_chain_55 (lv_at hl 4 rfl) ?_
        refine va_lald hx hb hk.1 hP 2 1 (rfl) rfl (vin_c hf.1.2.2 c27 (mG_p hg)) dX8_chain_57 ?_
        refine lv_lload_n hx hb dX8_chain_58 rfl (lv_at hl 1 rfl) ?_
        refine lv_land hx hb dX8_chain_59 ?_
        refine lv_lor hx hb dX8_chain_60 ?_
        refine lv_lstore (lv' := [(5, .long (x5 ||| ((m_ap x9.toNatClampNeg) &&& y3))), (0, .ref (ad 0)), (3, .long y3), (7, .long y7), (9, .int x9)]) hx hb dX8_chain_61 hl (by decide) rfl (fun ls hl => ?_)
        refine lv_iinc (v := x9 + 1) (lv' := [(9, .int (x9 + 1)), (5, .long (x5 ||| ((m_ap x9.toNatClampNeg) &&& y3))), (0, .ref (ad 0)), (3, .long y3), (7, .long y7)]) hx hb dX8_chain_63 hl (k := 4) rfl rfl (by decide) rfl (fun ls hl => ?_)
        refine lv_goto (tgt := 21) hx hb dX8_chain_66 (by decide) ?_
        exact ih (x5 ||| ((m_ap x9.toNatClampNeg) &&& y3)) (x9 + 1) _ _ _ ⟨fuU_s hf.1 c27, Nat.le_trans hf.2 (or_le _ _)⟩ hr hP hS (lv_sub hl [2, 3, 1, 4, 0] rfl)
      · have hr := (if_pos c44).symm.trans hr
        refine lv_lconst (v := 0) hx hb dX8_chain_47 (by decide) ?_
        refine lv_goto (tgt := 60) hx hb dX8_chain_48 (by decide) ?_
        refine lv_lor hx hb dX8_chain_60 ?_
        refine lv_lstore (lv' := [(5, .long (x5 ||| 0)), (0, .ref (ad 0)), (3, .long y3), (7, .long y7), (9, .int x9)]) hx hb dX8_chain_61 hl (by decide) rfl (fun ls hl => ?_)
        refine lv_iinc (v := x9 + 1) (lv' := [(9, .int (x9 + 1)), (5, .long (x5 ||| 0)), (0, .ref (ad 0)), (3, .long y3), (7, .long y7)]) hx hb dX8_chain_63 hl (k := 4) rfl rfl (by decide) rfl (fun ls hl => ?_)
        refine lv_goto (tgt := 21) hx hb dX8_chain_66 (by decide) ?_
        exact ih (x5 ||| 0) (x9 + 1) _ _ _ ⟨fuU_s hf.1 c27, Nat.le_trans hf.2 (or_le _ _)⟩ hr hP hS (lv_sub hl [2, 3, 1, 4, 0] rfl)
set_option maxHeartbeats 4000000 in
set_option maxRecDepth 100000 in
theorem lp_X8_chain_6 (l : Launch) (D : va_G) (cI cL cZ : ClassId) (ad : Nat → Nat) (m_w m_h m_c m_s m_le m_un m_he m_ro m_wi m_hi m_hr m_hp m_rn m_rw m_rh : Int32) (m_n m_l m_b m_to m_hs : Int64) (m_ho m_tx m_ik m_wt : Nat → Int32) (m_ac m_ap m_pa m_im m_ri : Nat → Int64) {p : Program} {e : Env} {s : State} {m : MethodId} {args : Array Value} {below : List Frame} {meth : Method} {c : Code} {Q : State → Prop} (C : Cx p s m args meth c cX8_chain 10 (some .long) W0 RX8 D cI cL cZ) (hAd : mInj ad) (y3 : Int64) (hg : mG m_w m_h m_c m_s) {β : Type} (k0 : Int64 → β) (r : β)
    (h0 : ∀ (e5 : Int64) (H : Heap) (locs : List Loc) (ls : Array Slot), k0 e5 = r → va_P D vwCl (mw ad cI cL cZ m_w m_h m_c m_s m_le m_un m_he m_ro m_wi m_hi m_hr m_hp m_rn m_rw m_rh m_n m_l m_b m_to m_hs m_ho m_tx m_ik m_wt m_ac m_ap m_pa m_im m_ri) H → va_S (mAd ad) s.heap H locs → lv_has ls 10 [(5, .long e5)] → W p l e (rmS 1 20) s m args below meth c H locs 0 0 Q (F0 m 72 ls [])) :
    ∀ (n : Nat) (x5 x7 : Int64) (H : Heap) (locs : List Loc) (ls : Array Slot), chC n x7 x5 → F_X8_chain_6 y3 m_w m_h m_ap k0 n x5 x7 = r → va_P D vwCl (mw ad cI cL cZ m_w m_h m_c m_s m_le m_un m_he m_ro m_wi m_hi m_hr m_hp m_rn m_rw m_rh m_n m_l m_b m_to m_hs m_ho m_tx m_ik m_wt m_ac m_ap m_pa m_im m_ri) H → va_S (mAd ad) s.heap H locs → lv_has ls 10 [(0, .ref (ad 0)), (3, .long y3), (5, .long x5), (7, .long x7)] → W p l e (rmS 1 20) s m args below meth c H locs 0 0 Q (F0 m 6 ls []) := by
  obtain ⟨hx, hb, hml, hrt, hlocks, hown, hts, hk⟩ := C
  intro n
  induction n with
  | zero =>
    intro x5 x7 H locs ls hf
    exact absurd hf.1 (Nat.lt_irrefl 0)
  | succ n ih =>
    intro x5 x7 H locs ls hf hr hP hS hl
    rw [F_X8_chain_6] at hr
    refine lv_lload hx hb dX8_chain_6 (lv_at hl 3 rfl) ?_
    refine lv_lload hx hb dX8_chain_8 (lv_at hl 2 rfl) ?_
    refine W.lcmp hx hb dX8_chain_10 ?_
    refine lv_if_eq (tgt := 72) hx hb dX8_chain_11 (by decide) (fun c11 => ?_) (fun c11 => ?_)
    · have hr := (if_pos c11).symm.trans hr
      exact h0 x5 _ _ _ hr hP hS (lv_sub hl [2] rfl)
    · have hr := (if_neg c11).symm.trans hr
      refine lv_lload hx hb dX8_chain_14 (lv_at hl 2 rfl) ?_
      refine lv_lstore (lv' := [(7, .long x5), (0, .ref (ad 0)), (3, .long y3), (5, .long x5)]) hx hb dX8_chain_16 hl (by decide) rfl (fun ls hl => ?_)
      refine lv_iconst (v := 0) hx hb dX8_chain_18 (by decide) ?_
      refine lv_istore (lv' := [(9, .int 0), (7, .long x5), (0, .ref (ad 0)), (3, .long y3), (5, .long x5)]) hx hb dX8_chain_19 hl (by decide) rfl (fun ls hl => ?_)
      refine lp_X8_chain_21 l D cI cL cZ ad m_w m_h m_c m_s m_le m_un m_he m_ro m_wi m_hi m_hr m_hp m_rn m_rw m_rh m_n m_l m_b m_to m_hs m_ho m_tx m_ik m_wt m_ac m_ap m_pa m_im m_ri ⟨hx, hb, hml, hrt, hlocks, hown, hts, hk⟩ hAd y3 x5 hg _ _ (fun z1 H locs ls hz21 hr hP hS hl => ?_) (fu (f_X8_points m_w m_h) (0 : Int32)) x5 0 _ _ _ ⟨fuU_0 (by decide), Nat.le_refl _⟩ hr hP hS (lv_sub hl [2, 3, 4, 1, 0] rfl)
      refine lv_goto (tgt := 6) hx hb dX8_chain_69 (by decide) ?_
      exact ih z1 x5 _ _ _ (ch_s hf c11 hz21) hr hP hS (lv_sub hl [0, 1, 2, 3] rfl)
set_option maxHeartbeats 4000000 in
set_option maxRecDepth 100000 in
theorem c_X8_chain (l : Launch) (D : va_G) (cI cL cZ : ClassId) (ad : Nat → Nat) (m_w m_h m_c m_s m_le m_un m_he m_ro m_wi m_hi m_hr m_hp m_rn m_rw m_rh : Int32) (m_n m_l m_b m_to m_hs : Int64) (m_ho m_tx m_ik m_wt : Nat → Int32) (m_ac m_ap m_pa m_im m_ri : Nat → Int64) (hAd : mInj ad) (p1 p3 : Int64) (r : Int64) (hr : f_X8_chain p1 p3 m_w m_h m_ap = r) (hg : mG m_w m_h m_c m_s) : ML l yX8_chain (Cond.code yX8_chain cX8_chain 10 (some .long) :: W0) 1 20 D cI cL cZ (mAd ad) [.ref (ad 0), .long p1, .long p3] (mw ad cI cL cZ m_w m_h m_c m_s m_le m_un m_he m_ro m_wi m_hi m_hr m_hp m_rn m_rw m_rh m_n m_l m_b m_to m_hs m_ho m_tx m_ik m_wt m_ac m_ap m_pa m_im m_ri) r (mw ad cI cL cZ m_w m_h m_c m_s m_le m_un m_he m_ro m_wi m_hi m_hr m_hp m_rn m_rw m_rh m_n m_l m_b m_to m_hs m_ho m_tx m_ik m_wt m_ac m_ap m_pa m_im m_ri) := by
  refine mk_start (cc := cX8_chain) (maxL := 10) (ret := (some .long)) (by decide) rfl (Nat.le_of_ble_eq_true rfl) ?_
  intro p e s m below meth c ls C hP hS hl
  obtain ⟨hx, hb, hml, hrt, hlocks, hown, hts, hk⟩ := C
  have hown : s.vm.findClass RX8 = some m.cls := hown
  have hl : lv_has ls 10 [(0, .ref (ad 0)), (1, .long p1), (3, .long p3)] := hl
  rw [f_X8_chain] at hr
  refine lv_lload_n hx hb dX8_chain_0 rfl (lv_at hl 1 rfl) ?_
  refine lv_lstore (lv' := [(5, .long p1), (0, .ref (ad 0)), (1, .long p1), (3, .long p3)]) hx hb dX8_chain_1 hl (by decide) rfl (fun ls hl => ?_)
  refine lv_lconst (v := 0) hx hb dX8_chain_3 (by decide) ?_
  refine lv_lstore (lv' := [(7, .long 0), (5, .long p1), (0, .ref (ad 0)), (1, .long p1), (3, .long p3)]) hx hb dX8_chain_4 hl (by decide) rfl (fun ls hl => ?_)
  refine lp_X8_chain_6 l D cI cL cZ ad m_w m_h m_c m_s m_le m_un m_he m_ro m_wi m_hi m_hr m_hp m_rn m_rw m_rh m_n m_l m_b m_to m_hs m_ho m_tx m_ik m_wt m_ac m_ap m_pa m_im m_ri ⟨hx, hb, hml, hrt, hlocks, hown, hts, hk⟩ hAd p3 hg _ _ (fun z2 H locs ls hr hP hS hl => ?_) (18446744073709551617 - (0 : Int64).toBitVec.toNat) p1 0 _ _ _ (ch_0 _) hr hP hS (lv_sub hl [2, 4, 1, 0] rfl)
  refine lv_lload hx hb dX8_chain_72 (lv_at hl 0 rfl) ?_
  subst hr
  exact ret_l hx hb hrt hlocks hP hS dX8_chain_74
theorem hd_X8_isClosed : yX8_isClosed.cls = RX8 ∧ yX8_isClosed.cls ≠ "java/lang/invoke/MethodHandle" ∧ yX8_isClosed.cls ≠ "java/lang/invoke/VarHandle" ∧ (parseMethodDescriptor yX8_isClosed.desc).map (fun d => d.parameters.length) = some 1 := by decide +kernel
def F_X8_isClosed_5 (y1 : Int64) (m_w : Int32) (m_h : Int32) (m_l : Int64) (m_ap : Nat → Int64) {β : Type} (k0 : Int32 → β) : Nat → Int32 → Int32 → β
  | 0, x3, x4 => k0 x3
  | n + 1, x3, x4 => (if (f_X8_points m_w m_h) ≤ x4 then k0 x3 else (if x3 = 0 then F_X8_isClosed_5 y1 m_w m_h m_l m_ap k0 n 0 (x4 + 1) else (if (lg_cmp ((m_ap x4.toNatClampNeg) &&& y1) 0) = 0 then F_X8_isClosed_5 y1 m_w m_h m_l m_ap k0 n 1 (x4 + 1) else (if (f_X8_ones ((m_ap x4.toNatClampNeg) &&& m_l)) = 2 then F_X8_isClosed_5 y1 m_w m_h m_l m_ap k0 n 1 (x4 + 1) else F_X8_isClosed_5 y1 m_w m_h m_l m_ap k0 n 0 (x4 + 1)))))
def f_X8_isClosed (p1 : Int64) (m_w : Int32) (m_h : Int32) (m_l : Int64) (m_ap : Nat → Int64) : Int32 := F_X8_isClosed_5 p1 m_w m_h m_l m_ap (fun z1 => z1) (fu (f_X8_points m_w m_h) (0 : Int32)) 1 0
set_option maxHeartbeats 4000000 in
set_option maxRecDepth 100000 in
theorem lp_X8_isClosed_5 (l : Launch) (D : va_G) (cI cL cZ : ClassId) (ad : Nat → Nat) (m_w m_h m_c m_s m_le m_un m_he m_ro m_wi m_hi m_hr m_hp m_rn m_rw m_rh : Int32) (m_n m_l m_b m_to m_hs : Int64) (m_ho m_tx m_ik m_wt : Nat → Int32) (m_ac m_ap m_pa m_im m_ri : Nat → Int64) {p : Program} {e : Env} {s : State} {m : MethodId} {args : Array Value} {below : List Frame} {meth : Method} {c : Code} {Q : State → Prop} (C : Cx p s m args meth c cX8_isClosed 5 (some .boolean) W0 RX8 D cI cL cZ) (hAd : mInj ad) (y1 : Int64) (hg : mG m_w m_h m_c m_s) {β : Type} (k0 : Int32 → β) (r : β)
    (h0 : ∀ (e3 : Int32) (H : Heap) (locs : List Loc) (ls : Array Slot), bz e3 → k0 e3 = r → va_P D vwCl (mw ad cI cL cZ m_w m_h m_c m_s m_le m_un m_he m_ro m_wi m_hi m_hr m_hp m_rn m_rw m_rh m_n m_l m_b m_to m_hs m_ho m_tx m_ik m_wt m_ac m_ap m_pa m_im m_ri) H → va_S (mAd ad) s.heap H locs → lv_has ls 5 [(3, .int e3)] → W p l e (rmS 1 24) s m args below meth c H locs 0 0 Q (F0 m 63 ls [])) :
    ∀ (n : Nat) (x3 x4 : Int32) (H : Heap) (locs : List Loc) (ls : Array Slot), fuU n (f_X8_points m_w m_h) x4 ∧ bz x3 → F_X8_isClosed_5 y1 m_w m_h m_l m_ap k0 n x3 x4 = r → va_P D vwCl (mw ad cI cL cZ m_w m_h m_c m_s m_le m_un m_he m_ro m_wi m_hi m_hr m_hp m_rn m_rw m_rh m_n m_l m_b m_to m_hs m_ho m_tx m_ik m_wt m_ac m_ap m_pa m_im m_ri) H → va_S (mAd ad) s.heap H locs → lv_has ls 5 [(0, .ref (ad 0)), (1, .long y1), (3, .int x3), (4, .int x4)] → W p l e (rmS 1 24) s m args below meth c H locs 0 0 Q (F0 m 5 ls []) := by
  obtain ⟨hx, hb, hml, hrt, hlocks, hown, hts, hk⟩ := C
  intro n
  induction n with
  | zero =>
    intro x3 x4 H locs ls hf
    exact absurd hf.1.1 (Nat.lt_irrefl 0)
  | succ n ih =>
    intro x3 x4 H locs ls hf hr hP hS hl
    rw [F_X8_isClosed_5] at hr
    refine lv_iload hx hb dX8_isClosed_5 (lv_at hl 3 rfl) ?_
    refine lv_aload_n hx hb dX8_isClosed_7 rfl (lv_at hl 0 rfl) ?_
    refine go_i (ru_V (n := 0) ⟨hx, hb, hml, hown, hts⟩ hk hP (c_X8_points l D cI cL cZ ad m_w m_h m_c m_s m_le m_un m_he m_ro m_wi m_hi m_hr m_hp m_rn m_rw m_rh m_n m_l m_b m_to m_hs m_ho m_tx m_ik m_wt m_ac m_ap m_pa m_im m_ri hAd _ rfl) (cwV 0 hts (gV q4_160 q4_162 qs3_11 q1_11 q4_163) rfl rfl rfl hd_X8_points ⟨Nat.le_of_ble_eq_true rfl, Nat.le_of_ble_eq_true rfl⟩) (va_recv hk.1 hP (ci := 8) (q0 := 0) rfl rfl) rfl hl.1 rfl (Nat.le_of_ble_eq_true rfl) dX8_isClosed_8 ⟨Nat.zero_le _, Nat.zero_le _⟩) hS (fun _ h => h) (fun H locs hP hS => ?_)
    have hP : va_P D vwCl (mw ad cI cL cZ m_w m_h m_c m_s m_le m_un m_he m_ro m_wi m_hi m_hr m_hp m_rn m_rw m_rh m_n m_l m_b m_to m_hs m_ho m_tx m_ik m_wt m_ac m_ap m_pa m_im m_ri) H := hP
    refine lv_icmp_ge (tgt := 63) hx hb dX8_isClosed_11 (by decide) (fun c11 => ?_) (fun c11 => ?_)
    · have hr := (if_pos c11).symm.trans hr
      exact h0 x3 _ _ _ hf.2 hr hP hS (lv_sub hl [2] rfl)
    · have hr := (if_neg c11).symm.trans hr
      refine lv_iload_n hx hb dX8_isClosed_14 rfl (lv_at hl 2 rfl) ?_
      refine lv_if_eq (tgt := 55) hx hb dX8_isClosed_15 (by decide) (fun c15 => ?_) (fun c15 => ?_)
      · have hr := (if_pos c15).symm.trans hr
        refine lv_iconst (v := 0) hx hb dX8_isClosed_55 (by decide) ?_
        refine lv_istore_n (lv' := [(3, .int 0), (0, .ref (ad 0)), (1, .long y1), (4, .int x4)]) hx hb dX8_isClosed_56 rfl hl (by decide) rfl (fun ls hl => ?_)
        refine lv_iinc (v := x4 + 1) (lv' := [(4, .int (x4 + 1)), (3, .int 0), (0, .ref (ad 0)), (1, .long y1)]) hx hb dX8_isClosed_57 hl (k := 3) rfl rfl (by decide) rfl (fun ls hl => ?_)
        refine lv_goto (tgt := 5) hx hb dX8_isClosed_60 (by decide) ?_
        exact ih 0 (x4 + 1) _ _ _ (by first | exact ⟨fuU_s hf.1 c11, bz_0⟩ | exact ⟨fuU_s hf.1 c11, bz_1⟩) hr hP hS (lv_sub hl [2, 3, 1, 0] rfl)
      · have hr := (if_neg c15).symm.trans hr
        refine lv_aload_n hx hb dX8_isClosed_18 rfl (lv_at hl 0 rfl) ?_
        refine va_get (D := D) (ci := 8) (v := .ref (ad 2)) (C := RX8) (T := TX8) (N := 29) hx hb hts u_X8 hown hk.1 hP 0 rfl rfl 8 (by decide) (hts _ q4_20) (fun _ h9 => h9) rfl dX8_isClosed_19 ?_
        refine lv_iload hx hb dX8_isClosed_22 (lv_at hl 3 rfl) ?_
        refine va_lald hx hb hk.1 hP 2 1 (rfl) rfl (vin_c hf.1.2.2 c11 (mG_p hg)) dX8_isClosed_24 ?_
        refine lv_lload_n hx hb dX8_isClosed_25 rfl (lv_at hl 1 rfl) ?_
        refine lv_land hx hb dX8_isClosed_26 ?_
        refine lv_lconst (v := 0) hx hb dX8_isClosed_27 (by decide) ?_
        refine W.lcmp hx hb dX8_isClosed_28 ?_
        refine lv_if_eq (tgt := 51) hx hb dX8_isClosed_29 (by decide) (fun c29 => ?_) (fun c29 => ?_)
        · have hr := (if_pos c29).symm.trans hr
          refine lv_iconst (v := 1) hx hb dX8_isClosed_51 (by decide) ?_
          refine lv_goto (tgt := 56) hx hb dX8_isClosed_52 (by decide) ?_
          refine lv_istore_n (lv' := [(3, .int 1), (0, .ref (ad 0)), (1, .long y1), (4, .int x4)]) hx hb dX8_isClosed_56 rfl hl (by decide) rfl (fun ls hl => ?_)
          refine lv_iinc (v := x4 + 1) (lv' := [(4, .int (x4 + 1)), (3, .int 1), (0, .ref (ad 0)), (1, .long y1)]) hx hb dX8_isClosed_57 hl (k := 3) rfl rfl (by decide) rfl (fun ls hl => ?_)
          refine lv_goto (tgt := 5) hx hb dX8_isClosed_60 (by decide) ?_
          exact ih 1 (x4 + 1) _ _ _ (by first | exact ⟨fuU_s hf.1 c11, bz_0⟩ | exact ⟨fuU_s hf.1 c11, bz_1⟩) hr hP hS (lv_sub hl [2, 3, 1, 0] rfl)
        · have hr := (if_neg c29).symm.trans hr
          refine lv_aload_n hx hb dX8_isClosed_32 rfl (lv_at hl 0 rfl) ?_
          refine va_get (D := D) (ci := 8) (v := .ref (ad 2)) (C := RX8) (T := TX8) (N := 29) hx hb hts u_X8 hown hk.1 hP 0 rfl rfl 8 (by decide) (hts _ q4_20) (fun _ h9 => h9) rfl dX8_isClosed_33 ?_
          refine lv_iload hx hb dX8_isClosed_36 (lv_at hl 3 rfl) ?_
          refine va_lald hx hb hk.1 hP 2 1 (rfl) rfl (vin_c hf.1.2.2 c11 (mG_p hg)) dX8_isClosed_38 ?_
          refine lv_aload_n hx hb dX8_isClosed_39 rfl (lv_at hl 0 rfl) ?_
          refine va_get (D := D) (ci := 8) (v := .long m_l) (C := RX8) (T := TX8) (N := 29) hx hb hts u_X8 hown hk.1 hP 0 rfl rfl 1 (by decide) (hts _ q4_13) (fun _ h9 => h9) rfl dX8_isClosed_40 ?_
          refine lv_land hx hb dX8_isClosed_43 ?_
          refine go_i (ru_S (n := 1) ⟨hx, hb, hml, hown, hts⟩ hk hP (c_X8_ones l D cI cL cZ (mAd ad) (mw ad cI cL cZ m_w m_h m_c m_s m_le m_un m_he m_ro m_wi m_hi m_hr m_hp m_rn m_rw m_rh m_n m_l m_b m_to m_hs m_ho m_tx m_ik m_wt m_ac m_ap m_pa m_im m_ri) ((m_ap x4.toNatClampNeg) &&& m_l) _ rfl) (va_cwS 1 hts (gS q4_213 q4_214 q1_11 q4_215) rfl rfl rfl hd_X8_ones ⟨Nat.le_of_ble_eq_true rfl, Nat.le_of_ble_eq_true rfl⟩) rfl hl.1 rfl (Nat.le_of_ble_eq_true rfl) dX8_isClosed_44 ⟨Nat.zero_le _, Nat.zero_le _⟩) hS (fun _ h => h) (fun H locs hP hS => ?_)
          have hP : va_P D vwCl (mw ad cI cL cZ m_w m_h m_c m_s m_le m_un m_he m_ro m_wi m_hi m_hr m_hp m_rn m_rw m_rh m_n m_l m_b m_to m_hs m_ho m_tx m_ik m_wt m_ac m_ap m_pa m_im m_ri) H := hP
          refine lv_iconst (v := 2) hx hb dX8_isClosed_47 (by decide) ?_
          refine lv_icmp_ne (tgt := 55) hx hb dX8_isClosed_48 (by decide) (fun c48 => ?_) (fun c48 => ?_)
          · have hr := (if_neg c48).symm.trans hr
            refine lv_iconst (v := 0) hx hb dX8_isClosed_55 (by decide) ?_
            refine lv_istore_n (lv' := [(3, .int 0), (0, .ref (ad 0)), (1, .long y1), (4, .int x4)]) hx hb dX8_isClosed_56 rfl hl (by decide) rfl (fun ls hl => ?_)
            refine lv_iinc (v := x4 + 1) (lv' := [(4, .int (x4 + 1)), (3, .int 0), (0, .ref (ad 0)), (1, .long y1)]) hx hb dX8_isClosed_57 hl (k := 3) rfl rfl (by decide) rfl (fun ls hl => ?_)
            refine lv_goto (tgt := 5) hx hb dX8_isClosed_60 (by decide) ?_
            exact ih 0 (x4 + 1) _ _ _ (by first | exact ⟨fuU_s hf.1 c11, bz_0⟩ | exact ⟨fuU_s hf.1 c11, bz_1⟩) hr hP hS (lv_sub hl [2, 3, 1, 0] rfl)
          · have hr := (if_pos c48).symm.trans hr
            refine lv_iconst (v := 1) hx hb dX8_isClosed_51 (by decide) ?_
            refine lv_goto (tgt := 56) hx hb dX8_isClosed_52 (by decide) ?_
            refine lv_istore_n (lv' := [(3, .int 1), (0, .ref (ad 0)), (1, .long y1), (4, .int x4)]) hx hb dX8_isClosed_56 rfl hl (by decide) rfl (fun ls hl => ?_)
            refine lv_iinc (v := x4 + 1) (lv' := [(4, .int (x4 + 1)), (3, .int 1), (0, .ref (ad 0)), (1, .long y1)]) hx hb dX8_isClosed_57 hl (k := 3) rfl rfl (by decide) rfl (fun ls hl => ?_)
            refine lv_goto (tgt := 5) hx hb dX8_isClosed_60 (by decide) ?_
            exact ih 1 (x4 + 1) _ _ _ (by first | exact ⟨fuU_s hf.1 c11, bz_0⟩ | exact ⟨fuU_s hf.1 c11, bz_1⟩) hr hP hS (lv_sub hl [2, 3, 1, 0] rfl)
set_option maxHeartbeats 4000000 in
set_option maxRecDepth 100000 in
theorem c_X8_isClosed (l : Launch) (D : va_G) (cI cL cZ : ClassId) (ad : Nat → Nat) (m_w m_h m_c m_s m_le m_un m_he m_ro m_wi m_hi m_hr m_hp m_rn m_rw m_rh : Int32) (m_n m_l m_b m_to m_hs : Int64) (m_ho m_tx m_ik m_wt : Nat → Int32) (m_ac m_ap m_pa m_im m_ri : Nat → Int64) (hAd : mInj ad) (p1 : Int64) (r : Int32) (hr : f_X8_isClosed p1 m_w m_h m_l m_ap = r) (hg : mG m_w m_h m_c m_s) : MZ l yX8_isClosed (Cond.code yX8_isClosed cX8_isClosed 5 (some .boolean) :: W0) 1 24 D cI cL cZ (mAd ad) [.ref (ad 0), .long p1] (mw ad cI cL cZ m_w m_h m_c m_s m_le m_un m_he m_ro m_wi m_hi m_hr m_hp m_rn m_rw m_rh m_n m_l m_b m_to m_hs m_ho m_tx m_ik m_wt m_ac m_ap m_pa m_im m_ri) r (mw ad cI cL cZ m_w m_h m_c m_s m_le m_un m_he m_ro m_wi m_hi m_hr m_hp m_rn m_rw m_rh m_n m_l m_b m_to m_hs m_ho m_tx m_ik m_wt m_ac m_ap m_pa m_im m_ri) := by
  refine mk_start (cc := cX8_isClosed) (maxL := 5) (ret := (some .boolean)) (by decide) rfl (Nat.le_of_ble_eq_true rfl) ?_
  intro p e s m below meth c ls C hP hS hl
  obtain ⟨hx, hb, hml, hrt, hlocks, hown, hts, hk⟩ := C
  have hown : s.vm.findClass RX8 = some m.cls := hown
  have hl : lv_has ls 5 [(0, .ref (ad 0)), (1, .long p1)] := hl
  rw [f_X8_isClosed] at hr
  refine lv_iconst (v := 1) hx hb dX8_isClosed_0 (by decide) ?_
  refine lv_istore_n (lv' := [(3, .int 1), (0, .ref (ad 0)), (1, .long p1)]) hx hb dX8_isClosed_1 rfl hl (by decide) rfl (fun ls hl => ?_)
  refine lv_iconst (v := 0) hx hb dX8_isClosed_2 (by decide) ?_
  refine lv_istore (lv' := [(4, .int 0), (3, .int 1), (0, .ref (ad 0)), (1, .long p1)]) hx hb dX8_isClosed_3 hl (by decide) rfl (fun ls hl => ?_)
  refine lp_X8_isClosed_5 l D cI cL cZ ad m_w m_h m_c m_s m_le m_un m_he m_ro m_wi m_hi m_hr m_hp m_rn m_rw m_rh m_n m_l m_b m_to m_hs m_ho m_tx m_ik m_wt m_ac m_ap m_pa m_im m_ri ⟨hx, hb, hml, hrt, hlocks, hown, hts, hk⟩ hAd p1 hg _ _ (fun z1 H locs ls hze hr hP hS hl => ?_) (fu (f_X8_points m_w m_h) (0 : Int32)) 1 0 _ _ _ ⟨fuU_0 (by decide), bz_1⟩ hr hP hS (lv_sub hl [2, 3, 1, 0] rfl)
  refine lv_iload_n hx hb dX8_isClosed_63 rfl (lv_at hl 0 rfl) ?_
  subst hr
  exact ret_z hx hb hrt hlocks (by first | assumption | exact bz_ok (by assumption)) hP hS dX8_isClosed_64
theorem hd_X8_isAmiss : yX8_isAmiss.cls = RX8 ∧ yX8_isAmiss.cls ≠ "java/lang/invoke/MethodHandle" ∧ yX8_isAmiss.cls ≠ "java/lang/invoke/VarHandle" ∧ (parseMethodDescriptor yX8_isAmiss.desc).map (fun d => d.parameters.length) = some 1 := by decide +kernel
def F_X8_isAmiss_5 (y1 : Int64) (m_c : Int32) (m_n : Int64) (m_l : Int64) (m_ac : Nat → Int64) {β : Type} (k0 : Int32 → β) : Nat → Int32 → Int32 → β
  | 0, x3, x4 => k0 x3
  | n + 1, x3, x4 => (if m_c ≤ x4 then k0 x3 else (if x3 = 0 then (if 5 ≤ (f_X8_numberAt x4 m_n) then F_X8_isAmiss_5 y1 m_c m_n m_l m_ac k0 n 0 (x4 + 1) else (if (f_X8_ones ((m_ac x4.toNatClampNeg) &&& (m_l ||| y1))) = (f_X8_numberAt x4 m_n) then F_X8_isAmiss_5 y1 m_c m_n m_l m_ac k0 n 0 (x4 + 1) else F_X8_isAmiss_5 y1 m_c m_n m_l m_ac k0 n 1 (x4 + 1))) else F_X8_isAmiss_5 y1 m_c m_n m_l m_ac k0 n 1 (x4 + 1)))
def f_X8_isAmiss (p1 : Int64) (m_c : Int32) (m_n : Int64) (m_l : Int64) (m_ac : Nat → Int64) : Int32 := F_X8_isAmiss_5 p1 m_c m_n m_l m_ac (fun z1 => z1) (fu m_c (0 : Int32)) 0 0
set_option maxHeartbeats 4000000 in
set_option maxRecDepth 100000 in
theorem lp_X8_isAmiss_5 (l : Launch) (D : va_G) (cI cL cZ : ClassId) (ad : Nat → Nat) (m_w m_h m_c m_s m_le m_un m_he m_ro m_wi m_hi m_hr m_hp m_rn m_rw m_rh : Int32) (m_n m_l m_b m_to m_hs : Int64) (m_ho m_tx m_ik m_wt : Nat → Int32) (m_ac m_ap m_pa m_im m_ri : Nat → Int64) {p : Program} {e : Env} {s : State} {m : MethodId} {args : Array Value} {below : List Frame} {meth : Method} {c : Code} {Q : State → Prop} (C : Cx p s m args meth c cX8_isAmiss 5 (some .boolean) W0 RX8 D cI cL cZ) (hAd : mInj ad) (y1 : Int64) (hg : mG m_w m_h m_c m_s) {β : Type} (k0 : Int32 → β) (r : β)
    (h0 : ∀ (e3 : Int32) (H : Heap) (locs : List Loc) (ls : Array Slot), bz e3 → k0 e3 = r → va_P D vwCl (mw ad cI cL cZ m_w m_h m_c m_s m_le m_un m_he m_ro m_wi m_hi m_hr m_hp m_rn m_rw m_rh m_n m_l m_b m_to m_hs m_ho m_tx m_ik m_wt m_ac m_ap m_pa m_im m_ri) H → va_S (mAd ad) s.heap H locs → lv_has ls 5 [(3, .int e3)] → W p l e (rmS 1 24) s m args below meth c H locs 0 0 Q (F0 m 66 ls [])) :
    ∀ (n : Nat) (x3 x4 : Int32) (H : Heap) (locs : List Loc) (ls : Array Slot), fuU n m_c x4 ∧ bz x3 → F_X8_isAmiss_5 y1 m_c m_n m_l m_ac k0 n x3 x4 = r → va_P D vwCl (mw ad cI cL cZ m_w m_h m_c m_s m_le m_un m_he m_ro m_wi m_hi m_hr m_hp m_rn m_rw m_rh m_n m_l m_b m_to m_hs m_ho m_tx m_ik m_wt m_ac m_ap m_pa m_im m_ri) H → va_S (mAd ad) s.heap H locs → lv_has ls 5 [(0, .ref (ad 0)), (1, .long y1), (3, .int x3), (4, .int x4)] → W p l e (rmS 1 24) s m args below meth c H locs 0 0 Q (F0 m 5 ls []) := by
  obtain ⟨hx, hb, hml, hrt, hlocks, hown, hts, hk⟩ := C
  intro n
  induction n with
  | zero =>
    intro x3 x4 H locs ls hf
    exact absurd hf.1.1 (Nat.lt_irrefl 0)
  | succ n ih =>
    intro x3 x4 H locs ls hf hr hP hS hl
    rw [F_X8_isAmiss_5] at hr
    refine lv_iload hx hb dX8_isAmiss_5 (lv_at hl 3 rfl) ?_
    refine lv_aload_n hx hb dX8_isAmiss_7 rfl (lv_at hl 0 rfl) ?_
    refine va_get (D := D) (ci := 8) (v := .int m_c) (C := RX8) (T := TX8) (N := 29) hx hb hts u_X8 hown hk.1 hP 0 rfl rfl 5 (by decide) (hts _ q4_17) (fun _ h9 => h9) rfl dX8_isAmiss_8 ?_
    refine lv_icmp_ge (tgt := 66) hx hb dX8_isAmiss_11 (by decide) (fun c11 => ?_) (fun c11 => ?_)
    · have hr := (if_pos c11).symm.trans hr
      exact h0 x3 _ _ _ hf.2 hr hP hS (lv_sub hl [2] rfl)
    · have hr := (if_neg c11).symm.trans hr
      refine lv_iload_n hx hb dX8_isAmiss_14 rfl (lv_at hl 2 rfl) ?_
      refine lv_if_ne (tgt := 54) hx hb dX8_isAmiss_15 (by decide) (fun c15 => ?_) (fun c15 => ?_)
      · have hr := (if_neg c15).symm.trans hr
        refine lv_iconst (v := 1) hx hb dX8_isAmiss_54 (by decide) ?_
        refine lv_goto (tgt := 59) hx hb dX8_isAmiss_55 (by decide) ?_
        refine lv_istore_n (lv' := [(3, .int 1), (0, .ref (ad 0)), (1, .long y1), (4, .int x4)]) hx hb dX8_isAmiss_59 rfl hl (by decide) rfl (fun ls hl => ?_)
        refine lv_iinc (v := x4 + 1) (lv' := [(4, .int (x4 + 1)), (3, .int 1), (0, .ref (ad 0)), (1, .long y1)]) hx hb dX8_isAmiss_60 hl (k := 3) rfl rfl (by decide) rfl (fun ls hl => ?_)
        refine lv_goto (tgt := 5) hx hb dX8_isAmiss_63 (by decide) ?_
        exact ih 1 (x4 + 1) _ _ _ (by first | exact ⟨fuU_s hf.1 c11, bz_0⟩ | exact ⟨fuU_s hf.1 c11, bz_1⟩) hr hP hS (lv_sub hl [2, 3, 1, 0] rfl)
      · have hr := (if_pos c15).symm.trans hr
        refine lv_aload_n hx hb dX8_isAmiss_18 rfl (lv_at hl 0 rfl) ?_
        refine lv_iload hx hb dX8_isAmiss_19 (lv_at hl 3 rfl) ?_
        refine go_i (ru_V (n := 1) ⟨hx, hb, hml, hown, hts⟩ hk hP (c_X8_numberAt l D cI cL cZ ad m_w m_h m_c m_s m_le m_un m_he m_ro m_wi m_hi m_hr m_hp m_rn m_rw m_rh m_n m_l m_b m_to m_hs m_ho m_tx m_ik m_wt m_ac m_ap m_pa m_im m_ri hAd x4 _ rfl) (cwV 1 hts (gV q4_140 q4_142 qs3_9 q1_11 q4_143) rfl rfl rfl hd_X8_numberAt ⟨Nat.le_of_ble_eq_true rfl, Nat.le_of_ble_eq_true rfl⟩) (va_recv hk.1 hP (ci := 8) (q0 := 0) rfl rfl) rfl hl.1 rfl (Nat.le_of_ble_eq_true rfl) dX8_isAmiss_21 ⟨Nat.zero_le _, Nat.zero_le _⟩) hS (fun _ h => h) (fun H locs hP hS => ?_)
        have hP : va_P D vwCl (mw ad cI cL cZ m_w m_h m_c m_s m_le m_un m_he m_ro m_wi m_hi m_hr m_hp m_rn m_rw m_rh m_n m_l m_b m_to m_hs m_ho m_tx m_ik m_wt m_ac m_ap m_pa m_im m_ri) H := hP
        refine lv_iconst (v := 5) hx hb dX8_isAmiss_24 (by decide) ?_
        refine lv_icmp_ge (tgt := 58) hx hb dX8_isAmiss_25 (by decide) (fun c25 => ?_) (fun c25 => ?_)
        · have hr := (if_pos c25).symm.trans hr
          refine lv_iconst (v := 0) hx hb dX8_isAmiss_58 (by decide) ?_
          refine lv_istore_n (lv' := [(3, .int 0), (0, .ref (ad 0)), (1, .long y1), (4, .int x4)]) hx hb dX8_isAmiss_59 rfl hl (by decide) rfl (fun ls hl => ?_)
          refine lv_iinc (v := x4 + 1) (lv' := [(4, .int (x4 + 1)), (3, .int 0), (0, .ref (ad 0)), (1, .long y1)]) hx hb dX8_isAmiss_60 hl (k := 3) rfl rfl (by decide) rfl (fun ls hl => ?_)
          refine lv_goto (tgt := 5) hx hb dX8_isAmiss_63 (by decide) ?_
          exact ih 0 (x4 + 1) _ _ _ (by first | exact ⟨fuU_s hf.1 c11, bz_0⟩ | exact ⟨fuU_s hf.1 c11, bz_1⟩) hr hP hS (lv_sub hl [2, 3, 1, 0] rfl)
        · have hr := (if_neg c25).symm.trans hr
          refine lv_aload_n hx hb dX8_isAmiss_28 rfl (lv_at hl 0 rfl) ?_
          refine va_get (D := D) (ci := 8) (v := .ref (ad 1)) (C := RX8) (T := TX8) (N := 29) hx hb hts u_X8 hown hk.1 hP 0 rfl rfl 7 (by decide) (hts _ q4_19) (fun _ h9 => h9) rfl dX8_isAmiss_29 ?_
          refine lv_iload hx hb dX8_isAmiss_32 (lv_at hl 3 rfl) ?_
          refine va_lald hx hb hk.1 hP 1 1 (rfl) rfl (vin_c hf.1.2.2 c11 (mG_c hg)) dX8_isAmiss_34 ?_
          refine lv_aload_n hx hb dX8_isAmiss_35 rfl (lv_at hl 0 rfl) ?_
          refine va_get (D := D) (ci := 8) (v := .long m_l) (C := RX8) (T := TX8) (N := 29) hx hb hts u_X8 hown hk.1 hP 0 rfl rfl 1 (by decide) (hts _ q4_13) (fun _ h9 => h9) rfl dX8_isAmiss_36 ?_
          refine lv_lload_n hx hb dX8_isAmiss_39 rfl (lv_at hl 1 rfl) ?_
          refine lv_lor hx hb dX8_isAmiss_40 ?_
          refine lv_land hx hb dX8_isAmiss_41 ?_
          refine go_i (ru_S (n := 1) ⟨hx, hb, hml, hown, hts⟩ hk hP (c_X8_ones l D cI cL cZ (mAd ad) (mw ad cI cL cZ m_w m_h m_c m_s m_le m_un m_he m_ro m_wi m_hi m_hr m_hp m_rn m_rw m_rh m_n m_l m_b m_to m_hs m_ho m_tx m_ik m_wt m_ac m_ap m_pa m_im m_ri) ((m_ac x4.toNatClampNeg) &&& (m_l ||| y1)) _ rfl) (va_cwS 1 hts (gS q4_213 q4_214 q1_11 q4_215) rfl rfl rfl hd_X8_ones ⟨Nat.le_of_ble_eq_true rfl, Nat.le_of_ble_eq_true rfl⟩) rfl hl.1 rfl (Nat.le_of_ble_eq_true rfl) dX8_isAmiss_42 ⟨Nat.zero_le _, Nat.zero_le _⟩) hS (fun _ h => h) (fun H locs hP hS => ?_)
          have hP : va_P D vwCl (mw ad cI cL cZ m_w m_h m_c m_s m_le m_un m_he m_ro m_wi m_hi m_hr m_hp m_rn m_rw m_rh m_n m_l m_b m_to m_hs m_ho m_tx m_ik m_wt m_ac m_ap m_pa m_im m_ri) H := hP
          refine lv_aload_n hx hb dX8_isAmiss_45 rfl (lv_at hl 0 rfl) ?_
          refine lv_iload hx hb dX8_isAmiss_46 (lv_at hl 3 rfl) ?_
          refine go_i (ru_V (n := 1) ⟨hx, hb, hml, hown, hts⟩ hk hP (c_X8_numberAt l D cI cL cZ ad m_w m_h m_c m_s m_le m_un m_he m_ro m_wi m_hi m_hr m_hp m_rn m_rw m_rh m_n m_l m_b m_to m_hs m_ho m_tx m_ik m_wt m_ac m_ap m_pa m_im m_ri hAd x4 _ rfl) (cwV 1 hts (gV q4_140 q4_142 qs3_9 q1_11 q4_143) rfl rfl rfl hd_X8_numberAt ⟨Nat.le_of_ble_eq_true rfl, Nat.le_of_ble_eq_true rfl⟩) (va_recv hk.1 hP (ci := 8) (q0 := 0) rfl rfl) rfl hl.1 rfl (Nat.le_of_ble_eq_true rfl) dX8_isAmiss_48 ⟨Nat.zero_le _, Nat.zero_le _⟩) hS (fun _ h => h) (fun H locs hP hS => ?_)
          have hP : va_P D vwCl (mw ad cI cL cZ m_w m_h m_c m_s m_le m_un m_he m_ro m_wi m_hi m_hr m_hp m_rn m_rw m_rh m_n m_l m_b m_to m_hs m_ho m_tx m_ik m_wt m_ac m_ap m_pa m_im m_ri) H := hP
          refine lv_icmp_eq (tgt := 58) hx hb dX8_isAmiss_51 (by decide) (fun c51 => ?_) (fun c51 => ?_)
          · have hr := (if_pos c51).symm.trans hr
            refine lv_iconst (v := 0) hx hb dX8_isAmiss_58 (by decide) ?_
            refine lv_istore_n (lv' := [(3, .int 0), (0, .ref (ad 0)), (1, .long y1), (4, .int x4)]) hx hb dX8_isAmiss_59 rfl hl (by decide) rfl (fun ls hl => ?_)
            refine lv_iinc (v := x4 + 1) (lv' := [(4, .int (x4 + 1)), (3, .int 0), (0, .ref (ad 0)), (1, .long y1)]) hx hb dX8_isAmiss_60 hl (k := 3) rfl rfl (by decide) rfl (fun ls hl => ?_)
            refine lv_goto (tgt := 5) hx hb dX8_isAmiss_63 (by decide) ?_
            exact ih 0 (x4 + 1) _ _ _ (by first | exact ⟨fuU_s hf.1 c11, bz_0⟩ | exact ⟨fuU_s hf.1 c11, bz_1⟩) hr hP hS (lv_sub hl [2, 3, 1, 0] rfl)
          · have hr := (if_neg c51).symm.trans hr
            refine lv_iconst (v := 1) hx hb dX8_isAmiss_54 (by decide) ?_
            refine lv_goto (tgt := 59) hx hb dX8_isAmiss_55 (by decide) ?_
            refine lv_istore_n (lv' := [(3, .int 1), (0, .ref (ad 0)), (1, .long y1), (4, .int x4)]) hx hb dX8_isAmiss_59 rfl hl (by decide) rfl (fun ls hl => ?_)
            refine lv_iinc (v := x4 + 1) (lv' := [(4, .int (x4 + 1)), (3, .int 1), (0, .ref (ad 0)), (1, .long y1)]) hx hb dX8_isAmiss_60 hl (k := 3) rfl rfl (by decide) rfl (fun ls hl => ?_)
            refine lv_goto (tgt := 5) hx hb dX8_isAmiss_63 (by decide) ?_
            exact ih 1 (x4 + 1) _ _ _ (by first | exact ⟨fuU_s hf.1 c11, bz_0⟩ | exact ⟨fuU_s hf.1 c11, bz_1⟩) hr hP hS (lv_sub hl [2, 3, 1, 0] rfl)
set_option maxHeartbeats 4000000 in
set_option maxRecDepth 100000 in
theorem c_X8_isAmiss (l : Launch) (D : va_G) (cI cL cZ : ClassId) (ad : Nat → Nat) (m_w m_h m_c m_s m_le m_un m_he m_ro m_wi m_hi m_hr m_hp m_rn m_rw m_rh : Int32) (m_n m_l m_b m_to m_hs : Int64) (m_ho m_tx m_ik m_wt : Nat → Int32) (m_ac m_ap m_pa m_im m_ri : Nat → Int64) (hAd : mInj ad) (p1 : Int64) (r : Int32) (hr : f_X8_isAmiss p1 m_c m_n m_l m_ac = r) (hg : mG m_w m_h m_c m_s) : MZ l yX8_isAmiss (Cond.code yX8_isAmiss cX8_isAmiss 5 (some .boolean) :: W0) 1 24 D cI cL cZ (mAd ad) [.ref (ad 0), .long p1] (mw ad cI cL cZ m_w m_h m_c m_s m_le m_un m_he m_ro m_wi m_hi m_hr m_hp m_rn m_rw m_rh m_n m_l m_b m_to m_hs m_ho m_tx m_ik m_wt m_ac m_ap m_pa m_im m_ri) r (mw ad cI cL cZ m_w m_h m_c m_s m_le m_un m_he m_ro m_wi m_hi m_hr m_hp m_rn m_rw m_rh m_n m_l m_b m_to m_hs m_ho m_tx m_ik m_wt m_ac m_ap m_pa m_im m_ri) := by
  refine mk_start (cc := cX8_isAmiss) (maxL := 5) (ret := (some .boolean)) (by decide) rfl (Nat.le_of_ble_eq_true rfl) ?_
  intro p e s m below meth c ls C hP hS hl
  obtain ⟨hx, hb, hml, hrt, hlocks, hown, hts, hk⟩ := C
  have hown : s.vm.findClass RX8 = some m.cls := hown
  have hl : lv_has ls 5 [(0, .ref (ad 0)), (1, .long p1)] := hl
  rw [f_X8_isAmiss] at hr
  refine lv_iconst (v := 0) hx hb dX8_isAmiss_0 (by decide) ?_
  refine lv_istore_n (lv' := [(3, .int 0), (0, .ref (ad 0)), (1, .long p1)]) hx hb dX8_isAmiss_1 rfl hl (by decide) rfl (fun ls hl => ?_)
  refine lv_iconst (v := 0) hx hb dX8_isAmiss_2 (by decide) ?_
  refine lv_istore (lv' := [(4, .int 0), (3, .int 0), (0, .ref (ad 0)), (1, .long p1)]) hx hb dX8_isAmiss_3 hl (by decide) rfl (fun ls hl => ?_)
  refine lp_X8_isAmiss_5 l D cI cL cZ ad m_w m_h m_c m_s m_le m_un m_he m_ro m_wi m_hi m_hr m_hp m_rn m_rw m_rh m_n m_l m_b m_to m_hs m_ho m_tx m_ik m_wt m_ac m_ap m_pa m_im m_ri ⟨hx, hb, hml, hrt, hlocks, hown, hts, hk⟩ hAd p1 hg _ _ (fun z1 H locs ls hze hr hP hS hl => ?_) (fu m_c (0 : Int32)) 0 0 _ _ _ ⟨fuU_0 (by decide), bz_0⟩ hr hP hS (lv_sub hl [2, 3, 1, 0] rfl)
  refine lv_iload_n hx hb dX8_isAmiss_66 rfl (lv_at hl 0 rfl) ?_
  subst hr
  exact ret_z hx hb hrt hlocks (by first | assumption | exact bz_ok (by assumption)) hP hS dX8_isAmiss_67
theorem hd_X8_atChains : yX8_atChains.cls = RX8 ∧ yX8_atChains.cls ≠ "java/lang/invoke/MethodHandle" ∧ yX8_atChains.cls ≠ "java/lang/invoke/VarHandle" ∧ (parseMethodDescriptor yX8_atChains.desc).map (fun d => d.parameters.length) = some 1 := by decide +kernel
def F_X8_atChains_80 (y2 : Int64) (m_w : Int32) (m_h : Int32) (m_l : Int64) (m_ap : Nat → Int64) {β : Type} (k0 : Int64 → Int64 → β) : Nat → Int64 → Int64 → Int32 → β
  | 0, x4, x6, x8 => k0 x4 x6
  | n + 1, x4, x6, x8 => (if (f_X8_points m_w m_h) ≤ x8 then k0 x4 x6 else (if (lg_cmp ((m_ap x8.toNatClampNeg) &&& y2) 0) = 0 then F_X8_atChains_80 y2 m_w m_h m_l m_ap k0 n x4 x6 (x8 + 1) else (if (lg_cmp x4 0) = 0 then (if (lg_cmp x4 0) = 0 then F_X8_atChains_80 y2 m_w m_h m_l m_ap k0 n (((m_ap x8.toNatClampNeg) &&& m_l) ||| y2) x6 (x8 + 1) else F_X8_atChains_80 y2 m_w m_h m_l m_ap k0 n x4 x6 (x8 + 1)) else (if (lg_cmp x4 0) = 0 then F_X8_atChains_80 y2 m_w m_h m_l m_ap k0 n (((m_ap x8.toNatClampNeg) &&& m_l) ||| y2) ((m_ap x8.toNatClampNeg) &&& m_l) (x8 + 1) else F_X8_atChains_80 y2 m_w m_h m_l m_ap k0 n x4 ((m_ap x8.toNatClampNeg) &&& m_l) (x8 + 1)))))
def f_X8_atChains (p1 : Int32) (m_w : Int32) (m_h : Int32) (m_c : Int32) (m_hi : Int32) (m_hr : Int32) (m_hp : Int32) (m_n : Int64) (m_l : Int64) (m_b : Int64) (m_hs : Int64) (m_ac : Nat → Int64) (m_ap : Nat → Int64) : Int32 × Int32 × Int32 × Int32 × Int64 := (if (lg_cmp (m_l &&& (shlL 1 p1)) 0) = 0 then (if (lg_cmp (m_b &&& (shlL 1 p1)) 0) = 0 then F_X8_atChains_80 (shlL 1 p1) m_w m_h m_l m_ap (fun z1 z2 => (if (lg_cmp (z1 &&& ((shlL 1 p1) ^^^ ((-1)))) 0) = 0 then (0, m_hi, m_hr, m_hp, m_hs) else (if (lg_cmp z2 0) = 0 then (0, m_hi, m_hr, m_hp, m_hs) else (if (lg_cmp ((f_X8_chain (z1 &&& ((shlL 1 p1) ^^^ ((-1)))) m_l m_w m_h m_ap) &&& z2) 0) = 0 then (bd (f_X8_finds 2 p1 0 (shlL 1 p1)) (fun u3 => (u3.1, u3.2.1, u3.2.2.1, u3.2.2.2.1, u3.2.2.2.2))) else (if (lg_cmp (f_X8_chain (z1 &&& ((shlL 1 p1) ^^^ ((-1)))) m_l m_w m_h m_ap) m_l) = 0 then (if (f_X8_isAmiss (shlL 1 p1) m_c m_n m_l m_ac) = 0 then (bd (f_X8_finds 2 p1 0 (shlL 1 p1)) (fun u5 => (u5.1, u5.2.1, u5.2.2.1, u5.2.2.2.1, u5.2.2.2.2))) else (bd (f_X8_finds 2 p1 1 (shlL 1 p1)) (fun u6 => (u6.1, u6.2.1, u6.2.2.1, u6.2.2.2.1, u6.2.2.2.2)))) else (bd (f_X8_finds 2 p1 1 (shlL 1 p1)) (fun u4 => (u4.1, u4.2.1, u4.2.2.1, u4.2.2.2.1, u4.2.2.2.2)))))))) (fu ((f_X8_points m_w m_h)) (0 : Int32)) 0 0 0 else (0, m_hi, m_hr, m_hp, m_hs)) else (if (lg_cmp (f_X8_chain (shlL 1 p1) m_l m_w m_h m_ap) m_l) = 0 then (bd (f_X8_finds 2 p1 0 0) (fun u7 => (u7.1, u7.2.1, u7.2.2.1, u7.2.2.2.1, u7.2.2.2.2))) else (if (f_X8_isClosed (f_X8_chain (shlL 1 p1) m_l m_w m_h m_ap) m_w m_h m_l m_ap) = 0 then (bd (f_X8_finds 2 p1 0 0) (fun u8 => (u8.1, u8.2.1, u8.2.2.1, u8.2.2.2.1, u8.2.2.2.2))) else (bd (f_X8_finds 2 p1 3 0) (fun u9 => (u9.1, u9.2.1, u9.2.2.1, u9.2.2.2.1, u9.2.2.2.2))))))
set_option maxHeartbeats 4000000 in
set_option maxRecDepth 100000 in
theorem lp_X8_atChains_80 (l : Launch) (D : va_G) (cI cL cZ : ClassId) (ad : Nat → Nat) (m_w m_h m_c m_s m_le m_un m_he m_ro m_wi m_hi m_hr m_hp m_rn m_rw m_rh : Int32) (m_n m_l m_b m_to m_hs : Int64) (m_ho m_tx m_ik m_wt : Nat → Int32) (m_ac m_ap m_pa m_im m_ri : Nat → Int64) {p : Program} {e : Env} {s : State} {m : MethodId} {args : Array Value} {below : List Frame} {meth : Method} {c : Code} {Q : State → Prop} (C : Cx p s m args meth c cX8_atChains 11 (some .boolean) W0 RX8 D cI cL cZ) (hAd : mInj ad) (y1 : Int32) (y2 : Int64) (hg : mG m_w m_h m_c m_s) {β : Type} (k0 : Int64 → Int64 → β) (r : β)
    (h0 : ∀ (e4 e6 : Int64) (H : Heap) (locs : List Loc) (ls : Array Slot), k0 e4 e6 = r → va_P D vwCl (mw ad cI cL cZ m_w m_h m_c m_s m_le m_un m_he m_ro m_wi m_hi m_hr m_hp m_rn m_rw m_rh m_n m_l m_b m_to m_hs m_ho m_tx m_ik m_wt m_ac m_ap m_pa m_im m_ri) H → va_S (mAd ad) s.heap H locs → lv_has ls 11 [(0, .ref (ad 0)), (1, .int y1), (2, .long y2), (4, .long e4), (6, .long e6)] → W p l e (rmS 2 49) s m args below meth c H locs 0 0 Q (F0 m 163 ls [])) :
    ∀ (n : Nat) (x4 x6 : Int64) (x8 : Int32) (H : Heap) (locs : List Loc) (ls : Array Slot), fuU n ((f_X8_points m_w m_h)) x8 → F_X8_atChains_80 y2 m_w m_h m_l m_ap k0 n x4 x6 x8 = r → va_P D vwCl (mw ad cI cL cZ m_w m_h m_c m_s m_le m_un m_he m_ro m_wi m_hi m_hr m_hp m_rn m_rw m_rh m_n m_l m_b m_to m_hs m_ho m_tx m_ik m_wt m_ac m_ap m_pa m_im m_ri) H → va_S (mAd ad) s.heap H locs → lv_has ls 11 [(0, .ref (ad 0)), (1, .int y1), (2, .long y2), (4, .long x4), (6, .long x6), (8, .int x8)] → W p l e (rmS 2 49) s m args below meth c H locs 0 0 Q (F0 m 80 ls []) := by
  obtain ⟨hx, hb, hml, hrt, hlocks, hown, hts, hk⟩ := C
  intro n
  induction n with
  | zero =>
    intro x4 x6 x8 H locs ls hf
    exact absurd hf.1 (Nat.lt_irrefl 0)
  | succ n ih =>
    intro x4 x6 x8 H locs ls hf hr hP hS hl
    rw [F_X8_atChains_80] at hr
    refine lv_iload hx hb dX8_atChains_80 (lv_at hl 5 rfl) ?_
    refine lv_aload_n hx hb dX8_atChains_82 rfl (lv_at hl 0 rfl) ?_
    refine go_i (ru_V (n := 0) ⟨hx, hb, hml, hown, hts⟩ hk hP (c_X8_points l D cI cL cZ ad m_w m_h m_c m_s m_le m_un m_he m_ro m_wi m_hi m_hr m_hp m_rn m_rw m_rh m_n m_l m_b m_to m_hs m_ho m_tx m_ik m_wt m_ac m_ap m_pa m_im m_ri hAd _ rfl) (cwV 0 hts (gV q4_160 q4_162 qs3_11 q1_11 q4_163) rfl rfl rfl hd_X8_points ⟨Nat.le_of_ble_eq_true rfl, Nat.le_of_ble_eq_true rfl⟩) (va_recv hk.1 hP (ci := 8) (q0 := 0) rfl rfl) rfl hl.1 rfl (Nat.le_of_ble_eq_true rfl) dX8_atChains_83 ⟨Nat.zero_le _, Nat.zero_le _⟩) hS (fun _ h => h) (fun H locs hP hS => ?_)
    have hP : va_P D vwCl (mw ad cI cL cZ m_w m_h m_c m_s m_le m_un m_he m_ro m_wi m_hi m_hr m_hp m_rn m_rw m_rh m_n m_l m_b m_to m_hs m_ho m_tx m_ik m_wt m_ac m_ap m_pa m_im m_ri) H := hP
    refine lv_icmp_ge (tgt := 163) hx hb dX8_atChains_86 (by decide) (fun c86 => ?_) (fun c86 => ?_)
    · have hr := (if_pos c86).symm.trans hr
      exact h0 x4 x6 _ _ _ hr hP hS (lv_sub hl [0, 1, 2, 3, 4] rfl)
    · have hr := (if_neg c86).symm.trans hr
      refine lv_aload_n hx hb dX8_atChains_89 rfl (lv_at hl 0 rfl) ?_
      refine va_get (D := D) (ci := 8) (v := .ref (ad 2)) (C := RX8) (T := TX8) (N := 29) hx hb hts u_X8 hown hk.1 hP 0 rfl rfl 8 (by decide) (hts _ q4_20) (fun _ h9 => h9) rfl dX8_atChains_90 ?_
      refine lv_iload hx hb dX8_atChains_93 (lv_at hl 5 rfl) ?_
      refine va_lald hx hb hk.1 hP 2 1 (rfl) rfl (vin_c hf.2.2 c86 (mG_p hg)) dX8_atChains_95 ?_
      refine lv_lload_n hx hb dX8_atChains_96 rfl (lv_at hl 2 rfl) ?_
      refine lv_land hx hb dX8_atChains_97 ?_
      refine lv_lconst (v := 0) hx hb dX8_atChains_98 (by decide) ?_
      refine W.lcmp hx hb dX8_atChains_99 ?_
      refine lv_if_eq (tgt := 157) hx hb dX8_atChains_100 (by decide) (fun c100 => ?_) (fun c100 => ?_)
      · have hr := (if_pos c100).symm.trans hr
        refine lv_iinc (v := x8 + 1) (lv' := [(8, .int (x8 + 1)), (0, .ref (ad 0)), (1, .int y1), (2, .long y2), (4, .long x4), (6, .long x6)]) hx hb dX8_atChains_157 hl (k := 5) rfl rfl (by decide) rfl (fun ls hl => ?_)
        refine lv_goto (tgt := 80) hx hb dX8_atChains_160 (by decide) ?_
        exact ih x4 x6 (x8 + 1) _ _ _ (fuU_s hf c86) hr hP hS (lv_sub hl [1, 2, 3, 4, 5, 0] rfl)
      · have hr := (if_neg c100).symm.trans hr
        refine lv_lload hx hb dX8_atChains_103 (lv_at hl 3 rfl) ?_
        refine lv_lconst (v := 0) hx hb dX8_atChains_105 (by decide) ?_
        refine W.lcmp hx hb dX8_atChains_106 ?_
        refine lv_if_ne (tgt := 115) hx hb dX8_atChains_107 (by decide) (fun c107 => ?_) (fun c107 => ?_)
        · have hr := (if_neg c107).symm.trans hr
          refine lv_aload_n hx hb dX8_atChains_115 rfl (lv_at hl 0 rfl) ?_
          refine va_get (D := D) (ci := 8) (v := .ref (ad 2)) (C := RX8) (T := TX8) (N := 29) hx hb hts u_X8 hown hk.1 hP 0 rfl rfl 8 (by decide) (hts _ q4_20) (fun _ h9 => h9) rfl dX8_atChains_116 ?_
          refine lv_iload hx hb dX8_atChains_119 (lv_at hl 5 rfl) ?_
          refine va_lald hx hb hk.1 hP 2 1 (rfl) rfl (vin_c hf.2.2 c86 (mG_p hg)) dX8_atChains_121 ?_
          refine lv_aload_n hx hb dX8_atChains_122 rfl (lv_at hl 0 rfl) ?_
          refine va_get (D := D) (ci := 8) (v := .long m_l) (C := RX8) (T := TX8) (N := 29) hx hb hts u_X8 hown hk.1 hP 0 rfl rfl 1 (by decide) (hts _ q4_13) (fun _ h9 => h9) rfl dX8_atChains_123 ?_
          refine lv_land hx hb dX8_atChains_126 ?_
          refine lv_lstore (lv' := [(6, .long ((m_ap x8.toNatClampNeg) &&& m_l)), (0, .ref (ad 0)), (1, .int y1), (2, .long y2), (4, .long x4), (8, .int x8)]) hx hb dX8_atChains_127 hl (by decide) rfl (fun ls hl => ?_)
          refine lv_lload hx hb dX8_atChains_129 (lv_at hl 4 rfl) ?_
          refine lv_lconst (v := 0) hx hb dX8_atChains_131 (by decide) ?_
          refine W.lcmp hx hb dX8_atChains_132 ?_
          refine lv_if_ne (tgt := 153) hx hb dX8_atChains_133 (by decide) (fun c133 => ?_) (fun c133 => ?_)
          · have hr := (if_neg c133).symm.trans hr
            refine lv_lload hx hb dX8_atChains_153 (lv_at hl 4 rfl) ?_
            refine lv_lstore (lv' := [(4, .long x4), (6, .long ((m_ap x8.toNatClampNeg) &&& m_l)), (0, .ref (ad 0)), (1, .int y1), (2, .long y2), (8, .int x8)]) hx hb dX8_atChains_155 hl (by decide) rfl (fun ls hl => ?_)
            refine lv_iinc (v := x8 + 1) (lv' := [(8, .int (x8 + 1)), (4, .long x4), (6, .long ((m_ap x8.toNatClampNeg) &&& m_l)), (0, .ref (ad 0)), (1, .int y1), (2, .long y2)]) hx hb dX8_atChains_157 hl (k := 5) rfl rfl (by decide) rfl (fun ls hl => ?_)
            refine lv_goto (tgt := 80) hx hb dX8_atChains_160 (by decide) ?_
            exact ih x4 ((m_ap x8.toNatClampNeg) &&& m_l) (x8 + 1) _ _ _ (fuU_s hf c86) hr hP hS (lv_sub hl [3, 4, 5, 1, 2, 0] rfl)
          · have hr := (if_pos c133).symm.trans hr
            refine lv_aload_n hx hb dX8_atChains_136 rfl (lv_at hl 1 rfl) ?_
            refine va_get (D := D) (ci := 8) (v := .ref (ad 2)) (C := RX8) (T := TX8) (N := 29) hx hb hts u_X8 hown hk.1 hP 0 rfl rfl 8 (by decide) (hts _ q4_20) (fun _ h9 => h9) rfl dX8_atChains_137 ?_
            refine lv_iload hx hb dX8_atChains_140 (lv_at hl 5 rfl) ?_
            refine va_lald hx hb hk.1 hP 2 1 (rfl) rfl (vin_c hf.2.2 c86 (mG_p hg)) dX8_atChains_142 ?_
            refine lv_aload_n hx hb dX8_atChains_143 rfl (lv_at hl 1 rfl) ?_
            refine va_get (D := D) (ci := 8) (v := .long m_l) (C := RX8) (T := TX8) (N := 29) hx hb hts u_X8 hown hk.1 hP 0 rfl rfl 1 (by decide) (hts _ q4_13) (fun _ h9 => h9) rfl dX8_atChains_144 ?_
            refine lv_land hx hb dX8_atChains_147 ?_
            refine lv_lload_n hx hb dX8_atChains_148 rfl (lv_at hl 3 rfl) ?_
            refine lv_lor hx hb dX8_atChains_149 ?_
            refine lv_goto (tgt := 155) hx hb dX8_atChains_150 (by decide) ?_
            refine lv_lstore (lv' := [(4, .long (((m_ap x8.toNatClampNeg) &&& m_l) ||| y2)), (6, .long ((m_ap x8.toNatClampNeg) &&& m_l)), (0, .ref (ad 0)), (1, .int y1), (2, .long y2), (8, .int x8)]) hx hb dX8_atChains_155 hl (by decide) rfl (fun ls hl => ?_)
            refine lv_iinc (v := x8 + 1) (lv' := [(8, .int (x8 + 1)), (4, .long (((m_ap x8.toNatClampNeg) &&& m_l) ||| y2)), (6, .long ((m_ap x8.toNatClampNeg) &&& m_l)), (0, .ref (ad 0)), (1, .int y1), (2, .long y2)]) hx hb dX8_atChains_157 hl (k := 5) rfl rfl (by decide) rfl (fun ls hl => ?_)
            refine lv_goto (tgt := 80) hx hb dX8_atChains_160 (by decide) ?_
            exact ih (((m_ap x8.toNatClampNeg) &&& m_l) ||| y2) ((m_ap x8.toNatClampNeg) &&& m_l) (x8 + 1) _ _ _ (fuU_s hf c86) hr hP hS (lv_sub hl [3, 4, 5, 1, 2, 0] rfl)
        · have hr := (if_pos c107).symm.trans hr
          refine lv_lload hx hb dX8_atChains_110 (lv_at hl 4 rfl) ?_
          refine lv_goto (tgt := 127) hx hb dX8_atChains_112 (by decide) ?_
          refine lv_lstore (lv' := [(6, .long x6), (0, .ref (ad 0)), (1, .int y1), (2, .long y2), (4, .long x4), (8, .int x8)]) hx hb dX8_atChains_127 hl (by decide) rfl (fun ls hl => ?_)
          refine lv_lload hx hb dX8_atChains_129 (lv_at hl 4 rfl) ?_
          refine lv_lconst (v := 0) hx hb dX8_atChains_131 (by decide) ?_
          refine W.lcmp hx hb dX8_atChains_132 ?_
          refine lv_if_ne (tgt := 153) hx hb dX8_atChains_133 (by decide) (fun c133 => ?_) (fun c133 => ?_)
          · have hr := (if_neg c133).symm.trans hr
            refine lv_lload hx hb dX8_atChains_153 (lv_at hl 4 rfl) ?_
            refine lv_lstore (lv' := [(4, .long x4), (6, .long x6), (0, .ref (ad 0)), (1, .int y1), (2, .long y2), (8, .int x8)]) hx hb dX8_atChains_155 hl (by decide) rfl (fun ls hl => ?_)
            refine lv_iinc (v := x8 + 1) (lv' := [(8, .int (x8 + 1)), (4, .long x4), (6, .long x6), (0, .ref (ad 0)), (1, .int y1), (2, .long y2)]) hx hb dX8_atChains_157 hl (k := 5) rfl rfl (by decide) rfl (fun ls hl => ?_)
            refine lv_goto (tgt := 80) hx hb dX8_atChains_160 (by decide) ?_
            exact ih x4 x6 (x8 + 1) _ _ _ (fuU_s hf c86) hr hP hS (lv_sub hl [3, 4, 5, 1, 2, 0] rfl)
          · have hr := (if_pos c133).symm.trans hr
            refine lv_aload_n hx hb dX8_atChains_136 rfl (lv_at hl 1 rfl) ?_
            refine va_get (D := D) (ci := 8) (v := .ref (ad 2)) (C := RX8) (T := TX8) (N := 29) hx hb hts u_X8 hown hk.1 hP 0 rfl rfl 8 (by decide) (hts _ q4_20) (fun _ h9 => h9) rfl dX8_atChains_137 ?_
            refine lv_iload hx hb dX8_atChains_140 (lv_at hl 5 rfl) ?_
            refine va_lald hx hb hk.1 hP 2 1 (rfl) rfl (vin_c hf.2.2 c86 (mG_p hg)) dX8_atChains_142 ?_
            refine lv_aload_n hx hb dX8_atChains_143 rfl (lv_at hl 1 rfl) ?_
            refine va_get (D := D) (ci := 8) (v := .long m_l) (C := RX8) (T := TX8) (N := 29) hx hb hts u_X8 hown hk.1 hP 0 rfl rfl 1 (by decide) (hts _ q4_13) (fun _ h9 => h9) rfl dX8_atChains_144 ?_
            refine lv_land hx hb dX8_atChains_147 ?_
            refine lv_lload_n hx hb dX8_atChains_148 rfl (lv_at hl 3 rfl) ?_
            refine lv_lor hx hb dX8_atChains_149 ?_
            refine lv_goto (tgt := 155) hx hb dX8_atChains_150 (by decide) ?_
            refine lv_lstore (lv' := [(4, .long (((m_ap x8.toNatClampNeg) &&& m_l) ||| y2)), (6, .long x6), (0, .ref (ad 0)), (1, .int y1), (2, .long y2), (8, .int x8)]) hx hb dX8_atChains_155 hl (by decide) rfl (fun ls hl => ?_)
            refine lv_iinc (v := x8 + 1) (lv' := [(8, .int (x8 + 1)), (4, .long (((m_ap x8.toNatClampNeg) &&& m_l) ||| y2)), (6, .long x6), (0, .ref (ad 0)), (1, .int y1), (2, .long y2)]) hx hb dX8_atChains_157 hl (k := 5) rfl rfl (by decide) rfl (fun ls hl => ?_)
            refine lv_goto (tgt := 80) hx hb dX8_atChains_160 (by decide) ?_
            exact ih (((m_ap x8.toNatClampNeg) &&& m_l) ||| y2) x6 (x8 + 1) _ _ _ (fuU_s hf c86) hr hP hS (lv_sub hl [3, 4, 5, 1, 2, 0] rfl)
set_option maxHeartbeats 4000000 in
set_option maxRecDepth 100000 in
theorem c_X8_atChains (l : Launch) (D : va_G) (cI cL cZ : ClassId) (ad : Nat → Nat) (m_w m_h m_c m_s m_le m_un m_he m_ro m_wi m_hi m_hr m_hp m_rn m_rw m_rh : Int32) (m_n m_l m_b m_to m_hs : Int64) (m_ho m_tx m_ik m_wt : Nat → Int32) (m_ac m_ap m_pa m_im m_ri : Nat → Int64) (hAd : mInj ad) (p1 : Int32) (r : Int32 × Int32 × Int32 × Int32 × Int64) (hr : f_X8_atChains p1 m_w m_h m_c m_hi m_hr m_hp m_n m_l m_b m_hs m_ac m_ap = r) (hg : mG m_w m_h m_c m_s) : MZ l yX8_atChains (Cond.code yX8_atChains cX8_atChains 11 (some .boolean) :: W0) 2 49 D cI cL cZ (mAd ad) [.ref (ad 0), .int p1] (mw ad cI cL cZ m_w m_h m_c m_s m_le m_un m_he m_ro m_wi m_hi m_hr m_hp m_rn m_rw m_rh m_n m_l m_b m_to m_hs m_ho m_tx m_ik m_wt m_ac m_ap m_pa m_im m_ri) r.1 (mw ad cI cL cZ m_w m_h m_c m_s m_le m_un m_he m_ro m_wi r.2.1 r.2.2.1 r.2.2.2.1 m_rn m_rw m_rh m_n m_l m_b m_to r.2.2.2.2 m_ho m_tx m_ik m_wt m_ac m_ap m_pa m_im m_ri) := by
  refine mk_start (cc := cX8_atChains) (maxL := 11) (ret := (some .boolean)) (by decide) rfl (Nat.le_of_ble_eq_true rfl) ?_
  intro p e s m below meth c ls C hP hS hl
  obtain ⟨hx, hb, hml, hrt, hlocks, hown, hts, hk⟩ := C
  have hown : s.vm.findClass RX8 = some m.cls := hown
  have hl : lv_has ls 11 [(0, .ref (ad 0)), (1, .int p1)] := hl
  rw [f_X8_atChains] at hr
  refine lv_lconst (v := 1) hx hb dX8_atChains_0 (by decide) ?_
  refine lv_iload_n hx hb dX8_atChains_1 rfl (lv_at hl 1 rfl) ?_
  refine lv_lshl (v := shlL 1 p1) hx hb dX8_atChains_2 rfl ?_
  refine lv_lstore_n (lv' := [(2, .long (shlL 1 p1)), (0, .ref (ad 0)), (1, .int p1)]) hx hb dX8_atChains_3 rfl hl (by decide) rfl (fun ls hl => ?_)
  refine lv_aload_n hx hb dX8_atChains_4 rfl (lv_at hl 1 rfl) ?_
  refine va_get (D := D) (ci := 8) (v := .long m_l) (C := RX8) (T := TX8) (N := 29) hx hb hts u_X8 hown hk.1 hP 0 rfl rfl 1 (by decide) (hts _ q4_13) (fun _ h9 => h9) rfl dX8_atChains_5 ?_
  refine lv_lload_n hx hb dX8_atChains_8 rfl (lv_at hl 0 rfl) ?_
  refine lv_land hx hb dX8_atChains_9 ?_
  refine lv_lconst (v := 0) hx hb dX8_atChains_10 (by decide) ?_
  refine W.lcmp hx hb dX8_atChains_11 ?_
  refine lv_if_eq (tgt := 58) hx hb dX8_atChains_12 (by decide) (fun c12 => ?_) (fun c12 => ?_)
  · have hr := (if_pos c12).symm.trans hr
    refine lv_aload_n hx hb dX8_atChains_58 rfl (lv_at hl 1 rfl) ?_
    refine va_get (D := D) (ci := 8) (v := .long m_b) (C := RX8) (T := TX8) (N := 29) hx hb hts u_X8 hown hk.1 hP 0 rfl rfl 2 (by decide) (hts _ q4_14) (fun _ h9 => h9) rfl dX8_atChains_59 ?_
    refine lv_lload_n hx hb dX8_atChains_62 rfl (lv_at hl 0 rfl) ?_
    refine lv_land hx hb dX8_atChains_63 ?_
    refine lv_lconst (v := 0) hx hb dX8_atChains_64 (by decide) ?_
    refine W.lcmp hx hb dX8_atChains_65 ?_
    refine lv_if_eq (tgt := 71) hx hb dX8_atChains_66 (by decide) (fun c66 => ?_) (fun c66 => ?_)
    · have hr := (if_pos c66).symm.trans hr
      refine lv_lconst (v := 0) hx hb dX8_atChains_71 (by decide) ?_
      refine lv_lstore (lv' := [(4, .long 0), (2, .long (shlL 1 p1)), (0, .ref (ad 0)), (1, .int p1)]) hx hb dX8_atChains_72 hl (by decide) rfl (fun ls hl => ?_)
      refine lv_lconst (v := 0) hx hb dX8_atChains_74 (by decide) ?_
      refine lv_lstore (lv' := [(6, .long 0), (4, .long 0), (2, .long (shlL 1 p1)), (0, .ref (ad 0)), (1, .int p1)]) hx hb dX8_atChains_75 hl (by decide) rfl (fun ls hl => ?_)
      refine lv_iconst (v := 0) hx hb dX8_atChains_77 (by decide) ?_
      refine lv_istore (lv' := [(8, .int 0), (6, .long 0), (4, .long 0), (2, .long (shlL 1 p1)), (0, .ref (ad 0)), (1, .int p1)]) hx hb dX8_atChains_78 hl (by decide) rfl (fun ls hl => ?_)
      refine lp_X8_atChains_80 l D cI cL cZ ad m_w m_h m_c m_s m_le m_un m_he m_ro m_wi m_hi m_hr m_hp m_rn m_rw m_rh m_n m_l m_b m_to m_hs m_ho m_tx m_ik m_wt m_ac m_ap m_pa m_im m_ri ⟨hx, hb, hml, hrt, hlocks, hown, hts, hk⟩ hAd p1 (shlL 1 p1) hg _ _ (fun z1 z2 H locs ls hr hP hS hl => ?_) (fu ((f_X8_points m_w m_h)) (0 : Int32)) 0 0 0 _ _ _ (fuU_0 (by decide)) hr hP hS (lv_sub hl [4, 5, 3, 2, 1, 0] rfl)
      refine lv_lload hx hb dX8_atChains_163 (lv_at hl 3 rfl) ?_
      refine lv_lload_n hx hb dX8_atChains_165 rfl (lv_at hl 2 rfl) ?_
      refine lv_ldc2 hx hb hown (hts _ q4_187) dX8_atChains_166 ?_
      refine lv_lxor hx hb dX8_atChains_169 ?_
      refine lv_land hx hb dX8_atChains_170 ?_
      refine lv_lstore (lv' := [(4, .long (z1 &&& ((shlL 1 p1) ^^^ ((-1))))), (0, .ref (ad 0)), (1, .int p1), (2, .long (shlL 1 p1)), (6, .long z2)]) hx hb dX8_atChains_171 hl (by decide) rfl (fun ls hl => ?_)
      refine lv_lload hx hb dX8_atChains_173 (lv_at hl 0 rfl) ?_
      refine lv_lconst (v := 0) hx hb dX8_atChains_175 (by decide) ?_
      refine W.lcmp hx hb dX8_atChains_176 ?_
      refine lv_if_eq (tgt := 187) hx hb dX8_atChains_177 (by decide) (fun c177 => ?_) (fun c177 => ?_)
      · have hr := (if_pos c177).symm.trans hr
        refine lv_iconst (v := 0) hx hb dX8_atChains_187 (by decide) ?_
        subst hr
        exact ret_z hx hb hrt hlocks bz_0 hP hS dX8_atChains_188
      · have hr := (if_neg c177).symm.trans hr
        refine lv_lload hx hb dX8_atChains_180 (lv_at hl 4 rfl) ?_
        refine lv_lconst (v := 0) hx hb dX8_atChains_182 (by decide) ?_
        refine W.lcmp hx hb dX8_atChains_183 ?_
        refine lv_if_ne (tgt := 189) hx hb dX8_atChains_184 (by decide) (fun c184 => ?_) (fun c184 => ?_)
        · have hr := (if_neg c184).symm.trans hr
          refine lv_aload_n hx hb dX8_atChains_189 rfl (lv_at hl 1 rfl) ?_
          refine lv_lload hx hb dX8_atChains_190 (lv_at hl 0 rfl) ?_
          refine lv_aload_n hx hb dX8_atChains_192 rfl (lv_at hl 1 rfl) ?_
          refine va_get (D := D) (ci := 8) (v := .long m_l) (C := RX8) (T := TX8) (N := 29) hx hb hts u_X8 hown hk.1 hP 0 rfl rfl 1 (by decide) (hts _ q4_13) (fun _ h9 => h9) rfl dX8_atChains_193 ?_
          refine go_l (ru_V (n := 2) ⟨hx, hb, hml, hown, hts⟩ hk hP (c_X8_chain l D cI cL cZ ad m_w m_h m_c m_s m_le m_un m_he m_ro m_wi m_hi m_hr m_hp m_rn m_rw m_rh m_n m_l m_b m_to m_hs m_ho m_tx m_ik m_wt m_ac m_ap m_pa m_im m_ri hAd (z1 &&& ((shlL 1 p1) ^^^ ((-1)))) m_l _ rfl hg) (cwV 2 hts (gV q4_236 q4_238 qs4_9 q1_11 q4_239) rfl rfl rfl hd_X8_chain ⟨Nat.le_of_ble_eq_true rfl, Nat.le_of_ble_eq_true rfl⟩) (va_recv hk.1 hP (ci := 8) (q0 := 0) rfl rfl) rfl hl.1 rfl (Nat.le_of_ble_eq_true rfl) dX8_atChains_196 ⟨Nat.zero_le _, Nat.zero_le _⟩) hS (fun _ h => h) (fun H locs hP hS => ?_)
          have hP : va_P D vwCl (mw ad cI cL cZ m_w m_h m_c m_s m_le m_un m_he m_ro m_wi m_hi m_hr m_hp m_rn m_rw m_rh m_n m_l m_b m_to m_hs m_ho m_tx m_ik m_wt m_ac m_ap m_pa m_im m_ri) H := hP
          refine lv_lstore (lv' := [(8, .long (f_X8_chain (z1 &&& ((shlL 1 p1) ^^^ ((-1)))) m_l m_w m_h m_ap)), (4, .long (z1 &&& ((shlL 1 p1) ^^^ ((-1))))), (0, .ref (ad 0)), (1, .int p1), (2, .long (shlL 1 p1)), (6, .long z2)]) hx hb dX8_atChains_199 hl (by decide) rfl (fun ls hl => ?_)
          refine lv_lload hx hb dX8_atChains_201 (lv_at hl 0 rfl) ?_
          refine lv_lload hx hb dX8_atChains_203 (lv_at hl 5 rfl) ?_
          refine lv_land hx hb dX8_atChains_205 ?_
          refine lv_lconst (v := 0) hx hb dX8_atChains_206 (by decide) ?_
          refine W.lcmp hx hb dX8_atChains_207 ?_
          refine lv_if_eq (tgt := 233) hx hb dX8_atChains_208 (by decide) (fun c208 => ?_) (fun c208 => ?_)
          · have hr := (if_pos c208).symm.trans hr
            refine lv_iconst (v := 0) hx hb dX8_atChains_233 (by decide) ?_
            refine lv_istore (lv' := [(10, .int 0), (8, .long (f_X8_chain (z1 &&& ((shlL 1 p1) ^^^ ((-1)))) m_l m_w m_h m_ap)), (4, .long (z1 &&& ((shlL 1 p1) ^^^ ((-1))))), (0, .ref (ad 0)), (1, .int p1), (2, .long (shlL 1 p1)), (6, .long z2)]) hx hb dX8_atChains_234 hl (by decide) rfl (fun ls hl => ?_)
            refine lv_aload_n hx hb dX8_atChains_236 rfl (lv_at hl 3 rfl) ?_
            refine lv_iconst (v := 2) hx hb dX8_atChains_237 (by decide) ?_
            refine lv_iload_n hx hb dX8_atChains_238 rfl (lv_at hl 4 rfl) ?_
            refine lv_iload hx hb dX8_atChains_239 (lv_at hl 0 rfl) ?_
            refine lv_if_eq (tgt := 248) hx hb dX8_atChains_241 (by decide) (fun c241 => ?_) (fun c241 => ?_)
            · refine lv_iconst (v := 0) hx hb dX8_atChains_248 (by decide) ?_
              refine lv_lload_n hx hb dX8_atChains_249 rfl (lv_at hl 5 rfl) ?_
              obtain ⟨u3, hu3⟩ : ∃ z, f_X8_finds 2 p1 0 (shlL 1 p1) = z := ⟨_, rfl⟩
              have hr := (bd_eq hu3).symm.trans hr
              refine go_z (ru_V (n := 4) ⟨hx, hb, hml, hown, hts⟩ hk hP (c_X8_finds l D cI cL cZ ad m_w m_h m_c m_s m_le m_un m_he m_ro m_wi m_hi m_hr m_hp m_rn m_rw m_rh m_n m_l m_b m_to m_hs m_ho m_tx m_ik m_wt m_ac m_ap m_pa m_im m_ri hAd 2 p1 0 (shlL 1 p1) _ hu3) (cwV 4 hts (gV q4_224 q4_226 qs4_6 q1_11 q4_227) rfl rfl rfl hd_X8_finds ⟨Nat.le_of_ble_eq_true rfl, Nat.le_of_ble_eq_true rfl⟩) (va_recv hk.1 hP (ci := 8) (q0 := 0) rfl rfl) rfl hl.1 rfl (Nat.le_of_ble_eq_true rfl) dX8_atChains_250 ⟨Nat.zero_le _, Nat.zero_le _⟩) hS (fun _ h => h) (fun H locs hz250 hP hS => ?_)
              have hP : va_P D vwCl (mw ad cI cL cZ m_w m_h m_c m_s m_le m_un m_he m_ro m_wi u3.2.1 u3.2.2.1 u3.2.2.2.1 m_rn m_rw m_rh m_n m_l m_b m_to u3.2.2.2.2 m_ho m_tx m_ik m_wt m_ac m_ap m_pa m_im m_ri) H := hP
              subst hr
              exact ret_z hx hb hrt hlocks (by first | assumption | exact bz_ok (by assumption)) hP hS dX8_atChains_253
            · exact absurd (by decide) c241
          · have hr := (if_neg c208).symm.trans hr
            refine lv_lload hx hb dX8_atChains_211 (lv_at hl 0 rfl) ?_
            refine lv_aload_n hx hb dX8_atChains_213 rfl (lv_at hl 2 rfl) ?_
            refine va_get (D := D) (ci := 8) (v := .long m_l) (C := RX8) (T := TX8) (N := 29) hx hb hts u_X8 hown hk.1 hP 0 rfl rfl 1 (by decide) (hts _ q4_13) (fun _ h9 => h9) rfl dX8_atChains_214 ?_
            refine W.lcmp hx hb dX8_atChains_217 ?_
            refine lv_if_ne (tgt := 229) hx hb dX8_atChains_218 (by decide) (fun c218 => ?_) (fun c218 => ?_)
            · have hr := (if_neg c218).symm.trans hr
              refine lv_iconst (v := 1) hx hb dX8_atChains_229 (by decide) ?_
              refine lv_goto (tgt := 234) hx hb dX8_atChains_230 (by decide) ?_
              refine lv_istore (lv' := [(10, .int 1), (8, .long (f_X8_chain (z1 &&& ((shlL 1 p1) ^^^ ((-1)))) m_l m_w m_h m_ap)), (4, .long (z1 &&& ((shlL 1 p1) ^^^ ((-1))))), (0, .ref (ad 0)), (1, .int p1), (2, .long (shlL 1 p1)), (6, .long z2)]) hx hb dX8_atChains_234 hl (by decide) rfl (fun ls hl => ?_)
              refine lv_aload_n hx hb dX8_atChains_236 rfl (lv_at hl 3 rfl) ?_
              refine lv_iconst (v := 2) hx hb dX8_atChains_237 (by decide) ?_
              refine lv_iload_n hx hb dX8_atChains_238 rfl (lv_at hl 4 rfl) ?_
              refine lv_iload hx hb dX8_atChains_239 (lv_at hl 0 rfl) ?_
              refine lv_if_eq (tgt := 248) hx hb dX8_atChains_241 (by decide) (fun c241 => ?_) (fun c241 => ?_)
              · exact absurd c241 (by decide)
              · refine lv_iconst (v := 1) hx hb dX8_atChains_244 (by decide) ?_
                refine lv_goto (tgt := 249) hx hb dX8_atChains_245 (by decide) ?_
                refine lv_lload_n hx hb dX8_atChains_249 rfl (lv_at hl 5 rfl) ?_
                obtain ⟨u4, hu4⟩ : ∃ z, f_X8_finds 2 p1 1 (shlL 1 p1) = z := ⟨_, rfl⟩
                have hr := (bd_eq hu4).symm.trans hr
                refine go_z (ru_V (n := 4) ⟨hx, hb, hml, hown, hts⟩ hk hP (c_X8_finds l D cI cL cZ ad m_w m_h m_c m_s m_le m_un m_he m_ro m_wi m_hi m_hr m_hp m_rn m_rw m_rh m_n m_l m_b m_to m_hs m_ho m_tx m_ik m_wt m_ac m_ap m_pa m_im m_ri hAd 2 p1 1 (shlL 1 p1) _ hu4) (cwV 4 hts (gV q4_224 q4_226 qs4_6 q1_11 q4_227) rfl rfl rfl hd_X8_finds ⟨Nat.le_of_ble_eq_true rfl, Nat.le_of_ble_eq_true rfl⟩) (va_recv hk.1 hP (ci := 8) (q0 := 0) rfl rfl) rfl hl.1 rfl (Nat.le_of_ble_eq_true rfl) dX8_atChains_250 ⟨Nat.zero_le _, Nat.zero_le _⟩) hS (fun _ h => h) (fun H locs hz250 hP hS => ?_)
                have hP : va_P D vwCl (mw ad cI cL cZ m_w m_h m_c m_s m_le m_un m_he m_ro m_wi u4.2.1 u4.2.2.1 u4.2.2.2.1 m_rn m_rw m_rh m_n m_l m_b m_to u4.2.2.2.2 m_ho m_tx m_ik m_wt m_ac m_ap m_pa m_im m_ri) H := hP
                subst hr
                exact ret_z hx hb hrt hlocks (by first | assumption | exact bz_ok (by assumption)) hP hS dX8_atChains_253
            · have hr := (if_pos c218).symm.trans hr
              refine lv_aload_n hx hb dX8_atChains_221 rfl (lv_at hl 2 rfl) ?_
              refine lv_lload_n hx hb dX8_atChains_222 rfl (lv_at hl 4 rfl) ?_
              refine go_z (ru_V (n := 1) ⟨hx, hb, hml, hown, hts⟩ hk hP (c_X8_isAmiss l D cI cL cZ ad m_w m_h m_c m_s m_le m_un m_he m_ro m_wi m_hi m_hr m_hp m_rn m_rw m_rh m_n m_l m_b m_to m_hs m_ho m_tx m_ik m_wt m_ac m_ap m_pa m_im m_ri hAd (shlL 1 p1) _ rfl hg) (cwV 1 hts (gV q5_4 q5_6 qs4_11 q1_11 q5_7) rfl rfl rfl hd_X8_isAmiss ⟨Nat.le_of_ble_eq_true rfl, Nat.le_of_ble_eq_true rfl⟩) (va_recv hk.1 hP (ci := 8) (q0 := 0) rfl rfl) rfl hl.1 rfl (Nat.le_of_ble_eq_true rfl) dX8_atChains_223 ⟨Nat.zero_le _, Nat.zero_le _⟩) hS (fun _ h => h) (fun H locs hz223 hP hS => ?_)
              have hP : va_P D vwCl (mw ad cI cL cZ m_w m_h m_c m_s m_le m_un m_he m_ro m_wi m_hi m_hr m_hp m_rn m_rw m_rh m_n m_l m_b m_to m_hs m_ho m_tx m_ik m_wt m_ac m_ap m_pa m_im m_ri) H := hP
              refine lv_if_eq (tgt := 233) hx hb dX8_atChains_226 (by decide) (fun c226 => ?_) (fun c226 => ?_)
              · have hr := (if_pos c226).symm.trans hr
                refine lv_iconst (v := 0) hx hb dX8_atChains_233 (by decide) ?_
                refine lv_istore (lv' := [(10, .int 0), (8, .long (f_X8_chain (z1 &&& ((shlL 1 p1) ^^^ ((-1)))) m_l m_w m_h m_ap)), (4, .long (z1 &&& ((shlL 1 p1) ^^^ ((-1))))), (0, .ref (ad 0)), (1, .int p1), (2, .long (shlL 1 p1)), (6, .long z2)]) hx hb dX8_atChains_234 hl (by decide) rfl (fun ls hl => ?_)
                refine lv_aload_n hx hb dX8_atChains_236 rfl (lv_at hl 3 rfl) ?_
                refine lv_iconst (v := 2) hx hb dX8_atChains_237 (by decide) ?_
                refine lv_iload_n hx hb dX8_atChains_238 rfl (lv_at hl 4 rfl) ?_
                refine lv_iload hx hb dX8_atChains_239 (lv_at hl 0 rfl) ?_
                refine lv_if_eq (tgt := 248) hx hb dX8_atChains_241 (by decide) (fun c241 => ?_) (fun c241 => ?_)
                · refine lv_iconst (v := 0) hx hb dX8_atChains_248 (by decide) ?_
                  refine lv_lload_n hx hb dX8_atChains_249 rfl (lv_at hl 5 rfl) ?_
                  obtain ⟨u5, hu5⟩ : ∃ z, f_X8_finds 2 p1 0 (shlL 1 p1) = z := ⟨_, rfl⟩
                  have hr := (bd_eq hu5).symm.trans hr
                  refine go_z (ru_V (n := 4) ⟨hx, hb, hml, hown, hts⟩ hk hP (c_X8_finds l D cI cL cZ ad m_w m_h m_c m_s m_le m_un m_he m_ro m_wi m_hi m_hr m_hp m_rn m_rw m_rh m_n m_l m_b m_to m_hs m_ho m_tx m_ik m_wt m_ac m_ap m_pa m_im m_ri hAd 2 p1 0 (shlL 1 p1) _ hu5) (cwV 4 hts (gV q4_224 q4_226 qs4_6 q1_11 q4_227) rfl rfl rfl hd_X8_finds ⟨Nat.le_of_ble_eq_true rfl, Nat.le_of_ble_eq_true rfl⟩) (va_recv hk.1 hP (ci := 8) (q0 := 0) rfl rfl) rfl hl.1 rfl (Nat.le_of_ble_eq_true rfl) dX8_atChains_250 ⟨Nat.zero_le _, Nat.zero_le _⟩) hS (fun _ h => h) (fun H locs hz250 hP hS => ?_)
                  have hP : va_P D vwCl (mw ad cI cL cZ m_w m_h m_c m_s m_le m_un m_he m_ro m_wi u5.2.1 u5.2.2.1 u5.2.2.2.1 m_rn m_rw m_rh m_n m_l m_b m_to u5.2.2.2.2 m_ho m_tx m_ik m_wt m_ac m_ap m_pa m_im m_ri) H := hP
                  subst hr
                  exact ret_z hx hb hrt hlocks (by first | assumption | exact bz_ok (by assumption)) hP hS dX8_atChains_253
                · exact absurd (by decide) c241
              · have hr := (if_neg c226).symm.trans hr
                refine lv_iconst (v := 1) hx hb dX8_atChains_229 (by decide) ?_
                refine lv_goto (tgt := 234) hx hb dX8_atChains_230 (by decide) ?_
                refine lv_istore (lv' := [(10, .int 1), (8, .long (f_X8_chain (z1 &&& ((shlL 1 p1) ^^^ ((-1)))) m_l m_w m_h m_ap)), (4, .long (z1 &&& ((shlL 1 p1) ^^^ ((-1))))), (0, .ref (ad 0)), (1, .int p1), (2, .long (shlL 1 p1)), (6, .long z2)]) hx hb dX8_atChains_234 hl (by decide) rfl (fun ls hl => ?_)
                refine lv_aload_n hx hb dX8_atChains_236 rfl (lv_at hl 3 rfl) ?_
                refine lv_iconst (v := 2) hx hb dX8_atChains_237 (by decide) ?_
                refine lv_iload_n hx hb dX8_atChains_238 rfl (lv_at hl 4 rfl) ?_
                refine lv_iload hx hb dX8_atChains_239 (lv_at hl 0 rfl) ?_
                refine lv_if_eq (tgt := 248) hx hb dX8_atChains_241 (by decide) (fun c241 => ?_) (fun c241 => ?_)
                · exact absurd c241 (by decide)
                · refine lv_iconst (v := 1) hx hb dX8_atChains_244 (by decide) ?_
                  refine lv_goto (tgt := 249) hx hb dX8_atChains_245 (by decide) ?_
                  refine lv_lload_n hx hb dX8_atChains_249 rfl (lv_at hl 5 rfl) ?_
                  obtain ⟨u6, hu6⟩ : ∃ z, f_X8_finds 2 p1 1 (shlL 1 p1) = z := ⟨_, rfl⟩
                  have hr := (bd_eq hu6).symm.trans hr
                  refine go_z (ru_V (n := 4) ⟨hx, hb, hml, hown, hts⟩ hk hP (c_X8_finds l D cI cL cZ ad m_w m_h m_c m_s m_le m_un m_he m_ro m_wi m_hi m_hr m_hp m_rn m_rw m_rh m_n m_l m_b m_to m_hs m_ho m_tx m_ik m_wt m_ac m_ap m_pa m_im m_ri hAd 2 p1 1 (shlL 1 p1) _ hu6) (cwV 4 hts (gV q4_224 q4_226 qs4_6 q1_11 q4_227) rfl rfl rfl hd_X8_finds ⟨Nat.le_of_ble_eq_true rfl, Nat.le_of_ble_eq_true rfl⟩) (va_recv hk.1 hP (ci := 8) (q0 := 0) rfl rfl) rfl hl.1 rfl (Nat.le_of_ble_eq_true rfl) dX8_atChains_250 ⟨Nat.zero_le _, Nat.zero_le _⟩) hS (fun _ h => h) (fun H locs hz250 hP hS => ?_)
                  have hP : va_P D vwCl (mw ad cI cL cZ m_w m_h m_c m_s m_le m_un m_he m_ro m_wi u6.2.1 u6.2.2.1 u6.2.2.2.1 m_rn m_rw m_rh m_n m_l m_b m_to u6.2.2.2.2 m_ho m_tx m_ik m_wt m_ac m_ap m_pa m_im m_ri) H := hP
                  subst hr
                  exact ret_z hx hb hrt hlocks (by first | assumption | exact bz_ok (by assumption)) hP hS dX8_atChains_253
        · have hr := (if_pos c184).symm.trans hr
          refine lv_iconst (v := 0) hx hb dX8_atChains_187 (by decide) ?_
          subst hr
          exact ret_z hx hb hrt hlocks bz_0 hP hS dX8_atChains_188
    · have hr := (if_neg c66).symm.trans hr
      refine lv_iconst (v := 0) hx hb dX8_atChains_69 (by decide) ?_
      subst hr
      exact ret_z hx hb hrt hlocks bz_0 hP hS dX8_atChains_70
  · have hr := (if_neg c12).symm.trans hr
    refine lv_aload_n hx hb dX8_atChains_15 rfl (lv_at hl 1 rfl) ?_
    refine lv_lload_n hx hb dX8_atChains_16 rfl (lv_at hl 0 rfl) ?_
    refine lv_aload_n hx hb dX8_atChains_17 rfl (lv_at hl 1 rfl) ?_
    refine va_get (D := D) (ci := 8) (v := .long m_l) (C := RX8) (T := TX8) (N := 29) hx hb hts u_X8 hown hk.1 hP 0 rfl rfl 1 (by decide) (hts _ q4_13) (fun _ h9 => h9) rfl dX8_atChains_18 ?_
    refine go_l (ru_V (n := 2) ⟨hx, hb, hml, hown, hts⟩ hk hP (c_X8_chain l D cI cL cZ ad m_w m_h m_c m_s m_le m_un m_he m_ro m_wi m_hi m_hr m_hp m_rn m_rw m_rh m_n m_l m_b m_to m_hs m_ho m_tx m_ik m_wt m_ac m_ap m_pa m_im m_ri hAd (shlL 1 p1) m_l _ rfl hg) (cwV 2 hts (gV q4_236 q4_238 qs4_9 q1_11 q4_239) rfl rfl rfl hd_X8_chain ⟨Nat.le_of_ble_eq_true rfl, Nat.le_of_ble_eq_true rfl⟩) (va_recv hk.1 hP (ci := 8) (q0 := 0) rfl rfl) rfl hl.1 rfl (Nat.le_of_ble_eq_true rfl) dX8_atChains_21 ⟨Nat.zero_le _, Nat.zero_le _⟩) hS (fun _ h => h) (fun H locs hP hS => ?_)
    have hP : va_P D vwCl (mw ad cI cL cZ m_w m_h m_c m_s m_le m_un m_he m_ro m_wi m_hi m_hr m_hp m_rn m_rw m_rh m_n m_l m_b m_to m_hs m_ho m_tx m_ik m_wt m_ac m_ap m_pa m_im m_ri) H := hP
    refine lv_lstore (lv' := [(4, .long (f_X8_chain (shlL 1 p1) m_l m_w m_h m_ap)), (2, .long (shlL 1 p1)), (0, .ref (ad 0)), (1, .int p1)]) hx hb dX8_atChains_24 hl (by decide) rfl (fun ls hl => ?_)
    refine lv_aload_n hx hb dX8_atChains_26 rfl (lv_at hl 2 rfl) ?_
    refine lv_iconst (v := 2) hx hb dX8_atChains_27 (by decide) ?_
    refine lv_iload_n hx hb dX8_atChains_28 rfl (lv_at hl 3 rfl) ?_
    refine lv_lload hx hb dX8_atChains_29 (lv_at hl 0 rfl) ?_
    refine lv_aload_n hx hb dX8_atChains_31 rfl (lv_at hl 2 rfl) ?_
    refine va_get (D := D) (ci := 8) (v := .long m_l) (C := RX8) (T := TX8) (N := 29) hx hb hts u_X8 hown hk.1 hP 0 rfl rfl 1 (by decide) (hts _ q4_13) (fun _ h9 => h9) rfl dX8_atChains_32 ?_
    refine W.lcmp hx hb dX8_atChains_35 ?_
    refine lv_if_eq (tgt := 52) hx hb dX8_atChains_36 (by decide) (fun c36 => ?_) (fun c36 => ?_)
    · have hr := (if_pos c36).symm.trans hr
      refine lv_iconst (v := 0) hx hb dX8_atChains_52 (by decide) ?_
      refine lv_lconst (v := 0) hx hb dX8_atChains_53 (by decide) ?_
      obtain ⟨u7, hu7⟩ : ∃ z, f_X8_finds 2 p1 0 0 = z := ⟨_, rfl⟩
      have hr := (bd_eq hu7).symm.trans hr
      refine go_z (ru_V (n := 4) ⟨hx, hb, hml, hown, hts⟩ hk hP (c_X8_finds l D cI cL cZ ad m_w m_h m_c m_s m_le m_un m_he m_ro m_wi m_hi m_hr m_hp m_rn m_rw m_rh m_n m_l m_b m_to m_hs m_ho m_tx m_ik m_wt m_ac m_ap m_pa m_im m_ri hAd 2 p1 0 0 _ hu7) (cwV 4 hts (gV q4_224 q4_226 qs4_6 q1_11 q4_227) rfl rfl rfl hd_X8_finds ⟨Nat.le_of_ble_eq_true rfl, Nat.le_of_ble_eq_true rfl⟩) (va_recv hk.1 hP (ci := 8) (q0 := 0) rfl rfl) rfl hl.1 rfl (Nat.le_of_ble_eq_true rfl) dX8_atChains_54 ⟨Nat.zero_le _, Nat.zero_le _⟩) hS (fun _ h => h) (fun H locs hz54 hP hS => ?_)
      have hP : va_P D vwCl (mw ad cI cL cZ m_w m_h m_c m_s m_le m_un m_he m_ro m_wi u7.2.1 u7.2.2.1 u7.2.2.2.1 m_rn m_rw m_rh m_n m_l m_b m_to u7.2.2.2.2 m_ho m_tx m_ik m_wt m_ac m_ap m_pa m_im m_ri) H := hP
      subst hr
      exact ret_z hx hb hrt hlocks (by first | assumption | exact bz_ok (by assumption)) hP hS dX8_atChains_57
    · have hr := (if_neg c36).symm.trans hr
      refine lv_aload_n hx hb dX8_atChains_39 rfl (lv_at hl 2 rfl) ?_
      refine lv_lload hx hb dX8_atChains_40 (lv_at hl 0 rfl) ?_
      refine go_z (ru_V (n := 1) ⟨hx, hb, hml, hown, hts⟩ hk hP (c_X8_isClosed l D cI cL cZ ad m_w m_h m_c m_s m_le m_un m_he m_ro m_wi m_hi m_hr m_hp m_rn m_rw m_rh m_n m_l m_b m_to m_hs m_ho m_tx m_ik m_wt m_ac m_ap m_pa m_im m_ri hAd (f_X8_chain (shlL 1 p1) m_l m_w m_h m_ap) _ rfl hg) (cwV 1 hts (gV q5_0 q5_2 qs4_10 q1_11 q5_3) rfl rfl rfl hd_X8_isClosed ⟨Nat.le_of_ble_eq_true rfl, Nat.le_of_ble_eq_true rfl⟩) (va_recv hk.1 hP (ci := 8) (q0 := 0) rfl rfl) rfl hl.1 rfl (Nat.le_of_ble_eq_true rfl) dX8_atChains_42 ⟨Nat.zero_le _, Nat.zero_le _⟩) hS (fun _ h => h) (fun H locs hz42 hP hS => ?_)
      have hP : va_P D vwCl (mw ad cI cL cZ m_w m_h m_c m_s m_le m_un m_he m_ro m_wi m_hi m_hr m_hp m_rn m_rw m_rh m_n m_l m_b m_to m_hs m_ho m_tx m_ik m_wt m_ac m_ap m_pa m_im m_ri) H := hP
      refine lv_if_eq (tgt := 52) hx hb dX8_atChains_45 (by decide) (fun c45 => ?_) (fun c45 => ?_)
      · have hr := (if_pos c45).symm.trans hr
        refine lv_iconst (v := 0) hx hb dX8_atChains_52 (by decide) ?_
        refine lv_lconst (v := 0) hx hb dX8_atChains_53 (by decide) ?_
        obtain ⟨u8, hu8⟩ : ∃ z, f_X8_finds 2 p1 0 0 = z := ⟨_, rfl⟩
        have hr := (bd_eq hu8).symm.trans hr
        refine go_z (ru_V (n := 4) ⟨hx, hb, hml, hown, hts⟩ hk hP (c_X8_finds l D cI cL cZ ad m_w m_h m_c m_s m_le m_un m_he m_ro m_wi m_hi m_hr m_hp m_rn m_rw m_rh m_n m_l m_b m_to m_hs m_ho m_tx m_ik m_wt m_ac m_ap m_pa m_im m_ri hAd 2 p1 0 0 _ hu8) (cwV 4 hts (gV q4_224 q4_226 qs4_6 q1_11 q4_227) rfl rfl rfl hd_X8_finds ⟨Nat.le_of_ble_eq_true rfl, Nat.le_of_ble_eq_true rfl⟩) (va_recv hk.1 hP (ci := 8) (q0 := 0) rfl rfl) rfl hl.1 rfl (Nat.le_of_ble_eq_true rfl) dX8_atChains_54 ⟨Nat.zero_le _, Nat.zero_le _⟩) hS (fun _ h => h) (fun H locs hz54 hP hS => ?_)
        have hP : va_P D vwCl (mw ad cI cL cZ m_w m_h m_c m_s m_le m_un m_he m_ro m_wi u8.2.1 u8.2.2.1 u8.2.2.2.1 m_rn m_rw m_rh m_n m_l m_b m_to u8.2.2.2.2 m_ho m_tx m_ik m_wt m_ac m_ap m_pa m_im m_ri) H := hP
        subst hr
        exact ret_z hx hb hrt hlocks (by first | assumption | exact bz_ok (by assumption)) hP hS dX8_atChains_57
      · have hr := (if_neg c45).symm.trans hr
        refine lv_iconst (v := 3) hx hb dX8_atChains_48 (by decide) ?_
        refine lv_goto (tgt := 53) hx hb dX8_atChains_49 (by decide) ?_
        refine lv_lconst (v := 0) hx hb dX8_atChains_53 (by decide) ?_
        obtain ⟨u9, hu9⟩ : ∃ z, f_X8_finds 2 p1 3 0 = z := ⟨_, rfl⟩
        have hr := (bd_eq hu9).symm.trans hr
        refine go_z (ru_V (n := 4) ⟨hx, hb, hml, hown, hts⟩ hk hP (c_X8_finds l D cI cL cZ ad m_w m_h m_c m_s m_le m_un m_he m_ro m_wi m_hi m_hr m_hp m_rn m_rw m_rh m_n m_l m_b m_to m_hs m_ho m_tx m_ik m_wt m_ac m_ap m_pa m_im m_ri hAd 2 p1 3 0 _ hu9) (cwV 4 hts (gV q4_224 q4_226 qs4_6 q1_11 q4_227) rfl rfl rfl hd_X8_finds ⟨Nat.le_of_ble_eq_true rfl, Nat.le_of_ble_eq_true rfl⟩) (va_recv hk.1 hP (ci := 8) (q0 := 0) rfl rfl) rfl hl.1 rfl (Nat.le_of_ble_eq_true rfl) dX8_atChains_54 ⟨Nat.zero_le _, Nat.zero_le _⟩) hS (fun _ h => h) (fun H locs hz54 hP hS => ?_)
        have hP : va_P D vwCl (mw ad cI cL cZ m_w m_h m_c m_s m_le m_un m_he m_ro m_wi u9.2.1 u9.2.2.1 u9.2.2.2.1 m_rn m_rw m_rh m_n m_l m_b m_to u9.2.2.2.2 m_ho m_tx m_ik m_wt m_ac m_ap m_pa m_im m_ri) H := hP
        subst hr
        exact ret_z hx hb hrt hlocks (by first | assumption | exact bz_ok (by assumption)) hP hS dX8_atChains_57
theorem hd_X8_tells : yX8_tells.cls = RX8 ∧ yX8_tells.cls ≠ "java/lang/invoke/MethodHandle" ∧ yX8_tells.cls ≠ "java/lang/invoke/VarHandle" ∧ (parseMethodDescriptor yX8_tells.desc).map (fun d => d.parameters.length) = some 1 := by decide +kernel
def F_X8_tells_27 (y1 : Int32) (m_s : Int32) (m_l : Int64) (m_b : Int64) (m_ho : Nat → Int32) {β : Type} (k0 : Int64 → β) : Nat → Int64 → Int32 → β
  | 0, x2, x6 => k0 x2
  | n + 1, x2, x6 => (if m_s ≤ x6 then k0 x2 else (if x6 = y1 then F_X8_tells_27 y1 m_s m_l m_b m_ho k0 n x2 (x6 + 1) else (if (f_X8_has (m_l ||| m_b) x6) = 0 then F_X8_tells_27 y1 m_s m_l m_b m_ho k0 n x2 (x6 + 1) else (bd (x2 ||| ((f_X8_goes x2 (m_ho (2 * x6).toNatClampNeg) (m_ho ((2 * x6) + 1).toNatClampNeg) (f_X8_has m_l x6)) ||| (f_X8_goes x2 (m_ho ((2 * x6) + 1).toNatClampNeg) (m_ho (2 * x6).toNatClampNeg) (f_X8_has m_l x6)))) (fun v1 => F_X8_tells_27 y1 m_s m_l m_b m_ho k0 n v1 (x6 + 1))))))
def F_X8_tells_14 (y1 : Int32) (m_s : Int32) (m_l : Int64) (m_b : Int64) (m_ho : Nat → Int32) {β : Type} (k0 : Int64 → β) : Nat → Int64 → Int64 → β
  | 0, x2, x4 => k0 x2
  | n + 1, x2, x4 => (if (lg_cmp x4 x2) = 0 then k0 x2 else F_X8_tells_27 y1 m_s m_l m_b m_ho (fun z2 => F_X8_tells_14 y1 m_s m_l m_b m_ho k0 n z2 x2) (fu m_s (0 : Int32)) x2 0)
def f_X8_tells (p1 : Int32) (m_s : Int32) (m_l : Int64) (m_b : Int64) (m_ho : Nat → Int32) : Int32 := F_X8_tells_14 p1 m_s m_l m_b m_ho (fun z3 => (if (f_X8_has z3 (m_ho ((2 * p1) + 1).toNatClampNeg)) = 0 then (if (f_X8_has z3 ((m_ho ((2 * p1) + 1).toNatClampNeg) + 17)) = 0 then 0 + 0 else 0 + 2) else (if (f_X8_has z3 ((m_ho ((2 * p1) + 1).toNatClampNeg) + 17)) = 0 then 1 + 0 else 1 + 2))) (18446744073709551617 - (0 : Int64).toBitVec.toNat) (shlL 1 (m_ho (2 * p1).toNatClampNeg)) 0
set_option maxHeartbeats 4000000 in
set_option maxRecDepth 100000 in
theorem lp_X8_tells_27 (l : Launch) (D : va_G) (cI cL cZ : ClassId) (ad : Nat → Nat) (m_w m_h m_c m_s m_le m_un m_he m_ro m_wi m_hi m_hr m_hp m_rn m_rw m_rh : Int32) (m_n m_l m_b m_to m_hs : Int64) (m_ho m_tx m_ik m_wt : Nat → Int32) (m_ac m_ap m_pa m_im m_ri : Nat → Int64) {p : Program} {e : Env} {s : State} {m : MethodId} {args : Array Value} {below : List Frame} {meth : Method} {c : Code} {Q : State → Prop} (C : Cx p s m args meth c cX8_tells 7 (some .int) W0 RX8 D cI cL cZ) (hAd : mInj ad) (y1 : Int32) (y4 : Int64) (hg : mG m_w m_h m_c m_s) {β : Type} (k0 : Int64 → β) (r : β)
    (h0 : ∀ (e2 : Int64) (H : Heap) (locs : List Loc) (ls : Array Slot), y4.toBitVec.toNat ≤ e2.toBitVec.toNat → k0 e2 = r → va_P D vwCl (mw ad cI cL cZ m_w m_h m_c m_s m_le m_un m_he m_ro m_wi m_hi m_hr m_hp m_rn m_rw m_rh m_n m_l m_b m_to m_hs m_ho m_tx m_ik m_wt m_ac m_ap m_pa m_im m_ri) H → va_S (mAd ad) s.heap H locs → lv_has ls 7 [(0, .ref (ad 0)), (1, .int y1), (2, .long e2), (4, .long y4)] → W p l e (rmS 2 48) s m args below meth c H locs 0 0 Q (F0 m 135 ls [])) :
    ∀ (n : Nat) (x2 : Int64) (x6 : Int32) (H : Heap) (locs : List Loc) (ls : Array Slot), fuU n m_s x6 ∧ y4.toBitVec.toNat ≤ x2.toBitVec.toNat → F_X8_tells_27 y1 m_s m_l m_b m_ho k0 n x2 x6 = r → va_P D vwCl (mw ad cI cL cZ m_w m_h m_c m_s m_le m_un m_he m_ro m_wi m_hi m_hr m_hp m_rn m_rw m_rh m_n m_l m_b m_to m_hs m_ho m_tx m_ik m_wt m_ac m_ap m_pa m_im m_ri) H → va_S (mAd ad) s.heap H locs → lv_has ls 7 [(0, .ref (ad 0)), (1, .int y1), (2, .long x2), (4, .long y4), (6, .int x6)] → W p l e (rmS 2 48) s m args below meth c H locs 0 0 Q (F0 m 27 ls []) := by
  obtain ⟨hx, hb, hml, hrt, hlocks, hown, hts, hk⟩ := C
  intro n
  induction n with
  | zero =>
    intro x2 x6 H locs ls hf
    exact absurd hf.1.1 (Nat.lt_irrefl 0)
  | succ n ih =>
    intro x2 x6 H locs ls hf hr hP hS hl
    rw [F_X8_tells_27] at hr
    refine lv_iload hx hb dX8_tells_27 (lv_at hl 4 rfl) ?_
    refine lv_aload_n hx hb dX8_tells_29 rfl (lv_at hl 0 rfl) ?_
    refine va_get (D := D) (ci := 8) (v := .int m_s) (C := RX8) (T := TX8) (N := 29) hx hb hts u_X8 hown hk.1 hP 0 rfl rfl 6 (by decide) (hts _ q4_18) (fun _ h9 => h9) rfl dX8_tells_30 ?_
    refine lv_icmp_ge (tgt := 135) hx hb dX8_tells_33 (by decide) (fun c33 => ?_) (fun c33 => ?_)
    · have hr := (if_pos c33).symm.trans hr
      exact h0 x2 _ _ _ hf.2 hr hP hS (lv_sub hl [0, 1, 2, 3] rfl)
    · have hr := (if_neg c33).symm.trans hr
      refine lv_iload hx hb dX8_tells_36 (lv_at hl 4 rfl) ?_
      refine lv_iload_n hx hb dX8_tells_38 rfl (lv_at hl 1 rfl) ?_
      refine lv_icmp_eq (tgt := 129) hx hb dX8_tells_39 (by decide) (fun c39 => ?_) (fun c39 => ?_)
      · have hr := (if_pos c39).symm.trans hr
        refine lv_iinc (v := x6 + 1) (lv' := [(6, .int (x6 + 1)), (0, .ref (ad 0)), (1, .int y1), (2, .long x2), (4, .long y4)]) hx hb dX8_tells_129 hl (k := 4) rfl rfl (by decide) rfl (fun ls hl => ?_)
        refine lv_goto (tgt := 27) hx hb dX8_tells_132 (by decide) ?_
        exact ih x2 (x6 + 1) _ _ _ (by first | exact ⟨fuU_s hf.1 c33, hf.2⟩ | exact ⟨fuU_s hf.1 c33, Nat.le_trans hf.2 (ev1 ▸ or_le _ _)⟩) hr hP hS (lv_sub hl [1, 2, 3, 4, 0] rfl)
      · have hr := (if_neg c39).symm.trans hr
        refine lv_aload_n hx hb dX8_tells_42 rfl (lv_at hl 0 rfl) ?_
        refine va_get (D := D) (ci := 8) (v := .long m_l) (C := RX8) (T := TX8) (N := 29) hx hb hts u_X8 hown hk.1 hP 0 rfl rfl 1 (by decide) (hts _ q4_13) (fun _ h9 => h9) rfl dX8_tells_43 ?_
        refine lv_aload_n hx hb dX8_tells_46 rfl (lv_at hl 0 rfl) ?_
        refine va_get (D := D) (ci := 8) (v := .long m_b) (C := RX8) (T := TX8) (N := 29) hx hb hts u_X8 hown hk.1 hP 0 rfl rfl 2 (by decide) (hts _ q4_14) (fun _ h9 => h9) rfl dX8_tells_47 ?_
        refine lv_lor hx hb dX8_tells_50 ?_
        refine lv_iload hx hb dX8_tells_51 (lv_at hl 4 rfl) ?_
        refine go_z (ru_S (n := 2) ⟨hx, hb, hml, hown, hts⟩ hk hP (c_X8_has l D cI cL cZ (mAd ad) (mw ad cI cL cZ m_w m_h m_c m_s m_le m_un m_he m_ro m_wi m_hi m_hr m_hp m_rn m_rw m_rh m_n m_l m_b m_to m_hs m_ho m_tx m_ik m_wt m_ac m_ap m_pa m_im m_ri) (m_l ||| m_b) x6 _ rfl) (va_cwS 2 hts (gS q4_153 q4_154 q1_11 q4_155) rfl rfl rfl hd_X8_has ⟨Nat.le_of_ble_eq_true rfl, Nat.le_of_ble_eq_true rfl⟩) rfl hl.1 rfl (Nat.le_of_ble_eq_true rfl) dX8_tells_53 ⟨Nat.zero_le _, Nat.zero_le _⟩) hS (fun _ h => h) (fun H locs hz53 hP hS => ?_)
        have hP : va_P D vwCl (mw ad cI cL cZ m_w m_h m_c m_s m_le m_un m_he m_ro m_wi m_hi m_hr m_hp m_rn m_rw m_rh m_n m_l m_b m_to m_hs m_ho m_tx m_ik m_wt m_ac m_ap m_pa m_im m_ri) H := hP
        refine lv_if_eq (tgt := 129) hx hb dX8_tells_56 (by decide) (fun c56 => ?_) (fun c56 => ?_)
        · have hr := (if_pos c56).symm.trans hr
          refine lv_iinc (v := x6 + 1) (lv' := [(6, .int (x6 + 1)), (0, .ref (ad 0)), (1, .int y1), (2, .long x2), (4, .long y4)]) hx hb dX8_tells_129 hl (k := 4) rfl rfl (by decide) rfl (fun ls hl => ?_)
          refine lv_goto (tgt := 27) hx hb dX8_tells_132 (by decide) ?_
          exact ih x2 (x6 + 1) _ _ _ (by first | exact ⟨fuU_s hf.1 c33, hf.2⟩ | exact ⟨fuU_s hf.1 c33, Nat.le_trans hf.2 (ev1 ▸ or_le _ _)⟩) hr hP hS (lv_sub hl [1, 2, 3, 4, 0] rfl)
        · have hr := (if_neg c56).symm.trans hr
          refine lv_lload_n hx hb dX8_tells_59 rfl (lv_at hl 2 rfl) ?_
          refine lv_lload_n hx hb dX8_tells_60 rfl (lv_at hl 2 rfl) ?_
          refine lv_aload_n hx hb dX8_tells_61 rfl (lv_at hl 0 rfl) ?_
          refine va_get (D := D) (ci := 8) (v := .ref (ad 3)) (C := RX8) (T := TX8) (N := 29) hx hb hts u_X8 hown hk.1 hP 0 rfl rfl 9 (by decide) (hts _ q4_21) (fun _ h9 => h9) rfl dX8_tells_62 ?_
          refine lv_iconst (v := 2) hx hb dX8_tells_65 (by decide) ?_
          refine lv_iload hx hb dX8_tells_66 (lv_at hl 4 rfl) ?_
          refine lv_imul hx hb dX8_tells_68 ?_
          refine va_iald hx hb hk.1 hP 3 0 (rfl) rfl (vin_2 (ms_lt hf.1.2.2 c33 (mG_s hg))) dX8_tells_69 ?_
          refine lv_aload_n hx hb dX8_tells_70 rfl (lv_at hl 0 rfl) ?_
          refine va_get (D := D) (ci := 8) (v := .ref (ad 3)) (C := RX8) (T := TX8) (N := 29) hx hb hts u_X8 hown hk.1 hP 0 rfl rfl 9 (by decide) (hts _ q4_21) (fun _ h9 => h9) rfl dX8_tells_71 ?_
          refine lv_iconst (v := 2) hx hb dX8_tells_74 (by decide) ?_
          refine lv_iload hx hb dX8_tells_75 (lv_at hl 4 rfl) ?_
          refine lv_imul hx hb dX8_tells_77 ?_
          refine lv_iconst (v := 1) hx hb dX8_tells_78 (by decide) ?_
          refine lv_iadd hx hb dX8_tells_79 ?_
          refine va_iald hx hb hk.1 hP 3 0 (rfl) rfl (vin_21 (ms_lt hf.1.2.2 c33 (mG_s hg))) dX8_tells_80 ?_
          refine lv_aload_n hx hb dX8_tells_81 rfl (lv_at hl 0 rfl) ?_
          refine va_get (D := D) (ci := 8) (v := .long m_l) (C := RX8) (T := TX8) (N := 29) hx hb hts u_X8 hown hk.1 hP 0 rfl rfl 1 (by decide) (hts _ q4_13) (fun _ h9 => h9) rfl dX8_tells_82 ?_
          refine lv_iload hx hb dX8_tells_85 (lv_at hl 4 rfl) ?_
          refine go_z (ru_S (n := 2) ⟨hx, hb, hml, hown, hts⟩ hk hP (c_X8_has l D cI cL cZ (mAd ad) (mw ad cI cL cZ m_w m_h m_c m_s m_le m_un m_he m_ro m_wi m_hi m_hr m_hp m_rn m_rw m_rh m_n m_l m_b m_to m_hs m_ho m_tx m_ik m_wt m_ac m_ap m_pa m_im m_ri) m_l x6 _ rfl) (va_cwS 2 hts (gS q4_153 q4_154 q1_11 q4_155) rfl rfl rfl hd_X8_has ⟨Nat.le_of_ble_eq_true rfl, Nat.le_of_ble_eq_true rfl⟩) rfl hl.1 rfl (Nat.le_of_ble_eq_true rfl) dX8_tells_87 ⟨Nat.zero_le _, Nat.zero_le _⟩) hS (fun _ h => h) (fun H locs hz87 hP hS => ?_)
          have hP : va_P D vwCl (mw ad cI cL cZ m_w m_h m_c m_s m_le m_un m_he m_ro m_wi m_hi m_hr m_hp m_rn m_rw m_rh m_n m_l m_b m_to m_hs m_ho m_tx m_ik m_wt m_ac m_ap m_pa m_im m_ri) H := hP
          refine go_l (ru_S (n := 4) ⟨hx, hb, hml, hown, hts⟩ hk hP (c_X8_goes l D cI cL cZ (mAd ad) (mw ad cI cL cZ m_w m_h m_c m_s m_le m_un m_he m_ro m_wi m_hi m_hr m_hp m_rn m_rw m_rh m_n m_l m_b m_to m_hs m_ho m_tx m_ik m_wt m_ac m_ap m_pa m_im m_ri) x2 (m_ho (2 * x6).toNatClampNeg) (m_ho ((2 * x6) + 1).toNatClampNeg) (f_X8_has m_l x6) _ rfl) (va_cwS 4 hts (gS q5_16 q5_17 q1_11 q5_18) rfl rfl rfl hd_X8_goes ⟨Nat.le_of_ble_eq_true rfl, Nat.le_of_ble_eq_true rfl⟩) rfl hl.1 rfl (Nat.le_of_ble_eq_true rfl) dX8_tells_90 ⟨Nat.zero_le _, Nat.zero_le _⟩) hS (fun _ h => h) (fun H locs hP hS => ?_)
          have hP : va_P D vwCl (mw ad cI cL cZ m_w m_h m_c m_s m_le m_un m_he m_ro m_wi m_hi m_hr m_hp m_rn m_rw m_rh m_n m_l m_b m_to m_hs m_ho m_tx m_ik m_wt m_ac m_ap m_pa m_im m_ri) H := hP
          refine lv_lload_n hx hb dX8_tells_93 rfl (lv_at hl 2 rfl) ?_
          refine lv_aload_n hx hb dX8_tells_94 rfl (lv_at hl 0 rfl) ?_
          refine va_get (D := D) (ci := 8) (v := .ref (ad 3)) (C := RX8) (T := TX8) (N := 29) hx hb hts u_X8 hown hk.1 hP 0 rfl rfl 9 (by decide) (hts _ q4_21) (fun _ h9 => h9) rfl dX8_tells_95 ?_
          refine lv_iconst (v := 2) hx hb dX8_tells_98 (by decide) ?_
          refine lv_iload hx hb dX8_tells_99 (lv_at hl 4 rfl) ?_
          refine lv_imul hx hb dX8_tells_101 ?_
          refine lv_iconst (v := 1) hx hb dX8_tells_102 (by decide) ?_
          refine lv_iadd hx hb dX8_tells_103 ?_
          refine va_iald hx hb hk.1 hP 3 0 (rfl) rfl (vin_21 (ms_lt hf.1.2.2 c33 (mG_s hg))) dX8_tells_104 ?_
          refine lv_aload_n hx hb dX8_tells_105 rfl (lv_at hl 0 rfl) ?_
          refine va_get (D := D) (ci := 8) (v := .ref (ad 3)) (C := RX8) (T := TX8) (N := 29) hx hb hts u_X8 hown hk.1 hP 0 rfl rfl 9 (by decide) (hts _ q4_21) (fun _ h9 => h9) rfl dX8_tells_106 ?_
          refine lv_iconst (v := 2) hx hb dX8_tells_109 (by decide) ?_
          refine lv_iload hx hb dX8_tells_110 (lv_at hl 4 rfl) ?_
          refine lv_imul hx hb dX8_tells_112 ?_
          refine va_iald hx hb hk.1 hP 3 0 (rfl) rfl (vin_2 (ms_lt hf.1.2.2 c33 (mG_s hg))) dX8_tells_113 ?_
          refine lv_aload_n hx hb dX8_tells_114 rfl (lv_at hl 0 rfl) ?_
          refine va_get (D := D) (ci := 8) (v := .long m_l) (C := RX8) (T := TX8) (N := 29) hx hb hts u_X8 hown hk.1 hP 0 rfl rfl 1 (by decide) (hts _ q4_13) (fun _ h9 => h9) rfl dX8_tells_115 ?_
          refine lv_iload hx hb dX8_tells_118 (lv_at hl 4 rfl) ?_
          refine go_z (ru_S (n := 2) ⟨hx, hb, hml, hown, hts⟩ hk hP (c_X8_has l D cI cL cZ (mAd ad) (mw ad cI cL cZ m_w m_h m_c m_s m_le m_un m_he m_ro m_wi m_hi m_hr m_hp m_rn m_rw m_rh m_n m_l m_b m_to m_hs m_ho m_tx m_ik m_wt m_ac m_ap m_pa m_im m_ri) m_l x6 _ rfl) (va_cwS 2 hts (gS q4_153 q4_154 q1_11 q4_155) rfl rfl rfl hd_X8_has ⟨Nat.le_of_ble_eq_true rfl, Nat.le_of_ble_eq_true rfl⟩) rfl hl.1 rfl (Nat.le_of_ble_eq_true rfl) dX8_tells_120 ⟨Nat.zero_le _, Nat.zero_le _⟩) hS (fun _ h => h) (fun H locs hz120 hP hS => ?_)
          have hP : va_P D vwCl (mw ad cI cL cZ m_w m_h m_c m_s m_le m_un m_he m_ro m_wi m_hi m_hr m_hp m_rn m_rw m_rh m_n m_l m_b m_to m_hs m_ho m_tx m_ik m_wt m_ac m_ap m_pa m_im m_ri) H := hP
          refine go_l (ru_S (n := 4) ⟨hx, hb, hml, hown, hts⟩ hk hP (c_X8_goes l D cI cL cZ (mAd ad) (mw ad cI cL cZ m_w m_h m_c m_s m_le m_un m_he m_ro m_wi m_hi m_hr m_hp m_rn m_rw m_rh m_n m_l m_b m_to m_hs m_ho m_tx m_ik m_wt m_ac m_ap m_pa m_im m_ri) x2 (m_ho ((2 * x6) + 1).toNatClampNeg) (m_ho (2 * x6).toNatClampNeg) (f_X8_has m_l x6) _ rfl) (va_cwS 4 hts (gS q5_16 q5_17 q1_11 q5_18) rfl rfl rfl hd_X8_goes ⟨Nat.le_of_ble_eq_true rfl, Nat.le_of_ble_eq_true rfl⟩) rfl hl.1 rfl (Nat.le_of_ble_eq_true rfl) dX8_tells_123 ⟨Nat.zero_le _, Nat.zero_le _⟩) hS (fun _ h => h) (fun H locs hP hS => ?_)
          have hP : va_P D vwCl (mw ad cI cL cZ m_w m_h m_c m_s m_le m_un m_he m_ro m_wi m_hi m_hr m_hp m_rn m_rw m_rh m_n m_l m_b m_to m_hs m_ho m_tx m_ik m_wt m_ac m_ap m_pa m_im m_ri) H := hP
          refine lv_lor hx hb dX8_tells_126 ?_
          refine lv_lor hx hb dX8_tells_127 ?_
          refine lv_topl (fun v1 ev1 => ?_)
          have hr := (bd_eq ev1.symm).symm.trans hr
          refine lv_lstore_n (lv' := [(2, .long v1), (0, .ref (ad 0)), (1, .int y1), (4, .long y4), (6, .int x6)]) hx hb dX8_tells_128 rfl hl (by decide) rfl (fun ls hl => ?_)
          refine lv_iinc (v := x6 + 1) (lv' := [(6, .int (x6 + 1)), (2, .long v1), (0, .ref (ad 0)), (1, .int y1), (4, .long y4)]) hx hb dX8_tells_129 hl (k := 4) rfl rfl (by decide) rfl (fun ls hl => ?_)
          refine lv_goto (tgt := 27) hx hb dX8_tells_132 (by decide) ?_
          exact ih v1 (x6 + 1) _ _ _ (by first | exact ⟨fuU_s hf.1 c33, hf.2⟩ | exact ⟨fuU_s hf.1 c33, Nat.le_trans hf.2 (ev1 ▸ or_le _ _)⟩) hr hP hS (lv_sub hl [2, 3, 1, 4, 0] rfl)
set_option maxHeartbeats 4000000 in
set_option maxRecDepth 100000 in
theorem lp_X8_tells_14 (l : Launch) (D : va_G) (cI cL cZ : ClassId) (ad : Nat → Nat) (m_w m_h m_c m_s m_le m_un m_he m_ro m_wi m_hi m_hr m_hp m_rn m_rw m_rh : Int32) (m_n m_l m_b m_to m_hs : Int64) (m_ho m_tx m_ik m_wt : Nat → Int32) (m_ac m_ap m_pa m_im m_ri : Nat → Int64) {p : Program} {e : Env} {s : State} {m : MethodId} {args : Array Value} {below : List Frame} {meth : Method} {c : Code} {Q : State → Prop} (C : Cx p s m args meth c cX8_tells 7 (some .int) W0 RX8 D cI cL cZ) (hAd : mInj ad) (y1 : Int32) (hg : mG m_w m_h m_c m_s) {β : Type} (k0 : Int64 → β) (r : β)
    (h0 : ∀ (e2 : Int64) (H : Heap) (locs : List Loc) (ls : Array Slot), k0 e2 = r → va_P D vwCl (mw ad cI cL cZ m_w m_h m_c m_s m_le m_un m_he m_ro m_wi m_hi m_hr m_hp m_rn m_rw m_rh m_n m_l m_b m_to m_hs m_ho m_tx m_ik m_wt m_ac m_ap m_pa m_im m_ri) H → va_S (mAd ad) s.heap H locs → lv_has ls 7 [(0, .ref (ad 0)), (1, .int y1), (2, .long e2)] → W p l e (rmS 2 48) s m args below meth c H locs 0 0 Q (F0 m 138 ls [])) :
    ∀ (n : Nat) (x2 x4 : Int64) (H : Heap) (locs : List Loc) (ls : Array Slot), chC n x4 x2 → F_X8_tells_14 y1 m_s m_l m_b m_ho k0 n x2 x4 = r → va_P D vwCl (mw ad cI cL cZ m_w m_h m_c m_s m_le m_un m_he m_ro m_wi m_hi m_hr m_hp m_rn m_rw m_rh m_n m_l m_b m_to m_hs m_ho m_tx m_ik m_wt m_ac m_ap m_pa m_im m_ri) H → va_S (mAd ad) s.heap H locs → lv_has ls 7 [(0, .ref (ad 0)), (1, .int y1), (2, .long x2), (4, .long x4)] → W p l e (rmS 2 48) s m args below meth c H locs 0 0 Q (F0 m 14 ls []) := by
  obtain ⟨hx, hb, hml, hrt, hlocks, hown, hts, hk⟩ := C
  intro n
  induction n with
  | zero =>
    intro x2 x4 H locs ls hf
    exact absurd hf.1 (Nat.lt_irrefl 0)
  | succ n ih =>
    intro x2 x4 H locs ls hf hr hP hS hl
    rw [F_X8_tells_14] at hr
    refine lv_lload hx hb dX8_tells_14 (lv_at hl 3 rfl) ?_
    refine lv_lload_n hx hb dX8_tells_16 rfl (lv_at hl 2 rfl) ?_
    refine W.lcmp hx hb dX8_tells_17 ?_
    refine lv_if_eq (tgt := 138) hx hb dX8_tells_18 (by decide) (fun c18 => ?_) (fun c18 => ?_)
    · have hr := (if_pos c18).symm.trans hr
      exact h0 x2 _ _ _ hr hP hS (lv_sub hl [0, 1, 2] rfl)
    · have hr := (if_neg c18).symm.trans hr
      refine lv_lload_n hx hb dX8_tells_21 rfl (lv_at hl 2 rfl) ?_
      refine lv_lstore (lv' := [(4, .long x2), (0, .ref (ad 0)), (1, .int y1), (2, .long x2)]) hx hb dX8_tells_22 hl (by decide) rfl (fun ls hl => ?_)
      refine lv_iconst (v := 0) hx hb dX8_tells_24 (by decide) ?_
      refine lv_istore (lv' := [(6, .int 0), (4, .long x2), (0, .ref (ad 0)), (1, .int y1), (2, .long x2)]) hx hb dX8_tells_25 hl (by decide) rfl (fun ls hl => ?_)
      refine lp_X8_tells_27 l D cI cL cZ ad m_w m_h m_c m_s m_le m_un m_he m_ro m_wi m_hi m_hr m_hp m_rn m_rw m_rh m_n m_l m_b m_to m_hs m_ho m_tx m_ik m_wt m_ac m_ap m_pa m_im m_ri ⟨hx, hb, hml, hrt, hlocks, hown, hts, hk⟩ hAd y1 x2 hg _ _ (fun z2 H locs ls hz27 hr hP hS hl => ?_) (fu m_s (0 : Int32)) x2 0 _ _ _ ⟨fuU_0 (by decide), Nat.le_refl _⟩ hr hP hS (lv_sub hl [2, 3, 4, 1, 0] rfl)
      refine lv_goto (tgt := 14) hx hb dX8_tells_135 (by decide) ?_
      exact ih z2 x2 _ _ _ (ch_s hf c18 hz27) hr hP hS (lv_sub hl [0, 1, 2, 3] rfl)
set_option maxHeartbeats 4000000 in
set_option maxRecDepth 100000 in
theorem c_X8_tells (l : Launch) (D : va_G) (cI cL cZ : ClassId) (ad : Nat → Nat) (m_w m_h m_c m_s m_le m_un m_he m_ro m_wi m_hi m_hr m_hp m_rn m_rw m_rh : Int32) (m_n m_l m_b m_to m_hs : Int64) (m_ho m_tx m_ik m_wt : Nat → Int32) (m_ac m_ap m_pa m_im m_ri : Nat → Int64) (hAd : mInj ad) (p1 : Int32) (r : Int32) (hr : f_X8_tells p1 m_s m_l m_b m_ho = r) (hg : mG m_w m_h m_c m_s) (hp : 0 ≤ p1.toInt ∧ p1.toInt < 40) : MI l yX8_tells (Cond.code yX8_tells cX8_tells 7 (some .int) :: W0) 2 48 D cI cL cZ (mAd ad) [.ref (ad 0), .int p1] (mw ad cI cL cZ m_w m_h m_c m_s m_le m_un m_he m_ro m_wi m_hi m_hr m_hp m_rn m_rw m_rh m_n m_l m_b m_to m_hs m_ho m_tx m_ik m_wt m_ac m_ap m_pa m_im m_ri) r (mw ad cI cL cZ m_w m_h m_c m_s m_le m_un m_he m_ro m_wi m_hi m_hr m_hp m_rn m_rw m_rh m_n m_l m_b m_to m_hs m_ho m_tx m_ik m_wt m_ac m_ap m_pa m_im m_ri) := by
  refine mk_start (cc := cX8_tells) (maxL := 7) (ret := (some .int)) (by decide) rfl (Nat.le_of_ble_eq_true rfl) ?_
  intro p e s m below meth c ls C hP hS hl
  obtain ⟨hx, hb, hml, hrt, hlocks, hown, hts, hk⟩ := C
  have hown : s.vm.findClass RX8 = some m.cls := hown
  have hl : lv_has ls 7 [(0, .ref (ad 0)), (1, .int p1)] := hl
  rw [f_X8_tells] at hr
  refine lv_lconst (v := 1) hx hb dX8_tells_0 (by decide) ?_
  refine lv_aload_n hx hb dX8_tells_1 rfl (lv_at hl 0 rfl) ?_
  refine va_get (D := D) (ci := 8) (v := .ref (ad 3)) (C := RX8) (T := TX8) (N := 29) hx hb hts u_X8 hown hk.1 hP 0 rfl rfl 9 (by decide) (hts _ q4_21) (fun _ h9 => h9) rfl dX8_tells_2 ?_
  refine lv_iconst (v := 2) hx hb dX8_tells_5 (by decide) ?_
  refine lv_iload_n hx hb dX8_tells_6 rfl (lv_at hl 1 rfl) ?_
  refine lv_imul hx hb dX8_tells_7 ?_
  refine va_iald hx hb hk.1 hP 3 0 (rfl) rfl (vin_2 hp) dX8_tells_8 ?_
  refine lv_lshl (v := shlL 1 (m_ho (2 * p1).toNatClampNeg)) hx hb dX8_tells_9 rfl ?_
  refine lv_lstore_n (lv' := [(2, .long (shlL 1 (m_ho (2 * p1).toNatClampNeg))), (0, .ref (ad 0)), (1, .int p1)]) hx hb dX8_tells_10 rfl hl (by decide) rfl (fun ls hl => ?_)
  refine lv_lconst (v := 0) hx hb dX8_tells_11 (by decide) ?_
  refine lv_lstore (lv' := [(4, .long 0), (2, .long (shlL 1 (m_ho (2 * p1).toNatClampNeg))), (0, .ref (ad 0)), (1, .int p1)]) hx hb dX8_tells_12 hl (by decide) rfl (fun ls hl => ?_)
  refine lp_X8_tells_14 l D cI cL cZ ad m_w m_h m_c m_s m_le m_un m_he m_ro m_wi m_hi m_hr m_hp m_rn m_rw m_rh m_n m_l m_b m_to m_hs m_ho m_tx m_ik m_wt m_ac m_ap m_pa m_im m_ri ⟨hx, hb, hml, hrt, hlocks, hown, hts, hk⟩ hAd p1 hg _ _ (fun z3 H locs ls hr hP hS hl => ?_) (18446744073709551617 - (0 : Int64).toBitVec.toNat) (shlL 1 (m_ho (2 * p1).toNatClampNeg)) 0 _ _ _ (ch_0 _) hr hP hS (lv_sub hl [2, 3, 1, 0] rfl)
  refine lv_aload_n hx hb dX8_tells_138 rfl (lv_at hl 0 rfl) ?_
  refine va_get (D := D) (ci := 8) (v := .ref (ad 3)) (C := RX8) (T := TX8) (N := 29) hx hb hts u_X8 hown hk.1 hP 0 rfl rfl 9 (by decide) (hts _ q4_21) (fun _ h9 => h9) rfl dX8_tells_139 ?_
  refine lv_iconst (v := 2) hx hb dX8_tells_142 (by decide) ?_
  refine lv_iload_n hx hb dX8_tells_143 rfl (lv_at hl 1 rfl) ?_
  refine lv_imul hx hb dX8_tells_144 ?_
  refine lv_iconst (v := 1) hx hb dX8_tells_145 (by decide) ?_
  refine lv_iadd hx hb dX8_tells_146 ?_
  refine va_iald hx hb hk.1 hP 3 0 (rfl) rfl (vin_21 hp) dX8_tells_147 ?_
  refine lv_istore (lv' := [(6, .int (m_ho ((2 * p1) + 1).toNatClampNeg)), (0, .ref (ad 0)), (1, .int p1), (2, .long z3)]) hx hb dX8_tells_148 hl (by decide) rfl (fun ls hl => ?_)
  refine lv_lload_n hx hb dX8_tells_150 rfl (lv_at hl 3 rfl) ?_
  refine lv_iload hx hb dX8_tells_151 (lv_at hl 0 rfl) ?_
  refine go_z (ru_S (n := 2) ⟨hx, hb, hml, hown, hts⟩ hk hP (c_X8_has l D cI cL cZ (mAd ad) (mw ad cI cL cZ m_w m_h m_c m_s m_le m_un m_he m_ro m_wi m_hi m_hr m_hp m_rn m_rw m_rh m_n m_l m_b m_to m_hs m_ho m_tx m_ik m_wt m_ac m_ap m_pa m_im m_ri) z3 (m_ho ((2 * p1) + 1).toNatClampNeg) _ rfl) (va_cwS 2 hts (gS q4_153 q4_154 q1_11 q4_155) rfl rfl rfl hd_X8_has ⟨Nat.le_of_ble_eq_true rfl, Nat.le_of_ble_eq_true rfl⟩) rfl hl.1 rfl (Nat.le_of_ble_eq_true rfl) dX8_tells_153 ⟨Nat.zero_le _, Nat.zero_le _⟩) hS (fun _ h => h) (fun H locs hz153 hP hS => ?_)
  have hP : va_P D vwCl (mw ad cI cL cZ m_w m_h m_c m_s m_le m_un m_he m_ro m_wi m_hi m_hr m_hp m_rn m_rw m_rh m_n m_l m_b m_to m_hs m_ho m_tx m_ik m_wt m_ac m_ap m_pa m_im m_ri) H := hP
  refine lv_if_eq (tgt := 163) hx hb dX8_tells_156 (by decide) (fun c156 => ?_) (fun c156 => ?_)
  · have hr := (if_pos c156).symm.trans hr
    refine lv_iconst (v := 0) hx hb dX8_tells_163 (by decide) ?_
    refine lv_lload_n hx hb dX8_tells_164 rfl (lv_at hl 3 rfl) ?_
    refine lv_iload hx hb dX8_tells_165 (lv_at hl 0 rfl) ?_
    refine lv_bipush (v := 17) hx hb dX8_tells_167 (by decide) ?_
    refine lv_iadd hx hb dX8_tells_169 ?_
    refine go_z (ru_S (n := 2) ⟨hx, hb, hml, hown, hts⟩ hk hP (c_X8_has l D cI cL cZ (mAd ad) (mw ad cI cL cZ m_w m_h m_c m_s m_le m_un m_he m_ro m_wi m_hi m_hr m_hp m_rn m_rw m_rh m_n m_l m_b m_to m_hs m_ho m_tx m_ik m_wt m_ac m_ap m_pa m_im m_ri) z3 ((m_ho ((2 * p1) + 1).toNatClampNeg) + 17) _ rfl) (va_cwS 2 hts (gS q4_153 q4_154 q1_11 q4_155) rfl rfl rfl hd_X8_has ⟨Nat.le_of_ble_eq_true rfl, Nat.le_of_ble_eq_true rfl⟩) rfl hl.1 rfl (Nat.le_of_ble_eq_true rfl) dX8_tells_170 ⟨Nat.zero_le _, Nat.zero_le _⟩) hS (fun _ h => h) (fun H locs hz170 hP hS => ?_)
    have hP : va_P D vwCl (mw ad cI cL cZ m_w m_h m_c m_s m_le m_un m_he m_ro m_wi m_hi m_hr m_hp m_rn m_rw m_rh m_n m_l m_b m_to m_hs m_ho m_tx m_ik m_wt m_ac m_ap m_pa m_im m_ri) H := hP
    refine lv_if_eq (tgt := 180) hx hb dX8_tells_173 (by decide) (fun c173 => ?_) (fun c173 => ?_)
    · have hr := (if_pos c173).symm.trans hr
      refine lv_iconst (v := 0) hx hb dX8_tells_180 (by decide) ?_
      refine lv_iadd hx hb dX8_tells_181 ?_
      subst hr
      exact ret_i hx hb hrt hlocks hP hS dX8_tells_182
    · have hr := (if_neg c173).symm.trans hr
      refine lv_iconst (v := 2) hx hb dX8_tells_176 (by decide) ?_
      refine lv_goto (tgt := 181) hx hb dX8_tells_177 (by decide) ?_
      refine lv_iadd hx hb dX8_tells_181 ?_
      subst hr
      exact ret_i hx hb hrt hlocks hP hS dX8_tells_182
  · have hr := (if_neg c156).symm.trans hr
    refine lv_iconst (v := 1) hx hb dX8_tells_159 (by decide) ?_
    refine lv_goto (tgt := 164) hx hb dX8_tells_160 (by decide) ?_
    refine lv_lload_n hx hb dX8_tells_164 rfl (lv_at hl 3 rfl) ?_
    refine lv_iload hx hb dX8_tells_165 (lv_at hl 0 rfl) ?_
    refine lv_bipush (v := 17) hx hb dX8_tells_167 (by decide) ?_
    refine lv_iadd hx hb dX8_tells_169 ?_
    refine go_z (ru_S (n := 2) ⟨hx, hb, hml, hown, hts⟩ hk hP (c_X8_has l D cI cL cZ (mAd ad) (mw ad cI cL cZ m_w m_h m_c m_s m_le m_un m_he m_ro m_wi m_hi m_hr m_hp m_rn m_rw m_rh m_n m_l m_b m_to m_hs m_ho m_tx m_ik m_wt m_ac m_ap m_pa m_im m_ri) z3 ((m_ho ((2 * p1) + 1).toNatClampNeg) + 17) _ rfl) (va_cwS 2 hts (gS q4_153 q4_154 q1_11 q4_155) rfl rfl rfl hd_X8_has ⟨Nat.le_of_ble_eq_true rfl, Nat.le_of_ble_eq_true rfl⟩) rfl hl.1 rfl (Nat.le_of_ble_eq_true rfl) dX8_tells_170 ⟨Nat.zero_le _, Nat.zero_le _⟩) hS (fun _ h => h) (fun H locs hz170 hP hS => ?_)
    have hP : va_P D vwCl (mw ad cI cL cZ m_w m_h m_c m_s m_le m_un m_he m_ro m_wi m_hi m_hr m_hp m_rn m_rw m_rh m_n m_l m_b m_to m_hs m_ho m_tx m_ik m_wt m_ac m_ap m_pa m_im m_ri) H := hP
    refine lv_if_eq (tgt := 180) hx hb dX8_tells_173 (by decide) (fun c173 => ?_) (fun c173 => ?_)
    · have hr := (if_pos c173).symm.trans hr
      refine lv_iconst (v := 0) hx hb dX8_tells_180 (by decide) ?_
      refine lv_iadd hx hb dX8_tells_181 ?_
      subst hr
      exact ret_i hx hb hrt hlocks hP hS dX8_tells_182
    · have hr := (if_neg c173).symm.trans hr
      refine lv_iconst (v := 2) hx hb dX8_tells_176 (by decide) ?_
      refine lv_goto (tgt := 181) hx hb dX8_tells_177 (by decide) ?_
      refine lv_iadd hx hb dX8_tells_181 ?_
      subst hr
      exact ret_i hx hb hrt hlocks hP hS dX8_tells_182
theorem hd_X8_atHands : yX8_atHands.cls = RX8 ∧ yX8_atHands.cls ≠ "java/lang/invoke/MethodHandle" ∧ yX8_atHands.cls ≠ "java/lang/invoke/VarHandle" ∧ (parseMethodDescriptor yX8_atHands.desc).map (fun d => d.parameters.length) = some 1 := by decide +kernel
def f_X8_atHands (p1 : Int32) (m_s : Int32) (m_l : Int64) (m_b : Int64) (m_ho : Nat → Int32) : Int32 × Int32 × Int32 × Int32 × Int64 := (if (f_X8_has (m_l ||| m_b) p1) = 0 then (if (f_X8_tells p1 m_s m_l m_b m_ho) = 1 then (bd (f_X8_finds 3 p1 1 (shlL 1 p1)) (fun u3 => (u3.1, u3.2.1, u3.2.2.1, u3.2.2.2.1, u3.2.2.2.2))) else (if (f_X8_tells p1 m_s m_l m_b m_ho) = 2 then (bd (f_X8_finds 3 p1 2 (shlL 1 p1)) (fun u2 => (u2.1, u2.2.1, u2.2.2.1, u2.2.2.2.1, u2.2.2.2.2))) else (bd (f_X8_finds 3 p1 0 (shlL 1 p1)) (fun u1 => (u1.1, u1.2.1, u1.2.2.1, u1.2.2.2.1, u1.2.2.2.2))))) else (if (f_X8_has m_l p1) = 0 then (if ((f_X8_tells p1 m_s m_l m_b m_ho) &&& 2) = 2 then (bd (f_X8_finds 3 p1 3 0) (fun u5 => (u5.1, u5.2.1, u5.2.2.1, u5.2.2.2.1, u5.2.2.2.2))) else (bd (f_X8_finds 3 p1 0 0) (fun u4 => (u4.1, u4.2.1, u4.2.2.1, u4.2.2.2.1, u4.2.2.2.2)))) else (if ((f_X8_tells p1 m_s m_l m_b m_ho) &&& 1) = 1 then (bd (f_X8_finds 3 p1 3 0) (fun u7 => (u7.1, u7.2.1, u7.2.2.1, u7.2.2.2.1, u7.2.2.2.2))) else (bd (f_X8_finds 3 p1 0 0) (fun u6 => (u6.1, u6.2.1, u6.2.2.1, u6.2.2.2.1, u6.2.2.2.2))))))
set_option maxHeartbeats 4000000 in
set_option maxRecDepth 100000 in
theorem c_X8_atHands (l : Launch) (D : va_G) (cI cL cZ : ClassId) (ad : Nat → Nat) (m_w m_h m_c m_s m_le m_un m_he m_ro m_wi m_hi m_hr m_hp m_rn m_rw m_rh : Int32) (m_n m_l m_b m_to m_hs : Int64) (m_ho m_tx m_ik m_wt : Nat → Int32) (m_ac m_ap m_pa m_im m_ri : Nat → Int64) (hAd : mInj ad) (p1 : Int32) (r : Int32 × Int32 × Int32 × Int32 × Int64) (hr : f_X8_atHands p1 m_s m_l m_b m_ho = r) (hg : mG m_w m_h m_c m_s) (hp : 0 ≤ p1.toInt ∧ p1.toInt < 40) : MZ l yX8_atHands (Cond.code yX8_atHands cX8_atHands 4 (some .boolean) :: W0) 3 74 D cI cL cZ (mAd ad) [.ref (ad 0), .int p1] (mw ad cI cL cZ m_w m_h m_c m_s m_le m_un m_he m_ro m_wi m_hi m_hr m_hp m_rn m_rw m_rh m_n m_l m_b m_to m_hs m_ho m_tx m_ik m_wt m_ac m_ap m_pa m_im m_ri) r.1 (mw ad cI cL cZ m_w m_h m_c m_s m_le m_un m_he m_ro m_wi r.2.1 r.2.2.1 r.2.2.2.1 m_rn m_rw m_rh m_n m_l m_b m_to r.2.2.2.2 m_ho m_tx m_ik m_wt m_ac m_ap m_pa m_im m_ri) := by
  refine mk_start (cc := cX8_atHands) (maxL := 4) (ret := (some .boolean)) (by decide) rfl (Nat.le_of_ble_eq_true rfl) ?_
  intro p e s m below meth c ls C hP hS hl
  obtain ⟨hx, hb, hml, hrt, hlocks, hown, hts, hk⟩ := C
  have hown : s.vm.findClass RX8 = some m.cls := hown
  have hl : lv_has ls 4 [(0, .ref (ad 0)), (1, .int p1)] := hl
  rw [f_X8_atHands] at hr
  refine lv_aload_n hx hb dX8_atHands_0 rfl (lv_at hl 0 rfl) ?_
  refine lv_iload_n hx hb dX8_atHands_1 rfl (lv_at hl 1 rfl) ?_
  refine go_i (ru_V (n := 1) ⟨hx, hb, hml, hown, hts⟩ hk hP (c_X8_tells l D cI cL cZ ad m_w m_h m_c m_s m_le m_un m_he m_ro m_wi m_hi m_hr m_hp m_rn m_rw m_rh m_n m_l m_b m_to m_hs m_ho m_tx m_ik m_wt m_ac m_ap m_pa m_im m_ri hAd p1 _ rfl hg hp) (cwV 1 hts (gV q5_12 q5_14 qs4_13 q1_11 q5_15) rfl rfl rfl hd_X8_tells ⟨Nat.le_of_ble_eq_true rfl, Nat.le_of_ble_eq_true rfl⟩) (va_recv hk.1 hP (ci := 8) (q0 := 0) rfl rfl) rfl hl.1 rfl (Nat.le_of_ble_eq_true rfl) dX8_atHands_2 ⟨Nat.zero_le _, Nat.zero_le _⟩) hS (fun _ h => h) (fun H locs hP hS => ?_)
  have hP : va_P D vwCl (mw ad cI cL cZ m_w m_h m_c m_s m_le m_un m_he m_ro m_wi m_hi m_hr m_hp m_rn m_rw m_rh m_n m_l m_b m_to m_hs m_ho m_tx m_ik m_wt m_ac m_ap m_pa m_im m_ri) H := hP
  refine lv_istore_n (lv' := [(2, .int (f_X8_tells p1 m_s m_l m_b m_ho)), (0, .ref (ad 0)), (1, .int p1)]) hx hb dX8_atHands_5 rfl hl (by decide) rfl (fun ls hl => ?_)
  refine lv_aload_n hx hb dX8_atHands_6 rfl (lv_at hl 1 rfl) ?_
  refine va_get (D := D) (ci := 8) (v := .long m_l) (C := RX8) (T := TX8) (N := 29) hx hb hts u_X8 hown hk.1 hP 0 rfl rfl 1 (by decide) (hts _ q4_13) (fun _ h9 => h9) rfl dX8_atHands_7 ?_
  refine lv_aload_n hx hb dX8_atHands_10 rfl (lv_at hl 1 rfl) ?_
  refine va_get (D := D) (ci := 8) (v := .long m_b) (C := RX8) (T := TX8) (N := 29) hx hb hts u_X8 hown hk.1 hP 0 rfl rfl 2 (by decide) (hts _ q4_14) (fun _ h9 => h9) rfl dX8_atHands_11 ?_
  refine lv_lor hx hb dX8_atHands_14 ?_
  refine lv_iload_n hx hb dX8_atHands_15 rfl (lv_at hl 2 rfl) ?_
  refine go_z (ru_S (n := 2) ⟨hx, hb, hml, hown, hts⟩ hk hP (c_X8_has l D cI cL cZ (mAd ad) (mw ad cI cL cZ m_w m_h m_c m_s m_le m_un m_he m_ro m_wi m_hi m_hr m_hp m_rn m_rw m_rh m_n m_l m_b m_to m_hs m_ho m_tx m_ik m_wt m_ac m_ap m_pa m_im m_ri) (m_l ||| m_b) p1 _ rfl) (va_cwS 2 hts (gS q4_153 q4_154 q1_11 q4_155) rfl rfl rfl hd_X8_has ⟨Nat.le_of_ble_eq_true rfl, Nat.le_of_ble_eq_true rfl⟩) rfl hl.1 rfl (Nat.le_of_ble_eq_true rfl) dX8_atHands_16 ⟨Nat.zero_le _, Nat.zero_le _⟩) hS (fun _ h => h) (fun H locs hz16 hP hS => ?_)
  have hP : va_P D vwCl (mw ad cI cL cZ m_w m_h m_c m_s m_le m_un m_he m_ro m_wi m_hi m_hr m_hp m_rn m_rw m_rh m_n m_l m_b m_to m_hs m_ho m_tx m_ik m_wt m_ac m_ap m_pa m_im m_ri) H := hP
  refine lv_if_eq (tgt := 78) hx hb dX8_atHands_19 (by decide) (fun c19 => ?_) (fun c19 => ?_)
  · have hr := (if_pos c19).symm.trans hr
    refine lv_aload_n hx hb dX8_atHands_78 rfl (lv_at hl 1 rfl) ?_
    refine lv_iconst (v := 3) hx hb dX8_atHands_79 (by decide) ?_
    refine lv_iload_n hx hb dX8_atHands_80 rfl (lv_at hl 2 rfl) ?_
    refine lv_iload_n hx hb dX8_atHands_81 rfl (lv_at hl 0 rfl) ?_
    refine lv_iconst (v := 1) hx hb dX8_atHands_82 (by decide) ?_
    refine lv_icmp_ne (tgt := 90) hx hb dX8_atHands_83 (by decide) (fun c83 => ?_) (fun c83 => ?_)
    · have hr := (if_neg c83).symm.trans hr
      refine lv_iload_n hx hb dX8_atHands_90 rfl (lv_at hl 0 rfl) ?_
      refine lv_iconst (v := 2) hx hb dX8_atHands_91 (by decide) ?_
      refine lv_icmp_ne (tgt := 99) hx hb dX8_atHands_92 (by decide) (fun c92 => ?_) (fun c92 => ?_)
      · have hr := (if_neg c92).symm.trans hr
        refine lv_iconst (v := 0) hx hb dX8_atHands_99 (by decide) ?_
        refine lv_lconst (v := 1) hx hb dX8_atHands_100 (by decide) ?_
        refine lv_iload_n hx hb dX8_atHands_101 rfl (lv_at hl 2 rfl) ?_
        refine lv_lshl (v := shlL 1 p1) hx hb dX8_atHands_102 rfl ?_
        obtain ⟨u1, hu1⟩ : ∃ z, f_X8_finds 3 p1 0 (shlL 1 p1) = z := ⟨_, rfl⟩
        have hr := (bd_eq hu1).symm.trans hr
        refine go_z (ru_V (n := 4) ⟨hx, hb, hml, hown, hts⟩ hk hP (c_X8_finds l D cI cL cZ ad m_w m_h m_c m_s m_le m_un m_he m_ro m_wi m_hi m_hr m_hp m_rn m_rw m_rh m_n m_l m_b m_to m_hs m_ho m_tx m_ik m_wt m_ac m_ap m_pa m_im m_ri hAd 3 p1 0 (shlL 1 p1) _ hu1) (cwV 4 hts (gV q4_224 q4_226 qs4_6 q1_11 q4_227) rfl rfl rfl hd_X8_finds ⟨Nat.le_of_ble_eq_true rfl, Nat.le_of_ble_eq_true rfl⟩) (va_recv hk.1 hP (ci := 8) (q0 := 0) rfl rfl) rfl hl.1 rfl (Nat.le_of_ble_eq_true rfl) dX8_atHands_103 ⟨Nat.zero_le _, Nat.zero_le _⟩) hS (fun _ h => h) (fun H locs hz103 hP hS => ?_)
        have hP : va_P D vwCl (mw ad cI cL cZ m_w m_h m_c m_s m_le m_un m_he m_ro m_wi u1.2.1 u1.2.2.1 u1.2.2.2.1 m_rn m_rw m_rh m_n m_l m_b m_to u1.2.2.2.2 m_ho m_tx m_ik m_wt m_ac m_ap m_pa m_im m_ri) H := hP
        subst hr
        exact ret_z hx hb hrt hlocks (by first | assumption | exact bz_ok (by assumption)) hP hS dX8_atHands_106
      · have hr := (if_pos c92).symm.trans hr
        refine lv_iconst (v := 2) hx hb dX8_atHands_95 (by decide) ?_
        refine lv_goto (tgt := 100) hx hb dX8_atHands_96 (by decide) ?_
        refine lv_lconst (v := 1) hx hb dX8_atHands_100 (by decide) ?_
        refine lv_iload_n hx hb dX8_atHands_101 rfl (lv_at hl 2 rfl) ?_
        refine lv_lshl (v := shlL 1 p1) hx hb dX8_atHands_102 rfl ?_
        obtain ⟨u2, hu2⟩ : ∃ z, f_X8_finds 3 p1 2 (shlL 1 p1) = z := ⟨_, rfl⟩
        have hr := (bd_eq hu2).symm.trans hr
        refine go_z (ru_V (n := 4) ⟨hx, hb, hml, hown, hts⟩ hk hP (c_X8_finds l D cI cL cZ ad m_w m_h m_c m_s m_le m_un m_he m_ro m_wi m_hi m_hr m_hp m_rn m_rw m_rh m_n m_l m_b m_to m_hs m_ho m_tx m_ik m_wt m_ac m_ap m_pa m_im m_ri hAd 3 p1 2 (shlL 1 p1) _ hu2) (cwV 4 hts (gV q4_224 q4_226 qs4_6 q1_11 q4_227) rfl rfl rfl hd_X8_finds ⟨Nat.le_of_ble_eq_true rfl, Nat.le_of_ble_eq_true rfl⟩) (va_recv hk.1 hP (ci := 8) (q0 := 0) rfl rfl) rfl hl.1 rfl (Nat.le_of_ble_eq_true rfl) dX8_atHands_103 ⟨Nat.zero_le _, Nat.zero_le _⟩) hS (fun _ h => h) (fun H locs hz103 hP hS => ?_)
        have hP : va_P D vwCl (mw ad cI cL cZ m_w m_h m_c m_s m_le m_un m_he m_ro m_wi u2.2.1 u2.2.2.1 u2.2.2.2.1 m_rn m_rw m_rh m_n m_l m_b m_to u2.2.2.2.2 m_ho m_tx m_ik m_wt m_ac m_ap m_pa m_im m_ri) H := hP
        subst hr
        exact ret_z hx hb hrt hlocks (by first | assumption | exact bz_ok (by assumption)) hP hS dX8_atHands_106
    · have hr := (if_pos c83).symm.trans hr
      refine lv_iconst (v := 1) hx hb dX8_atHands_86 (by decide) ?_
      refine lv_goto (tgt := 100) hx hb dX8_atHands_87 (by decide) ?_
      refine lv_lconst (v := 1) hx hb dX8_atHands_100 (by decide) ?_
      refine lv_iload_n hx hb dX8_atHands_101 rfl (lv_at hl 2 rfl) ?_
      refine lv_lshl (v := shlL 1 p1) hx hb dX8_atHands_102 rfl ?_
      obtain ⟨u3, hu3⟩ : ∃ z, f_X8_finds 3 p1 1 (shlL 1 p1) = z := ⟨_, rfl⟩
      have hr := (bd_eq hu3).symm.trans hr
      refine go_z (ru_V (n := 4) ⟨hx, hb, hml, hown, hts⟩ hk hP (c_X8_finds l D cI cL cZ ad m_w m_h m_c m_s m_le m_un m_he m_ro m_wi m_hi m_hr m_hp m_rn m_rw m_rh m_n m_l m_b m_to m_hs m_ho m_tx m_ik m_wt m_ac m_ap m_pa m_im m_ri hAd 3 p1 1 (shlL 1 p1) _ hu3) (cwV 4 hts (gV q4_224 q4_226 qs4_6 q1_11 q4_227) rfl rfl rfl hd_X8_finds ⟨Nat.le_of_ble_eq_true rfl, Nat.le_of_ble_eq_true rfl⟩) (va_recv hk.1 hP (ci := 8) (q0 := 0) rfl rfl) rfl hl.1 rfl (Nat.le_of_ble_eq_true rfl) dX8_atHands_103 ⟨Nat.zero_le _, Nat.zero_le _⟩) hS (fun _ h => h) (fun H locs hz103 hP hS => ?_)
      have hP : va_P D vwCl (mw ad cI cL cZ m_w m_h m_c m_s m_le m_un m_he m_ro m_wi u3.2.1 u3.2.2.1 u3.2.2.2.1 m_rn m_rw m_rh m_n m_l m_b m_to u3.2.2.2.2 m_ho m_tx m_ik m_wt m_ac m_ap m_pa m_im m_ri) H := hP
      subst hr
      exact ret_z hx hb hrt hlocks (by first | assumption | exact bz_ok (by assumption)) hP hS dX8_atHands_106
  · have hr := (if_neg c19).symm.trans hr
    refine lv_aload_n hx hb dX8_atHands_22 rfl (lv_at hl 1 rfl) ?_
    refine va_get (D := D) (ci := 8) (v := .long m_l) (C := RX8) (T := TX8) (N := 29) hx hb hts u_X8 hown hk.1 hP 0 rfl rfl 1 (by decide) (hts _ q4_13) (fun _ h9 => h9) rfl dX8_atHands_23 ?_
    refine lv_iload_n hx hb dX8_atHands_26 rfl (lv_at hl 2 rfl) ?_
    refine go_z (ru_S (n := 2) ⟨hx, hb, hml, hown, hts⟩ hk hP (c_X8_has l D cI cL cZ (mAd ad) (mw ad cI cL cZ m_w m_h m_c m_s m_le m_un m_he m_ro m_wi m_hi m_hr m_hp m_rn m_rw m_rh m_n m_l m_b m_to m_hs m_ho m_tx m_ik m_wt m_ac m_ap m_pa m_im m_ri) m_l p1 _ rfl) (va_cwS 2 hts (gS q4_153 q4_154 q1_11 q4_155) rfl rfl rfl hd_X8_has ⟨Nat.le_of_ble_eq_true rfl, Nat.le_of_ble_eq_true rfl⟩) rfl hl.1 rfl (Nat.le_of_ble_eq_true rfl) dX8_atHands_27 ⟨Nat.zero_le _, Nat.zero_le _⟩) hS (fun _ h => h) (fun H locs hz27 hP hS => ?_)
    have hP : va_P D vwCl (mw ad cI cL cZ m_w m_h m_c m_s m_le m_un m_he m_ro m_wi m_hi m_hr m_hp m_rn m_rw m_rh m_n m_l m_b m_to m_hs m_ho m_tx m_ik m_wt m_ac m_ap m_pa m_im m_ri) H := hP
    refine lv_if_eq (tgt := 48) hx hb dX8_atHands_30 (by decide) (fun c30 => ?_) (fun c30 => ?_)
    · have hr := (if_pos c30).symm.trans hr
      refine lv_iload_n hx hb dX8_atHands_48 rfl (lv_at hl 0 rfl) ?_
      refine lv_iconst (v := 2) hx hb dX8_atHands_49 (by decide) ?_
      refine lv_iand hx hb dX8_atHands_50 ?_
      refine lv_iconst (v := 2) hx hb dX8_atHands_51 (by decide) ?_
      refine lv_icmp_ne (tgt := 59) hx hb dX8_atHands_52 (by decide) (fun c52 => ?_) (fun c52 => ?_)
      · have hr := (if_neg c52).symm.trans hr
        refine lv_iconst (v := 0) hx hb dX8_atHands_59 (by decide) ?_
        refine lv_istore_n (lv' := [(3, .int 0), (2, .int (f_X8_tells p1 m_s m_l m_b m_ho)), (0, .ref (ad 0)), (1, .int p1)]) hx hb dX8_atHands_60 rfl hl (by decide) rfl (fun ls hl => ?_)
        refine lv_aload_n hx hb dX8_atHands_61 rfl (lv_at hl 2 rfl) ?_
        refine lv_iconst (v := 3) hx hb dX8_atHands_62 (by decide) ?_
        refine lv_iload_n hx hb dX8_atHands_63 rfl (lv_at hl 3 rfl) ?_
        refine lv_iload_n hx hb dX8_atHands_64 rfl (lv_at hl 0 rfl) ?_
        refine lv_if_eq (tgt := 72) hx hb dX8_atHands_65 (by decide) (fun c65 => ?_) (fun c65 => ?_)
        · refine lv_iconst (v := 0) hx hb dX8_atHands_72 (by decide) ?_
          refine lv_lconst (v := 0) hx hb dX8_atHands_73 (by decide) ?_
          obtain ⟨u4, hu4⟩ : ∃ z, f_X8_finds 3 p1 0 0 = z := ⟨_, rfl⟩
          have hr := (bd_eq hu4).symm.trans hr
          refine go_z (ru_V (n := 4) ⟨hx, hb, hml, hown, hts⟩ hk hP (c_X8_finds l D cI cL cZ ad m_w m_h m_c m_s m_le m_un m_he m_ro m_wi m_hi m_hr m_hp m_rn m_rw m_rh m_n m_l m_b m_to m_hs m_ho m_tx m_ik m_wt m_ac m_ap m_pa m_im m_ri hAd 3 p1 0 0 _ hu4) (cwV 4 hts (gV q4_224 q4_226 qs4_6 q1_11 q4_227) rfl rfl rfl hd_X8_finds ⟨Nat.le_of_ble_eq_true rfl, Nat.le_of_ble_eq_true rfl⟩) (va_recv hk.1 hP (ci := 8) (q0 := 0) rfl rfl) rfl hl.1 rfl (Nat.le_of_ble_eq_true rfl) dX8_atHands_74 ⟨Nat.zero_le _, Nat.zero_le _⟩) hS (fun _ h => h) (fun H locs hz74 hP hS => ?_)
          have hP : va_P D vwCl (mw ad cI cL cZ m_w m_h m_c m_s m_le m_un m_he m_ro m_wi u4.2.1 u4.2.2.1 u4.2.2.2.1 m_rn m_rw m_rh m_n m_l m_b m_to u4.2.2.2.2 m_ho m_tx m_ik m_wt m_ac m_ap m_pa m_im m_ri) H := hP
          subst hr
          exact ret_z hx hb hrt hlocks (by first | assumption | exact bz_ok (by assumption)) hP hS dX8_atHands_77
        · exact absurd (by decide) c65
      · have hr := (if_pos c52).symm.trans hr
        refine lv_iconst (v := 1) hx hb dX8_atHands_55 (by decide) ?_
        refine lv_goto (tgt := 60) hx hb dX8_atHands_56 (by decide) ?_
        refine lv_istore_n (lv' := [(3, .int 1), (2, .int (f_X8_tells p1 m_s m_l m_b m_ho)), (0, .ref (ad 0)), (1, .int p1)]) hx hb dX8_atHands_60 rfl hl (by decide) rfl (fun ls hl => ?_)
        refine lv_aload_n hx hb dX8_atHands_61 rfl (lv_at hl 2 rfl) ?_
        refine lv_iconst (v := 3) hx hb dX8_atHands_62 (by decide) ?_
        refine lv_iload_n hx hb dX8_atHands_63 rfl (lv_at hl 3 rfl) ?_
        refine lv_iload_n hx hb dX8_atHands_64 rfl (lv_at hl 0 rfl) ?_
        refine lv_if_eq (tgt := 72) hx hb dX8_atHands_65 (by decide) (fun c65 => ?_) (fun c65 => ?_)
        · exact absurd c65 (by decide)
        · refine lv_iconst (v := 3) hx hb dX8_atHands_68 (by decide) ?_
          refine lv_goto (tgt := 73) hx hb dX8_atHands_69 (by decide) ?_
          refine lv_lconst (v := 0) hx hb dX8_atHands_73 (by decide) ?_
          obtain ⟨u5, hu5⟩ : ∃ z, f_X8_finds 3 p1 3 0 = z := ⟨_, rfl⟩
          have hr := (bd_eq hu5).symm.trans hr
          refine go_z (ru_V (n := 4) ⟨hx, hb, hml, hown, hts⟩ hk hP (c_X8_finds l D cI cL cZ ad m_w m_h m_c m_s m_le m_un m_he m_ro m_wi m_hi m_hr m_hp m_rn m_rw m_rh m_n m_l m_b m_to m_hs m_ho m_tx m_ik m_wt m_ac m_ap m_pa m_im m_ri hAd 3 p1 3 0 _ hu5) (cwV 4 hts (gV q4_224 q4_226 qs4_6 q1_11 q4_227) rfl rfl rfl hd_X8_finds ⟨Nat.le_of_ble_eq_true rfl, Nat.le_of_ble_eq_true rfl⟩) (va_recv hk.1 hP (ci := 8) (q0 := 0) rfl rfl) rfl hl.1 rfl (Nat.le_of_ble_eq_true rfl) dX8_atHands_74 ⟨Nat.zero_le _, Nat.zero_le _⟩) hS (fun _ h => h) (fun H locs hz74 hP hS => ?_)
          have hP : va_P D vwCl (mw ad cI cL cZ m_w m_h m_c m_s m_le m_un m_he m_ro m_wi u5.2.1 u5.2.2.1 u5.2.2.2.1 m_rn m_rw m_rh m_n m_l m_b m_to u5.2.2.2.2 m_ho m_tx m_ik m_wt m_ac m_ap m_pa m_im m_ri) H := hP
          subst hr
          exact ret_z hx hb hrt hlocks (by first | assumption | exact bz_ok (by assumption)) hP hS dX8_atHands_77
    · have hr := (if_neg c30).symm.trans hr
      refine lv_iload_n hx hb dX8_atHands_33 rfl (lv_at hl 0 rfl) ?_
      refine lv_iconst (v := 1) hx hb dX8_atHands_34 (by decide) ?_
      refine lv_iand hx hb dX8_atHands_35 ?_
      refine lv_iconst (v := 1) hx hb dX8_atHands_36 (by decide) ?_
      refine lv_icmp_ne (tgt := 44) hx hb dX8_atHands_37 (by decide) (fun c37 => ?_) (fun c37 => ?_)
      · have hr := (if_neg c37).symm.trans hr
        refine lv_iconst (v := 0) hx hb dX8_atHands_44 (by decide) ?_
        refine lv_goto (tgt := 60) hx hb dX8_atHands_45 (by decide) ?_
        refine lv_istore_n (lv' := [(3, .int 0), (2, .int (f_X8_tells p1 m_s m_l m_b m_ho)), (0, .ref (ad 0)), (1, .int p1)]) hx hb dX8_atHands_60 rfl hl (by decide) rfl (fun ls hl => ?_)
        refine lv_aload_n hx hb dX8_atHands_61 rfl (lv_at hl 2 rfl) ?_
        refine lv_iconst (v := 3) hx hb dX8_atHands_62 (by decide) ?_
        refine lv_iload_n hx hb dX8_atHands_63 rfl (lv_at hl 3 rfl) ?_
        refine lv_iload_n hx hb dX8_atHands_64 rfl (lv_at hl 0 rfl) ?_
        refine lv_if_eq (tgt := 72) hx hb dX8_atHands_65 (by decide) (fun c65 => ?_) (fun c65 => ?_)
        · refine lv_iconst (v := 0) hx hb dX8_atHands_72 (by decide) ?_
          refine lv_lconst (v := 0) hx hb dX8_atHands_73 (by decide) ?_
          obtain ⟨u6, hu6⟩ : ∃ z, f_X8_finds 3 p1 0 0 = z := ⟨_, rfl⟩
          have hr := (bd_eq hu6).symm.trans hr
          refine go_z (ru_V (n := 4) ⟨hx, hb, hml, hown, hts⟩ hk hP (c_X8_finds l D cI cL cZ ad m_w m_h m_c m_s m_le m_un m_he m_ro m_wi m_hi m_hr m_hp m_rn m_rw m_rh m_n m_l m_b m_to m_hs m_ho m_tx m_ik m_wt m_ac m_ap m_pa m_im m_ri hAd 3 p1 0 0 _ hu6) (cwV 4 hts (gV q4_224 q4_226 qs4_6 q1_11 q4_227) rfl rfl rfl hd_X8_finds ⟨Nat.le_of_ble_eq_true rfl, Nat.le_of_ble_eq_true rfl⟩) (va_recv hk.1 hP (ci := 8) (q0 := 0) rfl rfl) rfl hl.1 rfl (Nat.le_of_ble_eq_true rfl) dX8_atHands_74 ⟨Nat.zero_le _, Nat.zero_le _⟩) hS (fun _ h => h) (fun H locs hz74 hP hS => ?_)
          have hP : va_P D vwCl (mw ad cI cL cZ m_w m_h m_c m_s m_le m_un m_he m_ro m_wi u6.2.1 u6.2.2.1 u6.2.2.2.1 m_rn m_rw m_rh m_n m_l m_b m_to u6.2.2.2.2 m_ho m_tx m_ik m_wt m_ac m_ap m_pa m_im m_ri) H := hP
          subst hr
          exact ret_z hx hb hrt hlocks (by first | assumption | exact bz_ok (by assumption)) hP hS dX8_atHands_77
        · exact absurd (by decide) c65
      · have hr := (if_pos c37).symm.trans hr
        refine lv_iconst (v := 1) hx hb dX8_atHands_40 (by decide) ?_
        refine lv_goto (tgt := 60) hx hb dX8_atHands_41 (by decide) ?_
        refine lv_istore_n (lv' := [(3, .int 1), (2, .int (f_X8_tells p1 m_s m_l m_b m_ho)), (0, .ref (ad 0)), (1, .int p1)]) hx hb dX8_atHands_60 rfl hl (by decide) rfl (fun ls hl => ?_)
        refine lv_aload_n hx hb dX8_atHands_61 rfl (lv_at hl 2 rfl) ?_
        refine lv_iconst (v := 3) hx hb dX8_atHands_62 (by decide) ?_
        refine lv_iload_n hx hb dX8_atHands_63 rfl (lv_at hl 3 rfl) ?_
        refine lv_iload_n hx hb dX8_atHands_64 rfl (lv_at hl 0 rfl) ?_
        refine lv_if_eq (tgt := 72) hx hb dX8_atHands_65 (by decide) (fun c65 => ?_) (fun c65 => ?_)
        · exact absurd c65 (by decide)
        · refine lv_iconst (v := 3) hx hb dX8_atHands_68 (by decide) ?_
          refine lv_goto (tgt := 73) hx hb dX8_atHands_69 (by decide) ?_
          refine lv_lconst (v := 0) hx hb dX8_atHands_73 (by decide) ?_
          obtain ⟨u7, hu7⟩ : ∃ z, f_X8_finds 3 p1 3 0 = z := ⟨_, rfl⟩
          have hr := (bd_eq hu7).symm.trans hr
          refine go_z (ru_V (n := 4) ⟨hx, hb, hml, hown, hts⟩ hk hP (c_X8_finds l D cI cL cZ ad m_w m_h m_c m_s m_le m_un m_he m_ro m_wi m_hi m_hr m_hp m_rn m_rw m_rh m_n m_l m_b m_to m_hs m_ho m_tx m_ik m_wt m_ac m_ap m_pa m_im m_ri hAd 3 p1 3 0 _ hu7) (cwV 4 hts (gV q4_224 q4_226 qs4_6 q1_11 q4_227) rfl rfl rfl hd_X8_finds ⟨Nat.le_of_ble_eq_true rfl, Nat.le_of_ble_eq_true rfl⟩) (va_recv hk.1 hP (ci := 8) (q0 := 0) rfl rfl) rfl hl.1 rfl (Nat.le_of_ble_eq_true rfl) dX8_atHands_74 ⟨Nat.zero_le _, Nat.zero_le _⟩) hS (fun _ h => h) (fun H locs hz74 hP hS => ?_)
          have hP : va_P D vwCl (mw ad cI cL cZ m_w m_h m_c m_s m_le m_un m_he m_ro m_wi u7.2.1 u7.2.2.1 u7.2.2.2.1 m_rn m_rw m_rh m_n m_l m_b m_to u7.2.2.2.2 m_ho m_tx m_ik m_wt m_ac m_ap m_pa m_im m_ri) H := hP
          subst hr
          exact ret_z hx hb hrt hlocks (by first | assumption | exact bz_ok (by assumption)) hP hS dX8_atHands_77
theorem hd_X8_isAt : yX8_isAt.cls = RX8 ∧ yX8_isAt.cls ≠ "java/lang/invoke/MethodHandle" ∧ yX8_isAt.cls ≠ "java/lang/invoke/VarHandle" ∧ (parseMethodDescriptor yX8_isAt.desc).map (fun d => d.parameters.length) = some 2 := by decide +kernel
def f_X8_isAt (p1 : Int32) (p2 : Int32) (m_w : Int32) (m_h : Int32) (m_c : Int32) (m_s : Int32) (m_hi : Int32) (m_hr : Int32) (m_hp : Int32) (m_n : Int64) (m_l : Int64) (m_b : Int64) (m_hs : Int64) (m_ho : Nat → Int32) (m_ac : Nat → Int64) (m_ap : Nat → Int64) : Int32 × Int32 × Int32 × Int32 × Int64 := (if p1 = 0 then (bd (f_X8_atCells p2 m_s m_hi m_hr m_hp m_n m_l m_b m_hs m_ac) (fun u1 => (u1.1, u1.2.1, u1.2.2.1, u1.2.2.2.1, u1.2.2.2.2))) else (if p1 = 1 then (bd (f_X8_atPoints p2 m_s m_l m_b m_ap) (fun u2 => (u2.1, u2.2.1, u2.2.2.1, u2.2.2.2.1, u2.2.2.2.2))) else (if p1 = 2 then (bd (f_X8_atChains p2 m_w m_h m_c m_hi m_hr m_hp m_n m_l m_b m_hs m_ac m_ap) (fun u3 => (u3.1, u3.2.1, u3.2.2.1, u3.2.2.2.1, u3.2.2.2.2))) else (bd (f_X8_atHands p2 m_s m_l m_b m_ho) (fun u4 => (u4.1, u4.2.1, u4.2.2.1, u4.2.2.2.1, u4.2.2.2.2))))))
set_option maxHeartbeats 4000000 in
set_option maxRecDepth 100000 in
theorem c_X8_isAt (l : Launch) (D : va_G) (cI cL cZ : ClassId) (ad : Nat → Nat) (m_w m_h m_c m_s m_le m_un m_he m_ro m_wi m_hi m_hr m_hp m_rn m_rw m_rh : Int32) (m_n m_l m_b m_to m_hs : Int64) (m_ho m_tx m_ik m_wt : Nat → Int32) (m_ac m_ap m_pa m_im m_ri : Nat → Int64) (hAd : mInj ad) (p1 p2 : Int32) (r : Int32 × Int32 × Int32 × Int32 × Int64) (hr : f_X8_isAt p1 p2 m_w m_h m_c m_s m_hi m_hr m_hp m_n m_l m_b m_hs m_ho m_ac m_ap = r) (hg : mG m_w m_h m_c m_s) (hp : pB p1 p2 m_c m_s m_w m_h) : MZ l yX8_isAt (Cond.code yX8_isAt cX8_isAt 3 (some .boolean) :: W0) 4 97 D cI cL cZ (mAd ad) [.ref (ad 0), .int p1, .int p2] (mw ad cI cL cZ m_w m_h m_c m_s m_le m_un m_he m_ro m_wi m_hi m_hr m_hp m_rn m_rw m_rh m_n m_l m_b m_to m_hs m_ho m_tx m_ik m_wt m_ac m_ap m_pa m_im m_ri) r.1 (mw ad cI cL cZ m_w m_h m_c m_s m_le m_un m_he m_ro m_wi r.2.1 r.2.2.1 r.2.2.2.1 m_rn m_rw m_rh m_n m_l m_b m_to r.2.2.2.2 m_ho m_tx m_ik m_wt m_ac m_ap m_pa m_im m_ri) := by
  refine mk_start (cc := cX8_isAt) (maxL := 3) (ret := (some .boolean)) (by decide) rfl (Nat.le_of_ble_eq_true rfl) ?_
  intro p e s m below meth c ls C hP hS hl
  obtain ⟨hx, hb, hml, hrt, hlocks, hown, hts, hk⟩ := C
  have hown : s.vm.findClass RX8 = some m.cls := hown
  have hl : lv_has ls 3 [(0, .ref (ad 0)), (1, .int p1), (2, .int p2)] := hl
  rw [f_X8_isAt] at hr
  refine lv_iload_n hx hb dX8_isAt_0 rfl (lv_at hl 1 rfl) ?_
  by_cases c1_0 : p1 = 0
  · have hr := (if_pos c1_0).symm.trans hr
    refine lv_tableIn (tgt := 28) (off := 27) hx hb dX8_isAt_1 (by rw [c1_0]; decide) (by rw [c1_0]; decide) (by rw [c1_0]; rfl) (by decide) ?_
    refine lv_aload_n hx hb dX8_isAt_28 rfl (lv_at hl 0 rfl) ?_
    refine lv_iload_n hx hb dX8_isAt_29 rfl (lv_at hl 2 rfl) ?_
    obtain ⟨u1, hu1⟩ : ∃ z, f_X8_atCells p2 m_s m_hi m_hr m_hp m_n m_l m_b m_hs m_ac = z := ⟨_, rfl⟩
    have hr := (bd_eq hu1).symm.trans hr
    refine go_z (ru_V (n := 1) ⟨hx, hb, hml, hown, hts⟩ hk hP (c_X8_atCells l D cI cL cZ ad m_w m_h m_c m_s m_le m_un m_he m_ro m_wi m_hi m_hr m_hp m_rn m_rw m_rh m_n m_l m_b m_to m_hs m_ho m_tx m_ik m_wt m_ac m_ap m_pa m_im m_ri hAd p2 _ hu1 (pB_0 hg hp c1_0)) (cwV 1 hts (gV q4_209 q4_211 qs4_3 q1_11 q4_212) rfl rfl rfl hd_X8_atCells ⟨Nat.le_of_ble_eq_true rfl, Nat.le_of_ble_eq_true rfl⟩) (va_recv hk.1 hP (ci := 8) (q0 := 0) rfl rfl) rfl hl.1 rfl (Nat.le_of_ble_eq_true rfl) dX8_isAt_30 ⟨Nat.zero_le _, Nat.zero_le _⟩) hS (fun _ h => h) (fun H locs hz30 hP hS => ?_)
    have hP : va_P D vwCl (mw ad cI cL cZ m_w m_h m_c m_s m_le m_un m_he m_ro m_wi u1.2.1 u1.2.2.1 u1.2.2.2.1 m_rn m_rw m_rh m_n m_l m_b m_to u1.2.2.2.2 m_ho m_tx m_ik m_wt m_ac m_ap m_pa m_im m_ri) H := hP
    subst hr
    exact ret_z hx hb hrt hlocks (by first | assumption | exact bz_ok (by assumption)) hP hS dX8_isAt_33
  · have hr := (if_neg c1_0).symm.trans hr
    by_cases c1_1 : p1 = 1
    · have hr := (if_pos c1_1).symm.trans hr
      refine lv_tableIn (tgt := 34) (off := 33) hx hb dX8_isAt_1 (by rw [c1_1]; decide) (by rw [c1_1]; decide) (by rw [c1_1]; rfl) (by decide) ?_
      refine lv_aload_n hx hb dX8_isAt_34 rfl (lv_at hl 0 rfl) ?_
      refine lv_iload_n hx hb dX8_isAt_35 rfl (lv_at hl 2 rfl) ?_
      obtain ⟨u2, hu2⟩ : ∃ z, f_X8_atPoints p2 m_s m_l m_b m_ap = z := ⟨_, rfl⟩
      have hr := (bd_eq hu2).symm.trans hr
      refine go_z (ru_V (n := 1) ⟨hx, hb, hml, hown, hts⟩ hk hP (c_X8_atPoints l D cI cL cZ ad m_w m_h m_c m_s m_le m_un m_he m_ro m_wi m_hi m_hr m_hp m_rn m_rw m_rh m_n m_l m_b m_to m_hs m_ho m_tx m_ik m_wt m_ac m_ap m_pa m_im m_ri hAd p2 _ hu2 (pB_1 hg hp c1_1)) (cwV 1 hts (gV q4_228 q4_230 qs4_7 q1_11 q4_231) rfl rfl rfl hd_X8_atPoints ⟨Nat.le_of_ble_eq_true rfl, Nat.le_of_ble_eq_true rfl⟩) (va_recv hk.1 hP (ci := 8) (q0 := 0) rfl rfl) rfl hl.1 rfl (Nat.le_of_ble_eq_true rfl) dX8_isAt_36 ⟨Nat.zero_le _, Nat.zero_le _⟩) hS (fun _ h => h) (fun H locs hz36 hP hS => ?_)
      have hP : va_P D vwCl (mw ad cI cL cZ m_w m_h m_c m_s m_le m_un m_he m_ro m_wi u2.2.1 u2.2.2.1 u2.2.2.2.1 m_rn m_rw m_rh m_n m_l m_b m_to u2.2.2.2.2 m_ho m_tx m_ik m_wt m_ac m_ap m_pa m_im m_ri) H := hP
      subst hr
      exact ret_z hx hb hrt hlocks (by first | assumption | exact bz_ok (by assumption)) hP hS dX8_isAt_39
    · have hr := (if_neg c1_1).symm.trans hr
      by_cases c1_2 : p1 = 2
      · have hr := (if_pos c1_2).symm.trans hr
        refine lv_tableIn (tgt := 40) (off := 39) hx hb dX8_isAt_1 (by rw [c1_2]; decide) (by rw [c1_2]; decide) (by rw [c1_2]; rfl) (by decide) ?_
        refine lv_aload_n hx hb dX8_isAt_40 rfl (lv_at hl 0 rfl) ?_
        refine lv_iload_n hx hb dX8_isAt_41 rfl (lv_at hl 2 rfl) ?_
        obtain ⟨u3, hu3⟩ : ∃ z, f_X8_atChains p2 m_w m_h m_c m_hi m_hr m_hp m_n m_l m_b m_hs m_ac m_ap = z := ⟨_, rfl⟩
        have hr := (bd_eq hu3).symm.trans hr
        refine go_z (ru_V (n := 1) ⟨hx, hb, hml, hown, hts⟩ hk hP (c_X8_atChains l D cI cL cZ ad m_w m_h m_c m_s m_le m_un m_he m_ro m_wi m_hi m_hr m_hp m_rn m_rw m_rh m_n m_l m_b m_to m_hs m_ho m_tx m_ik m_wt m_ac m_ap m_pa m_im m_ri hAd p2 _ hu3 hg) (cwV 1 hts (gV q4_232 q4_234 qs4_8 q1_11 q4_235) rfl rfl rfl hd_X8_atChains ⟨Nat.le_of_ble_eq_true rfl, Nat.le_of_ble_eq_true rfl⟩) (va_recv hk.1 hP (ci := 8) (q0 := 0) rfl rfl) rfl hl.1 rfl (Nat.le_of_ble_eq_true rfl) dX8_isAt_42 ⟨Nat.zero_le _, Nat.zero_le _⟩) hS (fun _ h => h) (fun H locs hz42 hP hS => ?_)
        have hP : va_P D vwCl (mw ad cI cL cZ m_w m_h m_c m_s m_le m_un m_he m_ro m_wi u3.2.1 u3.2.2.1 u3.2.2.2.1 m_rn m_rw m_rh m_n m_l m_b m_to u3.2.2.2.2 m_ho m_tx m_ik m_wt m_ac m_ap m_pa m_im m_ri) H := hP
        subst hr
        exact ret_z hx hb hrt hlocks (by first | assumption | exact bz_ok (by assumption)) hP hS dX8_isAt_45
      · have hr := (if_neg c1_2).symm.trans hr
        refine lv_tableOut (tgt := 46) hx hb dX8_isAt_1 (sw_out3 c1_0 c1_1 c1_2) (by decide) ?_
        refine lv_aload_n hx hb dX8_isAt_46 rfl (lv_at hl 0 rfl) ?_
        refine lv_iload_n hx hb dX8_isAt_47 rfl (lv_at hl 2 rfl) ?_
        obtain ⟨u4, hu4⟩ : ∃ z, f_X8_atHands p2 m_s m_l m_b m_ho = z := ⟨_, rfl⟩
        have hr := (bd_eq hu4).symm.trans hr
        refine go_z (ru_V (n := 1) ⟨hx, hb, hml, hown, hts⟩ hk hP (c_X8_atHands l D cI cL cZ ad m_w m_h m_c m_s m_le m_un m_he m_ro m_wi m_hi m_hr m_hp m_rn m_rw m_rh m_n m_l m_b m_to m_hs m_ho m_tx m_ik m_wt m_ac m_ap m_pa m_im m_ri hAd p2 _ hu4 hg (pB_2 hg hp c1_0 c1_1)) (cwV 1 hts (gV q5_8 q5_10 qs4_12 q1_11 q5_11) rfl rfl rfl hd_X8_atHands ⟨Nat.le_of_ble_eq_true rfl, Nat.le_of_ble_eq_true rfl⟩) (va_recv hk.1 hP (ci := 8) (q0 := 0) rfl rfl) rfl hl.1 rfl (Nat.le_of_ble_eq_true rfl) dX8_isAt_48 ⟨Nat.zero_le _, Nat.zero_le _⟩) hS (fun _ h => h) (fun H locs hz48 hP hS => ?_)
        have hP : va_P D vwCl (mw ad cI cL cZ m_w m_h m_c m_s m_le m_un m_he m_ro m_wi u4.2.1 u4.2.2.1 u4.2.2.2.1 m_rn m_rw m_rh m_n m_l m_b m_to u4.2.2.2.2 m_ho m_tx m_ik m_wt m_ac m_ap m_pa m_im m_ri) H := hP
        subst hr
        exact ret_z hx hb hrt hlocks (by first | assumption | exact bz_ok (by assumption)) hP hS dX8_isAt_51
theorem hd_X8_hints : yX8_hints.cls = RX8 ∧ yX8_hints.cls ≠ "java/lang/invoke/MethodHandle" ∧ yX8_hints.cls ≠ "java/lang/invoke/VarHandle" ∧ (parseMethodDescriptor yX8_hints.desc).map (fun d => d.parameters.length) = some 0 := by decide +kernel
def F_X8_hints_37 (y1 : Int32) (y2 : Int32) (m_w : Int32) (m_h : Int32) (m_c : Int32) (m_s : Int32) (m_n : Int64) (m_l : Int64) (m_b : Int64) (m_ho : Nat → Int32) (m_ac : Nat → Int64) (m_ap : Nat → Int64) {β : Type} (k0 : Int32 → Int32 → Int32 → Int64 → β) (k1 : Int32 → Int32 → Int32 → Int64 → β) : Nat → Int32 → Int32 → Int32 → Int32 → Int64 → β
  | 0, x3, m_hi, m_hr, m_hp, m_hs => k0 m_hi m_hr m_hp m_hs
  | n + 1, x3, m_hi, m_hr, m_hp, m_hs => (if y2 ≤ x3 then k0 m_hi m_hr m_hp m_hs else (bd (f_X8_isAt y1 x3 m_w m_h m_c m_s m_hi m_hr m_hp m_n m_l m_b m_hs m_ho m_ac m_ap) (fun u1 => (if u1.1 = 0 then F_X8_hints_37 y1 y2 m_w m_h m_c m_s m_n m_l m_b m_ho m_ac m_ap k0 k1 n (x3 + 1) u1.2.1 u1.2.2.1 u1.2.2.2.1 u1.2.2.2.2 else k1 u1.2.1 u1.2.2.1 u1.2.2.2.1 u1.2.2.2.2))))
def F_X8_hints_2 (m_w : Int32) (m_h : Int32) (m_c : Int32) (m_s : Int32) (m_n : Int64) (m_l : Int64) (m_b : Int64) (m_ho : Nat → Int32) (m_ac : Nat → Int64) (m_ap : Nat → Int64) {β : Type} (k0 : Int32 → Int32 → Int32 → Int64 → β) (k1 : Int32 → Int32 → Int32 → Int64 → β) : Nat → Int32 → Int32 → Int32 → Int32 → Int64 → β
  | 0, x1, m_hi, m_hr, m_hp, m_hs => k0 m_hi m_hr m_hp m_hs
  | n + 1, x1, m_hi, m_hr, m_hp, m_hs => (if 4 ≤ x1 then k0 m_hi m_hr m_hp m_hs else (if x1 = 0 then F_X8_hints_37 x1 m_c m_w m_h m_c m_s m_n m_l m_b m_ho m_ac m_ap (fun z18 z19 z20 z21 => F_X8_hints_2 m_w m_h m_c m_s m_n m_l m_b m_ho m_ac m_ap k0 k1 n (x1 + 1) z18 z19 z20 z21) (fun z22 z23 z24 z25 => k1 z22 z23 z24 z25) (fu m_c (0 : Int32)) 0 m_hi m_hr m_hp m_hs else (if x1 = 1 then F_X8_hints_37 x1 (f_X8_points m_w m_h) m_w m_h m_c m_s m_n m_l m_b m_ho m_ac m_ap (fun z10 z11 z12 z13 => F_X8_hints_2 m_w m_h m_c m_s m_n m_l m_b m_ho m_ac m_ap k0 k1 n (x1 + 1) z10 z11 z12 z13) (fun z14 z15 z16 z17 => k1 z14 z15 z16 z17) (fu (f_X8_points m_w m_h) (0 : Int32)) 0 m_hi m_hr m_hp m_hs else F_X8_hints_37 x1 m_s m_w m_h m_c m_s m_n m_l m_b m_ho m_ac m_ap (fun z2 z3 z4 z5 => F_X8_hints_2 m_w m_h m_c m_s m_n m_l m_b m_ho m_ac m_ap k0 k1 n (x1 + 1) z2 z3 z4 z5) (fun z6 z7 z8 z9 => k1 z6 z7 z8 z9) (fu m_s (0 : Int32)) 0 m_hi m_hr m_hp m_hs)))
def f_X8_hints (m_w : Int32) (m_h : Int32) (m_c : Int32) (m_s : Int32) (m_hi : Int32) (m_hr : Int32) (m_hp : Int32) (m_n : Int64) (m_l : Int64) (m_b : Int64) (m_hs : Int64) (m_ho : Nat → Int32) (m_ac : Nat → Int64) (m_ap : Nat → Int64) : Int32 × Int32 × Int32 × Int64 := F_X8_hints_2 m_w m_h m_c m_s m_n m_l m_b m_ho m_ac m_ap (fun z26 z27 z28 z29 => (0, z27, z28, 0)) (fun z30 z31 z32 z33 => (z30, z31, z32, z33)) (fu 4 (0 : Int32)) 0 m_hi m_hr m_hp m_hs
set_option maxHeartbeats 4000000 in
set_option maxRecDepth 100000 in
theorem lp_X8_hints_37 (l : Launch) (D : va_G) (cI cL cZ : ClassId) (ad : Nat → Nat) (m_w m_h m_c m_s m_le m_un m_he m_ro m_wi m_rn m_rw m_rh : Int32) (m_n m_l m_b m_to : Int64) (m_ho m_tx m_ik m_wt : Nat → Int32) (m_ac m_ap m_pa m_im m_ri : Nat → Int64) {p : Program} {e : Env} {s : State} {m : MethodId} {args : Array Value} {below : List Frame} {meth : Method} {c : Code} {Q : State → Prop} (C : Cx p s m args meth c cX8_hints 4 none W0 RX8 D cI cL cZ) (hAd : mInj ad) (y1 y2 : Int32) (hg : mG m_w m_h m_c m_s) (hy : pY y1 y2 m_c m_s m_w m_h) {β : Type} (k0 : Int32 → Int32 → Int32 → Int64 → β) (k1 : Int32 → Int32 → Int32 → Int64 → β) (r : β)
    (h0 : ∀ (m_hi m_hr m_hp : Int32) (m_hs : Int64) (H : Heap) (locs : List Loc) (ls : Array Slot), k0 m_hi m_hr m_hp m_hs = r → va_P D vwCl (mw ad cI cL cZ m_w m_h m_c m_s m_le m_un m_he m_ro m_wi m_hi m_hr m_hp m_rn m_rw m_rh m_n m_l m_b m_to m_hs m_ho m_tx m_ik m_wt m_ac m_ap m_pa m_im m_ri) H → va_S (mAd ad) s.heap H locs → lv_has ls 4 [(0, .ref (ad 0)), (1, .int y1)] → W p l e (rmS 5 119) s m args below meth c H locs 0 0 Q (F0 m 58 ls []))
    (h1 : ∀ (m_hi m_hr m_hp : Int32) (m_hs : Int64) (H : Heap) (locs : List Loc) (ls : Array Slot), k1 m_hi m_hr m_hp m_hs = r → va_P D vwCl (mw ad cI cL cZ m_w m_h m_c m_s m_le m_un m_he m_ro m_wi m_hi m_hr m_hp m_rn m_rw m_rh m_n m_l m_b m_to m_hs m_ho m_tx m_ik m_wt m_ac m_ap m_pa m_im m_ri) H → va_S (mAd ad) s.heap H locs → lv_has ls 4 [] → W p l e (rmS 5 119) s m args below meth c H locs 0 0 Q (F0 m 51 ls [])) :
    ∀ (n : Nat) (x3 m_hi m_hr m_hp : Int32) (m_hs : Int64) (H : Heap) (locs : List Loc) (ls : Array Slot), fuU n y2 x3 → F_X8_hints_37 y1 y2 m_w m_h m_c m_s m_n m_l m_b m_ho m_ac m_ap k0 k1 n x3 m_hi m_hr m_hp m_hs = r → va_P D vwCl (mw ad cI cL cZ m_w m_h m_c m_s m_le m_un m_he m_ro m_wi m_hi m_hr m_hp m_rn m_rw m_rh m_n m_l m_b m_to m_hs m_ho m_tx m_ik m_wt m_ac m_ap m_pa m_im m_ri) H → va_S (mAd ad) s.heap H locs → lv_has ls 4 [(0, .ref (ad 0)), (1, .int y1), (2, .int y2), (3, .int x3)] → W p l e (rmS 5 119) s m args below meth c H locs 0 0 Q (F0 m 37 ls []) := by
  obtain ⟨hx, hb, hml, hrt, hlocks, hown, hts, hk⟩ := C
  intro n
  induction n with
  | zero =>
    intro x3 m_hi m_hr m_hp m_hs H locs ls hf
    exact absurd hf.1 (Nat.lt_irrefl 0)
  | succ n ih =>
    intro x3 m_hi m_hr m_hp m_hs H locs ls hf hr hP hS hl
    rw [F_X8_hints_37] at hr
    refine lv_iload_n hx hb dX8_hints_37 rfl (lv_at hl 3 rfl) ?_
    refine lv_iload_n hx hb dX8_hints_38 rfl (lv_at hl 2 rfl) ?_
    refine lv_icmp_ge (tgt := 58) hx hb dX8_hints_39 (by decide) (fun c39 => ?_) (fun c39 => ?_)
    · have hr := (if_pos c39).symm.trans hr
      exact h0 m_hi m_hr m_hp m_hs _ _ _ hr hP hS (lv_sub hl [0, 1] rfl)
    · have hr := (if_neg c39).symm.trans hr
      refine lv_aload_n hx hb dX8_hints_42 rfl (lv_at hl 0 rfl) ?_
      refine lv_iload_n hx hb dX8_hints_43 rfl (lv_at hl 1 rfl) ?_
      refine lv_iload_n hx hb dX8_hints_44 rfl (lv_at hl 3 rfl) ?_
      obtain ⟨u1, hu1⟩ : ∃ z, f_X8_isAt y1 x3 m_w m_h m_c m_s m_hi m_hr m_hp m_n m_l m_b m_hs m_ho m_ac m_ap = z := ⟨_, rfl⟩
      have hr := (bd_eq hu1).symm.trans hr
      refine go_z (ru_V (n := 2) ⟨hx, hb, hml, hown, hts⟩ hk hP (c_X8_isAt l D cI cL cZ ad m_w m_h m_c m_s m_le m_un m_he m_ro m_wi m_hi m_hr m_hp m_rn m_rw m_rh m_n m_l m_b m_to m_hs m_ho m_tx m_ik m_wt m_ac m_ap m_pa m_im m_ri hAd y1 x3 _ hu1 hg (pB_of hy hf.2.2 c39)) (cwV 2 hts (gV q4_205 q4_207 qs4_2 q1_11 q4_208) rfl rfl rfl hd_X8_isAt ⟨Nat.le_of_ble_eq_true rfl, Nat.le_of_ble_eq_true rfl⟩) (va_recv hk.1 hP (ci := 8) (q0 := 0) rfl rfl) rfl hl.1 rfl (Nat.le_of_ble_eq_true rfl) dX8_hints_45 ⟨Nat.zero_le _, Nat.zero_le _⟩) hS (fun _ h => h) (fun H locs hz45 hP hS => ?_)
      have hP : va_P D vwCl (mw ad cI cL cZ m_w m_h m_c m_s m_le m_un m_he m_ro m_wi u1.2.1 u1.2.2.1 u1.2.2.2.1 m_rn m_rw m_rh m_n m_l m_b m_to u1.2.2.2.2 m_ho m_tx m_ik m_wt m_ac m_ap m_pa m_im m_ri) H := hP
      refine lv_if_eq (tgt := 52) hx hb dX8_hints_48 (by decide) (fun c48 => ?_) (fun c48 => ?_)
      · have hr := (if_pos c48).symm.trans hr
        refine lv_iinc (v := x3 + 1) (lv' := [(3, .int (x3 + 1)), (0, .ref (ad 0)), (1, .int y1), (2, .int y2)]) hx hb dX8_hints_52 hl (k := 3) rfl rfl (by decide) rfl (fun ls hl => ?_)
        refine lv_goto (tgt := 37) hx hb dX8_hints_55 (by decide) ?_
        exact ih (x3 + 1) u1.2.1 u1.2.2.1 u1.2.2.2.1 u1.2.2.2.2 _ _ _ (fuU_s hf c39) hr hP hS (lv_sub hl [1, 2, 3, 0] rfl)
      · have hr := (if_neg c48).symm.trans hr
        exact h1 u1.2.1 u1.2.2.1 u1.2.2.2.1 u1.2.2.2.2 _ _ _ hr hP hS (lv_sub hl [] rfl)
set_option maxHeartbeats 4000000 in
set_option maxRecDepth 100000 in
theorem lp_X8_hints_2 (l : Launch) (D : va_G) (cI cL cZ : ClassId) (ad : Nat → Nat) (m_w m_h m_c m_s m_le m_un m_he m_ro m_wi m_rn m_rw m_rh : Int32) (m_n m_l m_b m_to : Int64) (m_ho m_tx m_ik m_wt : Nat → Int32) (m_ac m_ap m_pa m_im m_ri : Nat → Int64) {p : Program} {e : Env} {s : State} {m : MethodId} {args : Array Value} {below : List Frame} {meth : Method} {c : Code} {Q : State → Prop} (C : Cx p s m args meth c cX8_hints 4 none W0 RX8 D cI cL cZ) (hAd : mInj ad) (hg : mG m_w m_h m_c m_s) {β : Type} (k0 : Int32 → Int32 → Int32 → Int64 → β) (k1 : Int32 → Int32 → Int32 → Int64 → β) (r : β)
    (h0 : ∀ (m_hi m_hr m_hp : Int32) (m_hs : Int64) (H : Heap) (locs : List Loc) (ls : Array Slot), k0 m_hi m_hr m_hp m_hs = r → va_P D vwCl (mw ad cI cL cZ m_w m_h m_c m_s m_le m_un m_he m_ro m_wi m_hi m_hr m_hp m_rn m_rw m_rh m_n m_l m_b m_to m_hs m_ho m_tx m_ik m_wt m_ac m_ap m_pa m_im m_ri) H → va_S (mAd ad) s.heap H locs → lv_has ls 4 [(0, .ref (ad 0))] → W p l e (rmS 5 119) s m args below meth c H locs 0 0 Q (F0 m 64 ls []))
    (h1 : ∀ (m_hi m_hr m_hp : Int32) (m_hs : Int64) (H : Heap) (locs : List Loc) (ls : Array Slot), k1 m_hi m_hr m_hp m_hs = r → va_P D vwCl (mw ad cI cL cZ m_w m_h m_c m_s m_le m_un m_he m_ro m_wi m_hi m_hr m_hp m_rn m_rw m_rh m_n m_l m_b m_to m_hs m_ho m_tx m_ik m_wt m_ac m_ap m_pa m_im m_ri) H → va_S (mAd ad) s.heap H locs → lv_has ls 4 [] → W p l e (rmS 5 119) s m args below meth c H locs 0 0 Q (F0 m 51 ls [])) :
    ∀ (n : Nat) (x1 m_hi m_hr m_hp : Int32) (m_hs : Int64) (H : Heap) (locs : List Loc) (ls : Array Slot), fuU n 4 x1 → F_X8_hints_2 m_w m_h m_c m_s m_n m_l m_b m_ho m_ac m_ap k0 k1 n x1 m_hi m_hr m_hp m_hs = r → va_P D vwCl (mw ad cI cL cZ m_w m_h m_c m_s m_le m_un m_he m_ro m_wi m_hi m_hr m_hp m_rn m_rw m_rh m_n m_l m_b m_to m_hs m_ho m_tx m_ik m_wt m_ac m_ap m_pa m_im m_ri) H → va_S (mAd ad) s.heap H locs → lv_has ls 4 [(0, .ref (ad 0)), (1, .int x1)] → W p l e (rmS 5 119) s m args below meth c H locs 0 0 Q (F0 m 2 ls []) := by
  obtain ⟨hx, hb, hml, hrt, hlocks, hown, hts, hk⟩ := C
  intro n
  induction n with
  | zero =>
    intro x1 m_hi m_hr m_hp m_hs H locs ls hf
    exact absurd hf.1 (Nat.lt_irrefl 0)
  | succ n ih =>
    intro x1 m_hi m_hr m_hp m_hs H locs ls hf hr hP hS hl
    rw [F_X8_hints_2] at hr
    refine lv_iload_n hx hb dX8_hints_2 rfl (lv_at hl 1 rfl) ?_
    refine lv_iconst (v := 4) hx hb dX8_hints_3 (by decide) ?_
    refine lv_icmp_ge (tgt := 64) hx hb dX8_hints_4 (by decide) (fun c4 => ?_) (fun c4 => ?_)
    · have hr := (if_pos c4).symm.trans hr
      exact h0 m_hi m_hr m_hp m_hs _ _ _ hr hP hS (lv_sub hl [0] rfl)
    · have hr := (if_neg c4).symm.trans hr
      refine lv_iload_n hx hb dX8_hints_7 rfl (lv_at hl 1 rfl) ?_
      refine lv_if_ne (tgt := 18) hx hb dX8_hints_8 (by decide) (fun c8 => ?_) (fun c8 => ?_)
      · have hr := (if_neg c8).symm.trans hr
        refine lv_iload_n hx hb dX8_hints_18 rfl (lv_at hl 1 rfl) ?_
        refine lv_iconst (v := 1) hx hb dX8_hints_19 (by decide) ?_
        refine lv_icmp_ne (tgt := 30) hx hb dX8_hints_20 (by decide) (fun c20 => ?_) (fun c20 => ?_)
        · have hr := (if_neg c20).symm.trans hr
          refine lv_aload_n hx hb dX8_hints_30 rfl (lv_at hl 0 rfl) ?_
          refine va_get (D := D) (ci := 8) (v := .int m_s) (C := RX8) (T := TX8) (N := 29) hx hb hts u_X8 hown hk.1 hP 0 rfl rfl 6 (by decide) (hts _ q4_18) (fun _ h9 => h9) rfl dX8_hints_31 ?_
          refine lv_istore_n (lv' := [(2, .int m_s), (0, .ref (ad 0)), (1, .int x1)]) hx hb dX8_hints_34 rfl hl (by decide) rfl (fun ls hl => ?_)
          refine lv_iconst (v := 0) hx hb dX8_hints_35 (by decide) ?_
          refine lv_istore_n (lv' := [(3, .int 0), (2, .int m_s), (0, .ref (ad 0)), (1, .int x1)]) hx hb dX8_hints_36 rfl hl (by decide) rfl (fun ls hl => ?_)
          refine lp_X8_hints_37 l D cI cL cZ ad m_w m_h m_c m_s m_le m_un m_he m_ro m_wi m_rn m_rw m_rh m_n m_l m_b m_to m_ho m_tx m_ik m_wt m_ac m_ap m_pa m_im m_ri ⟨hx, hb, hml, hrt, hlocks, hown, hts, hk⟩ hAd x1 m_s hg (by first | exact pY_0 c8 | exact pY_1 c20 | exact pY_2 c8 c20) _ _ _ (fun z2 z3 z4 z5 H locs ls hr hP hS hl => ?_) (fun z6 z7 z8 z9 H locs ls hr hP hS hl => ?_) (fu m_s (0 : Int32)) 0 m_hi m_hr m_hp m_hs _ _ _ (fuU_0 (by decide)) hr hP hS (lv_sub hl [2, 3, 1, 0] rfl)
          · refine lv_iinc (v := x1 + 1) (lv' := [(1, .int (x1 + 1)), (0, .ref (ad 0))]) hx hb dX8_hints_58 hl (k := 1) rfl rfl (by decide) rfl (fun ls hl => ?_)
            refine lv_goto (tgt := 2) hx hb dX8_hints_61 (by decide) ?_
            exact ih (x1 + 1) z2 z3 z4 z5 _ _ _ (fuU_s hf c4) hr hP hS (lv_sub hl [1, 0] rfl)
          · exact h1 z6 z7 z8 z9 _ _ _ hr hP hS (lv_sub hl [] rfl)
        · have hr := (if_pos c20).symm.trans hr
          refine lv_aload_n hx hb dX8_hints_23 rfl (lv_at hl 0 rfl) ?_
          refine go_i (ru_V (n := 0) ⟨hx, hb, hml, hown, hts⟩ hk hP (c_X8_points l D cI cL cZ ad m_w m_h m_c m_s m_le m_un m_he m_ro m_wi m_hi m_hr m_hp m_rn m_rw m_rh m_n m_l m_b m_to m_hs m_ho m_tx m_ik m_wt m_ac m_ap m_pa m_im m_ri hAd _ rfl) (cwV 0 hts (gV q4_160 q4_162 qs3_11 q1_11 q4_163) rfl rfl rfl hd_X8_points ⟨Nat.le_of_ble_eq_true rfl, Nat.le_of_ble_eq_true rfl⟩) (va_recv hk.1 hP (ci := 8) (q0 := 0) rfl rfl) rfl hl.1 rfl (Nat.le_of_ble_eq_true rfl) dX8_hints_24 ⟨Nat.zero_le _, Nat.zero_le _⟩) hS (fun _ h => h) (fun H locs hP hS => ?_)
          have hP : va_P D vwCl (mw ad cI cL cZ m_w m_h m_c m_s m_le m_un m_he m_ro m_wi m_hi m_hr m_hp m_rn m_rw m_rh m_n m_l m_b m_to m_hs m_ho m_tx m_ik m_wt m_ac m_ap m_pa m_im m_ri) H := hP
          refine lv_goto (tgt := 34) hx hb dX8_hints_27 (by decide) ?_
          refine lv_istore_n (lv' := [(2, .int (f_X8_points m_w m_h)), (0, .ref (ad 0)), (1, .int x1)]) hx hb dX8_hints_34 rfl hl (by decide) rfl (fun ls hl => ?_)
          refine lv_iconst (v := 0) hx hb dX8_hints_35 (by decide) ?_
          refine lv_istore_n (lv' := [(3, .int 0), (2, .int (f_X8_points m_w m_h)), (0, .ref (ad 0)), (1, .int x1)]) hx hb dX8_hints_36 rfl hl (by decide) rfl (fun ls hl => ?_)
          refine lp_X8_hints_37 l D cI cL cZ ad m_w m_h m_c m_s m_le m_un m_he m_ro m_wi m_rn m_rw m_rh m_n m_l m_b m_to m_ho m_tx m_ik m_wt m_ac m_ap m_pa m_im m_ri ⟨hx, hb, hml, hrt, hlocks, hown, hts, hk⟩ hAd x1 (f_X8_points m_w m_h) hg (by first | exact pY_0 c8 | exact pY_1 c20 | exact pY_2 c8 c20) _ _ _ (fun z10 z11 z12 z13 H locs ls hr hP hS hl => ?_) (fun z14 z15 z16 z17 H locs ls hr hP hS hl => ?_) (fu (f_X8_points m_w m_h) (0 : Int32)) 0 m_hi m_hr m_hp m_hs _ _ _ (fuU_0 (by decide)) hr hP hS (lv_sub hl [2, 3, 1, 0] rfl)
          · refine lv_iinc (v := x1 + 1) (lv' := [(1, .int (x1 + 1)), (0, .ref (ad 0))]) hx hb dX8_hints_58 hl (k := 1) rfl rfl (by decide) rfl (fun ls hl => ?_)
            refine lv_goto (tgt := 2) hx hb dX8_hints_61 (by decide) ?_
            exact ih (x1 + 1) z10 z11 z12 z13 _ _ _ (fuU_s hf c4) hr hP hS (lv_sub hl [1, 0] rfl)
          · exact h1 z14 z15 z16 z17 _ _ _ hr hP hS (lv_sub hl [] rfl)
      · have hr := (if_pos c8).symm.trans hr
        refine lv_aload_n hx hb dX8_hints_11 rfl (lv_at hl 0 rfl) ?_
        refine va_get (D := D) (ci := 8) (v := .int m_c) (C := RX8) (T := TX8) (N := 29) hx hb hts u_X8 hown hk.1 hP 0 rfl rfl 5 (by decide) (hts _ q4_17) (fun _ h9 => h9) rfl dX8_hints_12 ?_
        refine lv_goto (tgt := 34) hx hb dX8_hints_15 (by decide) ?_
        refine lv_istore_n (lv' := [(2, .int m_c), (0, .ref (ad 0)), (1, .int x1)]) hx hb dX8_hints_34 rfl hl (by decide) rfl (fun ls hl => ?_)
        refine lv_iconst (v := 0) hx hb dX8_hints_35 (by decide) ?_
        refine lv_istore_n (lv' := [(3, .int 0), (2, .int m_c), (0, .ref (ad 0)), (1, .int x1)]) hx hb dX8_hints_36 rfl hl (by decide) rfl (fun ls hl => ?_)
        refine lp_X8_hints_37 l D cI cL cZ ad m_w m_h m_c m_s m_le m_un m_he m_ro m_wi m_rn m_rw m_rh m_n m_l m_b m_to m_ho m_tx m_ik m_wt m_ac m_ap m_pa m_im m_ri ⟨hx, hb, hml, hrt, hlocks, hown, hts, hk⟩ hAd x1 m_c hg (by first | exact pY_0 c8 | exact pY_1 c20 | exact pY_2 c8 c20) _ _ _ (fun z18 z19 z20 z21 H locs ls hr hP hS hl => ?_) (fun z22 z23 z24 z25 H locs ls hr hP hS hl => ?_) (fu m_c (0 : Int32)) 0 m_hi m_hr m_hp m_hs _ _ _ (fuU_0 (by decide)) hr hP hS (lv_sub hl [2, 3, 1, 0] rfl)
        · refine lv_iinc (v := x1 + 1) (lv' := [(1, .int (x1 + 1)), (0, .ref (ad 0))]) hx hb dX8_hints_58 hl (k := 1) rfl rfl (by decide) rfl (fun ls hl => ?_)
          refine lv_goto (tgt := 2) hx hb dX8_hints_61 (by decide) ?_
          exact ih (x1 + 1) z18 z19 z20 z21 _ _ _ (fuU_s hf c4) hr hP hS (lv_sub hl [1, 0] rfl)
        · exact h1 z22 z23 z24 z25 _ _ _ hr hP hS (lv_sub hl [] rfl)
set_option maxHeartbeats 4000000 in
set_option maxRecDepth 100000 in
theorem c_X8_hints (l : Launch) (D : va_G) (cI cL cZ : ClassId) (ad : Nat → Nat) (m_w m_h m_c m_s m_le m_un m_he m_ro m_wi m_hi m_hr m_hp m_rn m_rw m_rh : Int32) (m_n m_l m_b m_to m_hs : Int64) (m_ho m_tx m_ik m_wt : Nat → Int32) (m_ac m_ap m_pa m_im m_ri : Nat → Int64) (hAd : mInj ad) (r : Int32 × Int32 × Int32 × Int64) (hr : f_X8_hints m_w m_h m_c m_s m_hi m_hr m_hp m_n m_l m_b m_hs m_ho m_ac m_ap = r) (hg : mG m_w m_h m_c m_s) : MV l yX8_hints (Cond.code yX8_hints cX8_hints 4 none :: W0) 5 119 D cI cL cZ (mAd ad) [.ref (ad 0)] (mw ad cI cL cZ m_w m_h m_c m_s m_le m_un m_he m_ro m_wi m_hi m_hr m_hp m_rn m_rw m_rh m_n m_l m_b m_to m_hs m_ho m_tx m_ik m_wt m_ac m_ap m_pa m_im m_ri) (mw ad cI cL cZ m_w m_h m_c m_s m_le m_un m_he m_ro m_wi r.1 r.2.1 r.2.2.1 m_rn m_rw m_rh m_n m_l m_b m_to r.2.2.2 m_ho m_tx m_ik m_wt m_ac m_ap m_pa m_im m_ri) := by
  refine mk_start (cc := cX8_hints) (maxL := 4) (ret := none) (by decide) rfl (Nat.le_of_ble_eq_true rfl) ?_
  intro p e s m below meth c ls C hP hS hl
  obtain ⟨hx, hb, hml, hrt, hlocks, hown, hts, hk⟩ := C
  have hown : s.vm.findClass RX8 = some m.cls := hown
  have hl : lv_has ls 4 [(0, .ref (ad 0))] := hl
  rw [f_X8_hints] at hr
  refine lv_iconst (v := 0) hx hb dX8_hints_0 (by decide) ?_
  refine lv_istore_n (lv' := [(1, .int 0), (0, .ref (ad 0))]) hx hb dX8_hints_1 rfl hl (by decide) rfl (fun ls hl => ?_)
  refine lp_X8_hints_2 l D cI cL cZ ad m_w m_h m_c m_s m_le m_un m_he m_ro m_wi m_rn m_rw m_rh m_n m_l m_b m_to m_ho m_tx m_ik m_wt m_ac m_ap m_pa m_im m_ri ⟨hx, hb, hml, hrt, hlocks, hown, hts, hk⟩ hAd hg _ _ _ (fun z26 z27 z28 z29 H locs ls hr hP hS hl => ?_) (fun z30 z31 z32 z33 H locs ls hr hP hS hl => ?_) (fu 4 (0 : Int32)) 0 m_hi m_hr m_hp m_hs _ _ _ (fuU_0 (by decide)) hr hP hS (lv_sub hl [1, 0] rfl)
  · refine lv_aload_n hx hb dX8_hints_64 rfl (lv_at hl 0 rfl) ?_
    refine lv_iconst (v := 0) hx hb dX8_hints_65 (by decide) ?_
    refine va_put (D := D) (ci := 8) (v := .int 0) (ty := .int) (C := RX8) (T := TX8) (N := 29) hx hb hts u_X8 tyX8 tyX8_ok nmX8 hown hk.1 hP (mw_D hAd) hS 0 rfl rfl 20 (by decide) (hts _ q4_32) (fun _ h9 => h9) rfl (tyX8_ok 20 (by decide)) rfl rfl (Nat.le_of_ble_eq_true rfl) dX8_hints_66 (fun H locs hP _ hS => ?_)
    have hP : va_P D vwCl (mw ad cI cL cZ m_w m_h m_c m_s m_le m_un m_he m_ro m_wi 0 z27 z28 m_rn m_rw m_rh m_n m_l m_b m_to z29 m_ho m_tx m_ik m_wt m_ac m_ap m_pa m_im m_ri) H := hP
    refine lv_aload_n hx hb dX8_hints_69 rfl (lv_at hl 0 rfl) ?_
    refine lv_lconst (v := 0) hx hb dX8_hints_70 (by decide) ?_
    refine va_put (D := D) (ci := 8) (v := .long 0) (ty := .long) (C := RX8) (T := TX8) (N := 29) hx hb hts u_X8 tyX8 tyX8_ok nmX8 hown hk.1 hP (mw_D hAd) hS 0 rfl rfl 23 (by decide) (hts _ q4_35) (fun _ h9 => h9) rfl (tyX8_ok 23 (by decide)) rfl rfl (Nat.le_of_ble_eq_true rfl) dX8_hints_71 (fun H locs hP _ hS => ?_)
    have hP : va_P D vwCl (mw ad cI cL cZ m_w m_h m_c m_s m_le m_un m_he m_ro m_wi 0 z27 z28 m_rn m_rw m_rh m_n m_l m_b m_to 0 m_ho m_tx m_ik m_wt m_ac m_ap m_pa m_im m_ri) H := hP
    subst hr
    exact ret_v hx hb hrt hlocks hP hS dX8_hints_74
  · subst hr
    exact ret_v hx hb hrt hlocks hP hS dX8_hints_51
theorem hd_X8_step : yX8_step.cls = RX8 ∧ yX8_step.cls ≠ "java/lang/invoke/MethodHandle" ∧ yX8_step.cls ≠ "java/lang/invoke/VarHandle" ∧ (parseMethodDescriptor yX8_step.desc).map (fun d => d.parameters.length) = some 0 := by decide +kernel
def f_X8_step (m_w : Int32) (m_h : Int32) (m_c : Int32) (m_s : Int32) (m_un : Int32) (m_hi : Int32) (m_hr : Int32) (m_hp : Int32) (m_n : Int64) (m_l : Int64) (m_b : Int64) (m_hs : Int64) (m_ho : Nat → Int32) (m_ac : Nat → Int64) (m_ap : Nat → Int64) (m_pa : Nat → Int64) : Int32 × Int32 × Int32 × Int32 × Int32 × Int64 × Int64 × Int64 × (Nat → Int64) := (bd (f_X8_hints m_w m_h m_c m_s m_hi m_hr m_hp m_n m_l m_b m_hs m_ho m_ac m_ap) (fun u1 => (if u1.1 = 0 then (if u1.1 = 0 then ((-2), m_un, u1.1, u1.2.1, u1.2.2.1, m_l, m_b, u1.2.2.2, m_pa) else ((-4), m_un, u1.1, u1.2.1, u1.2.2.1, m_l, m_b, u1.2.2.2, m_pa)) else (if u1.1 = 3 then (if u1.1 = 0 then ((-2), m_un, u1.1, u1.2.1, u1.2.2.1, m_l, m_b, u1.2.2.2, m_pa) else ((-4), m_un, u1.1, u1.2.1, u1.2.2.1, m_l, m_b, u1.2.2.2, m_pa)) else (bd (f_X8_minds m_un m_n m_l m_b m_pa) (fun u2 => (if u1.1 = 1 then (bd (f_X8_sets u1.2.2.2 2 m_l m_b) (fun u4 => (f_X8_ones u1.2.2.2, u2.1, u1.1, u1.2.1, u1.2.2.1, u4.1, u4.2, u1.2.2.2, u2.2))) else (bd (f_X8_sets u1.2.2.2 1 m_l m_b) (fun u3 => (f_X8_ones u1.2.2.2, u2.1, u1.1, u1.2.1, u1.2.2.1, u3.1, u3.2, u1.2.2.2, u2.2))))))))))
set_option maxHeartbeats 4000000 in
set_option maxRecDepth 100000 in
theorem c_X8_step (l : Launch) (D : va_G) (cI cL cZ : ClassId) (ad : Nat → Nat) (m_w m_h m_c m_s m_le m_un m_he m_ro m_wi m_hi m_hr m_hp m_rn m_rw m_rh : Int32) (m_n m_l m_b m_to m_hs : Int64) (m_ho m_tx m_ik m_wt : Nat → Int32) (m_ac m_ap m_pa m_im m_ri : Nat → Int64) (hAd : mInj ad) (r : Int32 × Int32 × Int32 × Int32 × Int32 × Int64 × Int64 × Int64 × (Nat → Int64)) (hr : f_X8_step m_w m_h m_c m_s m_un m_hi m_hr m_hp m_n m_l m_b m_hs m_ho m_ac m_ap m_pa = r) (hg : mG m_w m_h m_c m_s) (hu0 : 0 ≤ m_un.toInt) (hu : m_un.toInt ≤ 10) : MI l yX8_step (Cond.code yX8_step cX8_step 1 (some .int) :: W0) 6 142 D cI cL cZ (mAd ad) [.ref (ad 0)] (mw ad cI cL cZ m_w m_h m_c m_s m_le m_un m_he m_ro m_wi m_hi m_hr m_hp m_rn m_rw m_rh m_n m_l m_b m_to m_hs m_ho m_tx m_ik m_wt m_ac m_ap m_pa m_im m_ri) r.1 (mw ad cI cL cZ m_w m_h m_c m_s m_le r.2.1 m_he m_ro m_wi r.2.2.1 r.2.2.2.1 r.2.2.2.2.1 m_rn m_rw m_rh m_n r.2.2.2.2.2.1 r.2.2.2.2.2.2.1 m_to r.2.2.2.2.2.2.2.1 m_ho m_tx m_ik m_wt m_ac m_ap r.2.2.2.2.2.2.2.2 m_im m_ri) := by
  refine mk_start (cc := cX8_step) (maxL := 1) (ret := (some .int)) (by decide) rfl (Nat.le_of_ble_eq_true rfl) ?_
  intro p e s m below meth c ls C hP hS hl
  obtain ⟨hx, hb, hml, hrt, hlocks, hown, hts, hk⟩ := C
  have hown : s.vm.findClass RX8 = some m.cls := hown
  have hl : lv_has ls 1 [(0, .ref (ad 0))] := hl
  rw [f_X8_step] at hr
  refine lv_aload_n hx hb dX8_step_0 rfl (lv_at hl 0 rfl) ?_
  obtain ⟨u1, hu1⟩ : ∃ z, f_X8_hints m_w m_h m_c m_s m_hi m_hr m_hp m_n m_l m_b m_hs m_ho m_ac m_ap = z := ⟨_, rfl⟩
  have hr := (bd_eq hu1).symm.trans hr
  refine go_v (ru_V (n := 0) ⟨hx, hb, hml, hown, hts⟩ hk hP (c_X8_hints l D cI cL cZ ad m_w m_h m_c m_s m_le m_un m_he m_ro m_wi m_hi m_hr m_hp m_rn m_rw m_rh m_n m_l m_b m_to m_hs m_ho m_tx m_ik m_wt m_ac m_ap m_pa m_im m_ri hAd _ hu1 hg) (cwV 0 hts (gV q4_201 q4_203 qs4_1 q1_11 q4_204) rfl rfl rfl hd_X8_hints ⟨Nat.le_of_ble_eq_true rfl, Nat.le_of_ble_eq_true rfl⟩) (va_recv hk.1 hP (ci := 8) (q0 := 0) rfl rfl) rfl hl.1 rfl (Nat.le_of_ble_eq_true rfl) dX8_step_1 ⟨Nat.zero_le _, Nat.zero_le _⟩) hS (fun _ h => h) (fun H locs hP hS => ?_)
  have hP : va_P D vwCl (mw ad cI cL cZ m_w m_h m_c m_s m_le m_un m_he m_ro m_wi u1.1 u1.2.1 u1.2.2.1 m_rn m_rw m_rh m_n m_l m_b m_to u1.2.2.2 m_ho m_tx m_ik m_wt m_ac m_ap m_pa m_im m_ri) H := hP
  refine lv_aload_n hx hb dX8_step_4 rfl (lv_at hl 0 rfl) ?_
  refine va_get (D := D) (ci := 8) (v := .int u1.1) (C := RX8) (T := TX8) (N := 29) hx hb hts u_X8 hown hk.1 hP 0 rfl rfl 20 (by decide) (hts _ q4_32) (fun _ h9 => h9) rfl dX8_step_5 ?_
  refine lv_if_eq (tgt := 19) hx hb dX8_step_8 (by decide) (fun c8 => ?_) (fun c8 => ?_)
  · have hr := (if_pos c8).symm.trans hr
    refine lv_aload_n hx hb dX8_step_19 rfl (lv_at hl 0 rfl) ?_
    refine va_get (D := D) (ci := 8) (v := .int u1.1) (C := RX8) (T := TX8) (N := 29) hx hb hts u_X8 hown hk.1 hP 0 rfl rfl 20 (by decide) (hts _ q4_32) (fun _ h9 => h9) rfl dX8_step_20 ?_
    refine lv_if_ne (tgt := 31) hx hb dX8_step_23 (by decide) (fun c23 => ?_) (fun c23 => ?_)
    · have hr := (if_neg c23).symm.trans hr
      refine lv_bipush (v := (-4)) hx hb dX8_step_31 (by decide) ?_
      subst hr
      exact ret_i hx hb hrt hlocks hP hS dX8_step_33
    · have hr := (if_pos c23).symm.trans hr
      refine lv_bipush (v := (-2)) hx hb dX8_step_26 (by decide) ?_
      refine lv_goto (tgt := 33) hx hb dX8_step_28 (by decide) ?_
      subst hr
      exact ret_i hx hb hrt hlocks hP hS dX8_step_33
  · have hr := (if_neg c8).symm.trans hr
    refine lv_aload_n hx hb dX8_step_11 rfl (lv_at hl 0 rfl) ?_
    refine va_get (D := D) (ci := 8) (v := .int u1.1) (C := RX8) (T := TX8) (N := 29) hx hb hts u_X8 hown hk.1 hP 0 rfl rfl 20 (by decide) (hts _ q4_32) (fun _ h9 => h9) rfl dX8_step_12 ?_
    refine lv_iconst (v := 3) hx hb dX8_step_15 (by decide) ?_
    refine lv_icmp_ne (tgt := 34) hx hb dX8_step_16 (by decide) (fun c16 => ?_) (fun c16 => ?_)
    · have hr := (if_neg c16).symm.trans hr
      refine lv_aload_n hx hb dX8_step_34 rfl (lv_at hl 0 rfl) ?_
      obtain ⟨u2, hu2⟩ : ∃ z, f_X8_minds m_un m_n m_l m_b m_pa = z := ⟨_, rfl⟩
      have hr := (bd_eq hu2).symm.trans hr
      refine go_v (ru_V (n := 0) ⟨hx, hb, hml, hown, hts⟩ hk hP (c_X8_minds l D cI cL cZ ad m_w m_h m_c m_s m_le m_un m_he m_ro m_wi u1.1 u1.2.1 u1.2.2.1 m_rn m_rw m_rh m_n m_l m_b m_to u1.2.2.2 m_ho m_tx m_ik m_wt m_ac m_ap m_pa m_im m_ri hAd _ hu2 hu0 hu) (cwV 0 hts (gV q4_179 q4_181 qs3_14 q1_11 q4_182) rfl rfl rfl hd_X8_minds ⟨Nat.le_of_ble_eq_true rfl, Nat.le_of_ble_eq_true rfl⟩) (va_recv hk.1 hP (ci := 8) (q0 := 0) rfl rfl) rfl hl.1 rfl (Nat.le_of_ble_eq_true rfl) dX8_step_35 ⟨Nat.zero_le _, Nat.zero_le _⟩) hS (fun _ h => h) (fun H locs hP hS => ?_)
      have hP : va_P D vwCl (mw ad cI cL cZ m_w m_h m_c m_s m_le u2.1 m_he m_ro m_wi u1.1 u1.2.1 u1.2.2.1 m_rn m_rw m_rh m_n m_l m_b m_to u1.2.2.2 m_ho m_tx m_ik m_wt m_ac m_ap u2.2 m_im m_ri) H := hP
      refine lv_aload_n hx hb dX8_step_38 rfl (lv_at hl 0 rfl) ?_
      refine lv_aload_n hx hb dX8_step_39 rfl (lv_at hl 0 rfl) ?_
      refine va_get (D := D) (ci := 8) (v := .long u1.2.2.2) (C := RX8) (T := TX8) (N := 29) hx hb hts u_X8 hown hk.1 hP 0 rfl rfl 23 (by decide) (hts _ q4_35) (fun _ h9 => h9) rfl dX8_step_40 ?_
      refine lv_aload_n hx hb dX8_step_43 rfl (lv_at hl 0 rfl) ?_
      refine va_get (D := D) (ci := 8) (v := .int u1.1) (C := RX8) (T := TX8) (N := 29) hx hb hts u_X8 hown hk.1 hP 0 rfl rfl 20 (by decide) (hts _ q4_32) (fun _ h9 => h9) rfl dX8_step_44 ?_
      refine lv_iconst (v := 1) hx hb dX8_step_47 (by decide) ?_
      refine lv_icmp_ne (tgt := 55) hx hb dX8_step_48 (by decide) (fun c48 => ?_) (fun c48 => ?_)
      · have hr := (if_neg c48).symm.trans hr
        refine lv_iconst (v := 1) hx hb dX8_step_55 (by decide) ?_
        obtain ⟨u3, hu3⟩ : ∃ z, f_X8_sets u1.2.2.2 1 m_l m_b = z := ⟨_, rfl⟩
        have hr := (bd_eq hu3).symm.trans hr
        refine go_v (ru_V (n := 2) ⟨hx, hb, hml, hown, hts⟩ hk hP (c_X8_sets l D cI cL cZ ad m_w m_h m_c m_s m_le u2.1 m_he m_ro m_wi u1.1 u1.2.1 u1.2.2.1 m_rn m_rw m_rh m_n m_l m_b m_to u1.2.2.2 m_ho m_tx m_ik m_wt m_ac m_ap u2.2 m_im m_ri hAd u1.2.2.2 1 _ hu3) (cwV 2 hts (gV q4_183 q4_185 qs3_15 q1_11 q4_186) rfl rfl rfl hd_X8_sets ⟨Nat.le_of_ble_eq_true rfl, Nat.le_of_ble_eq_true rfl⟩) (va_recv hk.1 hP (ci := 8) (q0 := 0) rfl rfl) rfl hl.1 rfl (Nat.le_of_ble_eq_true rfl) dX8_step_56 ⟨Nat.zero_le _, Nat.zero_le _⟩) hS (fun _ h => h) (fun H locs hP hS => ?_)
        have hP : va_P D vwCl (mw ad cI cL cZ m_w m_h m_c m_s m_le u2.1 m_he m_ro m_wi u1.1 u1.2.1 u1.2.2.1 m_rn m_rw m_rh m_n u3.1 u3.2 m_to u1.2.2.2 m_ho m_tx m_ik m_wt m_ac m_ap u2.2 m_im m_ri) H := hP
        refine lv_aload_n hx hb dX8_step_59 rfl (lv_at hl 0 rfl) ?_
        refine va_get (D := D) (ci := 8) (v := .long u1.2.2.2) (C := RX8) (T := TX8) (N := 29) hx hb hts u_X8 hown hk.1 hP 0 rfl rfl 23 (by decide) (hts _ q4_35) (fun _ h9 => h9) rfl dX8_step_60 ?_
        refine go_i (ru_S (n := 1) ⟨hx, hb, hml, hown, hts⟩ hk hP (c_X8_ones l D cI cL cZ (mAd ad) (mw ad cI cL cZ m_w m_h m_c m_s m_le u2.1 m_he m_ro m_wi u1.1 u1.2.1 u1.2.2.1 m_rn m_rw m_rh m_n u3.1 u3.2 m_to u1.2.2.2 m_ho m_tx m_ik m_wt m_ac m_ap u2.2 m_im m_ri) u1.2.2.2 _ rfl) (va_cwS 1 hts (gS q4_213 q4_214 q1_11 q4_215) rfl rfl rfl hd_X8_ones ⟨Nat.le_of_ble_eq_true rfl, Nat.le_of_ble_eq_true rfl⟩) rfl hl.1 rfl (Nat.le_of_ble_eq_true rfl) dX8_step_63 ⟨Nat.zero_le _, Nat.zero_le _⟩) hS (fun _ h => h) (fun H locs hP hS => ?_)
        have hP : va_P D vwCl (mw ad cI cL cZ m_w m_h m_c m_s m_le u2.1 m_he m_ro m_wi u1.1 u1.2.1 u1.2.2.1 m_rn m_rw m_rh m_n u3.1 u3.2 m_to u1.2.2.2 m_ho m_tx m_ik m_wt m_ac m_ap u2.2 m_im m_ri) H := hP
        subst hr
        exact ret_i hx hb hrt hlocks hP hS dX8_step_66
      · have hr := (if_pos c48).symm.trans hr
        refine lv_iconst (v := 2) hx hb dX8_step_51 (by decide) ?_
        refine lv_goto (tgt := 56) hx hb dX8_step_52 (by decide) ?_
        obtain ⟨u4, hu4⟩ : ∃ z, f_X8_sets u1.2.2.2 2 m_l m_b = z := ⟨_, rfl⟩
        have hr := (bd_eq hu4).symm.trans hr
        refine go_v (ru_V (n := 2) ⟨hx, hb, hml, hown, hts⟩ hk hP (c_X8_sets l D cI cL cZ ad m_w m_h m_c m_s m_le u2.1 m_he m_ro m_wi u1.1 u1.2.1 u1.2.2.1 m_rn m_rw m_rh m_n m_l m_b m_to u1.2.2.2 m_ho m_tx m_ik m_wt m_ac m_ap u2.2 m_im m_ri hAd u1.2.2.2 2 _ hu4) (cwV 2 hts (gV q4_183 q4_185 qs3_15 q1_11 q4_186) rfl rfl rfl hd_X8_sets ⟨Nat.le_of_ble_eq_true rfl, Nat.le_of_ble_eq_true rfl⟩) (va_recv hk.1 hP (ci := 8) (q0 := 0) rfl rfl) rfl hl.1 rfl (Nat.le_of_ble_eq_true rfl) dX8_step_56 ⟨Nat.zero_le _, Nat.zero_le _⟩) hS (fun _ h => h) (fun H locs hP hS => ?_)
        have hP : va_P D vwCl (mw ad cI cL cZ m_w m_h m_c m_s m_le u2.1 m_he m_ro m_wi u1.1 u1.2.1 u1.2.2.1 m_rn m_rw m_rh m_n u4.1 u4.2 m_to u1.2.2.2 m_ho m_tx m_ik m_wt m_ac m_ap u2.2 m_im m_ri) H := hP
        refine lv_aload_n hx hb dX8_step_59 rfl (lv_at hl 0 rfl) ?_
        refine va_get (D := D) (ci := 8) (v := .long u1.2.2.2) (C := RX8) (T := TX8) (N := 29) hx hb hts u_X8 hown hk.1 hP 0 rfl rfl 23 (by decide) (hts _ q4_35) (fun _ h9 => h9) rfl dX8_step_60 ?_
        refine go_i (ru_S (n := 1) ⟨hx, hb, hml, hown, hts⟩ hk hP (c_X8_ones l D cI cL cZ (mAd ad) (mw ad cI cL cZ m_w m_h m_c m_s m_le u2.1 m_he m_ro m_wi u1.1 u1.2.1 u1.2.2.1 m_rn m_rw m_rh m_n u4.1 u4.2 m_to u1.2.2.2 m_ho m_tx m_ik m_wt m_ac m_ap u2.2 m_im m_ri) u1.2.2.2 _ rfl) (va_cwS 1 hts (gS q4_213 q4_214 q1_11 q4_215) rfl rfl rfl hd_X8_ones ⟨Nat.le_of_ble_eq_true rfl, Nat.le_of_ble_eq_true rfl⟩) rfl hl.1 rfl (Nat.le_of_ble_eq_true rfl) dX8_step_63 ⟨Nat.zero_le _, Nat.zero_le _⟩) hS (fun _ h => h) (fun H locs hP hS => ?_)
        have hP : va_P D vwCl (mw ad cI cL cZ m_w m_h m_c m_s m_le u2.1 m_he m_ro m_wi u1.1 u1.2.1 u1.2.2.1 m_rn m_rw m_rh m_n u4.1 u4.2 m_to u1.2.2.2 m_ho m_tx m_ik m_wt m_ac m_ap u2.2 m_im m_ri) H := hP
        subst hr
        exact ret_i hx hb hrt hlocks hP hS dX8_step_66
    · have hr := (if_pos c16).symm.trans hr
      refine lv_aload_n hx hb dX8_step_19 rfl (lv_at hl 0 rfl) ?_
      refine va_get (D := D) (ci := 8) (v := .int u1.1) (C := RX8) (T := TX8) (N := 29) hx hb hts u_X8 hown hk.1 hP 0 rfl rfl 20 (by decide) (hts _ q4_32) (fun _ h9 => h9) rfl dX8_step_20 ?_
      refine lv_if_ne (tgt := 31) hx hb dX8_step_23 (by decide) (fun c23 => ?_) (fun c23 => ?_)
      · have hr := (if_neg c23).symm.trans hr
        refine lv_bipush (v := (-4)) hx hb dX8_step_31 (by decide) ?_
        subst hr
        exact ret_i hx hb hrt hlocks hP hS dX8_step_33
      · have hr := (if_pos c23).symm.trans hr
        refine lv_bipush (v := (-2)) hx hb dX8_step_26 (by decide) ?_
        refine lv_goto (tgt := 33) hx hb dX8_step_28 (by decide) ?_
        subst hr
        exact ret_i hx hb hrt hlocks hP hS dX8_step_33
theorem hd_X8_hint : yX8_hint.cls = RX8 ∧ yX8_hint.cls ≠ "java/lang/invoke/MethodHandle" ∧ yX8_hint.cls ≠ "java/lang/invoke/VarHandle" ∧ (parseMethodDescriptor yX8_hint.desc).map (fun d => d.parameters.length) = some 1 := by decide +kernel
def f_X8_hint (p1 : Int32) (m_w : Int32) (m_h : Int32) (m_c : Int32) (m_s : Int32) (m_hi : Int32) (m_hr : Int32) (m_hp : Int32) (m_n : Int64) (m_l : Int64) (m_b : Int64) (m_hs : Int64) (m_ho : Nat → Int32) (m_ac : Nat → Int64) (m_ap : Nat → Int64) : Int32 × Int32 × Int32 × Int32 × Int64 := (if (f_X8_in p1.toInt64 0 3) = 0 then ((-1), m_hi, m_hr, m_hp, m_hs) else (bd (f_X8_hints m_w m_h m_c m_s m_hi m_hr m_hp m_n m_l m_b m_hs m_ho m_ac m_ap) (fun u1 => (if p1 = 0 then (u1.1, u1.1, u1.2.1, u1.2.2.1, u1.2.2.2) else (if u1.1 = 0 then ((-9), u1.1, u1.2.1, u1.2.2.1, u1.2.2.2) else (if p1 = 1 then (u1.2.1, u1.1, u1.2.1, u1.2.2.1, u1.2.2.2) else (if p1 = 2 then (u1.2.2.1, u1.1, u1.2.1, u1.2.2.1, u1.2.2.2) else (if u1.1 = 3 then ((-9), u1.1, u1.2.1, u1.2.2.1, u1.2.2.2) else (f_X8_ones u1.2.2.2, u1.1, u1.2.1, u1.2.2.1, u1.2.2.2)))))))))
set_option maxHeartbeats 4000000 in
set_option maxRecDepth 100000 in
theorem c_X8_hint (l : Launch) (D : va_G) (cI cL cZ : ClassId) (ad : Nat → Nat) (m_w m_h m_c m_s m_le m_un m_he m_ro m_wi m_hi m_hr m_hp m_rn m_rw m_rh : Int32) (m_n m_l m_b m_to m_hs : Int64) (m_ho m_tx m_ik m_wt : Nat → Int32) (m_ac m_ap m_pa m_im m_ri : Nat → Int64) (hAd : mInj ad) (p1 : Int32) (r : Int32 × Int32 × Int32 × Int32 × Int64) (hr : f_X8_hint p1 m_w m_h m_c m_s m_hi m_hr m_hp m_n m_l m_b m_hs m_ho m_ac m_ap = r) (hg : mG m_w m_h m_c m_s) : MI l yX8_hint (Cond.code yX8_hint cX8_hint 2 (some .int) :: W0) 6 142 D cI cL cZ (mAd ad) [.ref (ad 0), .int p1] (mw ad cI cL cZ m_w m_h m_c m_s m_le m_un m_he m_ro m_wi m_hi m_hr m_hp m_rn m_rw m_rh m_n m_l m_b m_to m_hs m_ho m_tx m_ik m_wt m_ac m_ap m_pa m_im m_ri) r.1 (mw ad cI cL cZ m_w m_h m_c m_s m_le m_un m_he m_ro m_wi r.2.1 r.2.2.1 r.2.2.2.1 m_rn m_rw m_rh m_n m_l m_b m_to r.2.2.2.2 m_ho m_tx m_ik m_wt m_ac m_ap m_pa m_im m_ri) := by
  refine mk_start (cc := cX8_hint) (maxL := 2) (ret := (some .int)) (by decide) rfl (Nat.le_of_ble_eq_true rfl) ?_
  intro p e s m below meth c ls C hP hS hl
  obtain ⟨hx, hb, hml, hrt, hlocks, hown, hts, hk⟩ := C
  have hown : s.vm.findClass RX8 = some m.cls := hown
  have hl : lv_has ls 2 [(0, .ref (ad 0)), (1, .int p1)] := hl
  rw [f_X8_hint] at hr
  refine lv_iload_n hx hb dX8_hint_0 rfl (lv_at hl 1 rfl) ?_
  refine lv_i2l hx hb dX8_hint_1 rfl ?_
  refine lv_lconst (v := 0) hx hb dX8_hint_2 (by decide) ?_
  refine lv_ldc2 hx hb hown (hts _ q4_164) dX8_hint_3 ?_
  refine go_z (ru_S (n := 3) ⟨hx, hb, hml, hown, hts⟩ hk hP (c_X8_in l D cI cL cZ (mAd ad) (mw ad cI cL cZ m_w m_h m_c m_s m_le m_un m_he m_ro m_wi m_hi m_hr m_hp m_rn m_rw m_rh m_n m_l m_b m_to m_hs m_ho m_tx m_ik m_wt m_ac m_ap m_pa m_im m_ri) p1.toInt64 0 3 _ rfl) (va_cwS 3 hts (gS q4_1 q4_2 q1_11 q4_3) rfl rfl rfl hd_X8_in ⟨Nat.le_of_ble_eq_true rfl, Nat.le_of_ble_eq_true rfl⟩) rfl hl.1 rfl (Nat.le_of_ble_eq_true rfl) dX8_hint_6 ⟨Nat.zero_le _, Nat.zero_le _⟩) hS (fun _ h => h) (fun H locs hz6 hP hS => ?_)
  have hP : va_P D vwCl (mw ad cI cL cZ m_w m_h m_c m_s m_le m_un m_he m_ro m_wi m_hi m_hr m_hp m_rn m_rw m_rh m_n m_l m_b m_to m_hs m_ho m_tx m_ik m_wt m_ac m_ap m_pa m_im m_ri) H := hP
  refine lv_if_ne (tgt := 14) hx hb dX8_hint_9 (by decide) (fun c9 => ?_) (fun c9 => ?_)
  · have hr := (if_neg c9).symm.trans hr
    refine lv_aload_n hx hb dX8_hint_14 rfl (lv_at hl 0 rfl) ?_
    obtain ⟨u1, hu1⟩ : ∃ z, f_X8_hints m_w m_h m_c m_s m_hi m_hr m_hp m_n m_l m_b m_hs m_ho m_ac m_ap = z := ⟨_, rfl⟩
    have hr := (bd_eq hu1).symm.trans hr
    refine go_v (ru_V (n := 0) ⟨hx, hb, hml, hown, hts⟩ hk hP (c_X8_hints l D cI cL cZ ad m_w m_h m_c m_s m_le m_un m_he m_ro m_wi m_hi m_hr m_hp m_rn m_rw m_rh m_n m_l m_b m_to m_hs m_ho m_tx m_ik m_wt m_ac m_ap m_pa m_im m_ri hAd _ hu1 hg) (cwV 0 hts (gV q4_201 q4_203 qs4_1 q1_11 q4_204) rfl rfl rfl hd_X8_hints ⟨Nat.le_of_ble_eq_true rfl, Nat.le_of_ble_eq_true rfl⟩) (va_recv hk.1 hP (ci := 8) (q0 := 0) rfl rfl) rfl hl.1 rfl (Nat.le_of_ble_eq_true rfl) dX8_hint_15 ⟨Nat.zero_le _, Nat.zero_le _⟩) hS (fun _ h => h) (fun H locs hP hS => ?_)
    have hP : va_P D vwCl (mw ad cI cL cZ m_w m_h m_c m_s m_le m_un m_he m_ro m_wi u1.1 u1.2.1 u1.2.2.1 m_rn m_rw m_rh m_n m_l m_b m_to u1.2.2.2 m_ho m_tx m_ik m_wt m_ac m_ap m_pa m_im m_ri) H := hP
    refine lv_iload_n hx hb dX8_hint_18 rfl (lv_at hl 1 rfl) ?_
    refine lv_if_ne (tgt := 27) hx hb dX8_hint_19 (by decide) (fun c19 => ?_) (fun c19 => ?_)
    · have hr := (if_neg c19).symm.trans hr
      refine lv_aload_n hx hb dX8_hint_27 rfl (lv_at hl 0 rfl) ?_
      refine va_get (D := D) (ci := 8) (v := .int u1.1) (C := RX8) (T := TX8) (N := 29) hx hb hts u_X8 hown hk.1 hP 0 rfl rfl 20 (by decide) (hts _ q4_32) (fun _ h9 => h9) rfl dX8_hint_28 ?_
      refine lv_if_ne (tgt := 37) hx hb dX8_hint_31 (by decide) (fun c31 => ?_) (fun c31 => ?_)
      · have hr := (if_neg c31).symm.trans hr
        refine lv_iload_n hx hb dX8_hint_37 rfl (lv_at hl 1 rfl) ?_
        refine lv_iconst (v := 1) hx hb dX8_hint_38 (by decide) ?_
        refine lv_icmp_ne (tgt := 49) hx hb dX8_hint_39 (by decide) (fun c39 => ?_) (fun c39 => ?_)
        · have hr := (if_neg c39).symm.trans hr
          refine lv_iload_n hx hb dX8_hint_49 rfl (lv_at hl 1 rfl) ?_
          refine lv_iconst (v := 2) hx hb dX8_hint_50 (by decide) ?_
          refine lv_icmp_ne (tgt := 61) hx hb dX8_hint_51 (by decide) (fun c51 => ?_) (fun c51 => ?_)
          · have hr := (if_neg c51).symm.trans hr
            refine lv_aload_n hx hb dX8_hint_61 rfl (lv_at hl 0 rfl) ?_
            refine va_get (D := D) (ci := 8) (v := .int u1.1) (C := RX8) (T := TX8) (N := 29) hx hb hts u_X8 hown hk.1 hP 0 rfl rfl 20 (by decide) (hts _ q4_32) (fun _ h9 => h9) rfl dX8_hint_62 ?_
            refine lv_iconst (v := 3) hx hb dX8_hint_65 (by decide) ?_
            refine lv_icmp_ne (tgt := 74) hx hb dX8_hint_66 (by decide) (fun c66 => ?_) (fun c66 => ?_)
            · have hr := (if_neg c66).symm.trans hr
              refine lv_aload_n hx hb dX8_hint_74 rfl (lv_at hl 0 rfl) ?_
              refine va_get (D := D) (ci := 8) (v := .long u1.2.2.2) (C := RX8) (T := TX8) (N := 29) hx hb hts u_X8 hown hk.1 hP 0 rfl rfl 23 (by decide) (hts _ q4_35) (fun _ h9 => h9) rfl dX8_hint_75 ?_
              refine go_i (ru_S (n := 1) ⟨hx, hb, hml, hown, hts⟩ hk hP (c_X8_ones l D cI cL cZ (mAd ad) (mw ad cI cL cZ m_w m_h m_c m_s m_le m_un m_he m_ro m_wi u1.1 u1.2.1 u1.2.2.1 m_rn m_rw m_rh m_n m_l m_b m_to u1.2.2.2 m_ho m_tx m_ik m_wt m_ac m_ap m_pa m_im m_ri) u1.2.2.2 _ rfl) (va_cwS 1 hts (gS q4_213 q4_214 q1_11 q4_215) rfl rfl rfl hd_X8_ones ⟨Nat.le_of_ble_eq_true rfl, Nat.le_of_ble_eq_true rfl⟩) rfl hl.1 rfl (Nat.le_of_ble_eq_true rfl) dX8_hint_78 ⟨Nat.zero_le _, Nat.zero_le _⟩) hS (fun _ h => h) (fun H locs hP hS => ?_)
              have hP : va_P D vwCl (mw ad cI cL cZ m_w m_h m_c m_s m_le m_un m_he m_ro m_wi u1.1 u1.2.1 u1.2.2.1 m_rn m_rw m_rh m_n m_l m_b m_to u1.2.2.2 m_ho m_tx m_ik m_wt m_ac m_ap m_pa m_im m_ri) H := hP
              subst hr
              exact ret_i hx hb hrt hlocks hP hS dX8_hint_81
            · have hr := (if_pos c66).symm.trans hr
              refine lv_bipush (v := (-9)) hx hb dX8_hint_69 (by decide) ?_
              refine lv_goto (tgt := 81) hx hb dX8_hint_71 (by decide) ?_
              subst hr
              exact ret_i hx hb hrt hlocks hP hS dX8_hint_81
          · have hr := (if_pos c51).symm.trans hr
            refine lv_aload_n hx hb dX8_hint_54 rfl (lv_at hl 0 rfl) ?_
            refine va_get (D := D) (ci := 8) (v := .int u1.2.2.1) (C := RX8) (T := TX8) (N := 29) hx hb hts u_X8 hown hk.1 hP 0 rfl rfl 22 (by decide) (hts _ q4_34) (fun _ h9 => h9) rfl dX8_hint_55 ?_
            refine lv_goto (tgt := 81) hx hb dX8_hint_58 (by decide) ?_
            subst hr
            exact ret_i hx hb hrt hlocks hP hS dX8_hint_81
        · have hr := (if_pos c39).symm.trans hr
          refine lv_aload_n hx hb dX8_hint_42 rfl (lv_at hl 0 rfl) ?_
          refine va_get (D := D) (ci := 8) (v := .int u1.2.1) (C := RX8) (T := TX8) (N := 29) hx hb hts u_X8 hown hk.1 hP 0 rfl rfl 21 (by decide) (hts _ q4_33) (fun _ h9 => h9) rfl dX8_hint_43 ?_
          refine lv_goto (tgt := 81) hx hb dX8_hint_46 (by decide) ?_
          subst hr
          exact ret_i hx hb hrt hlocks hP hS dX8_hint_81
      · have hr := (if_pos c31).symm.trans hr
        refine lv_bipush (v := (-9)) hx hb dX8_hint_34 (by decide) ?_
        subst hr
        exact ret_i hx hb hrt hlocks hP hS dX8_hint_36
    · have hr := (if_pos c19).symm.trans hr
      refine lv_aload_n hx hb dX8_hint_22 rfl (lv_at hl 0 rfl) ?_
      refine va_get (D := D) (ci := 8) (v := .int u1.1) (C := RX8) (T := TX8) (N := 29) hx hb hts u_X8 hown hk.1 hP 0 rfl rfl 20 (by decide) (hts _ q4_32) (fun _ h9 => h9) rfl dX8_hint_23 ?_
      subst hr
      exact ret_i hx hb hrt hlocks hP hS dX8_hint_26
  · have hr := (if_pos c9).symm.trans hr
    refine lv_iconst (v := (-1)) hx hb dX8_hint_12 (by decide) ?_
    subst hr
    exact ret_i hx hb hrt hlocks hP hS dX8_hint_13
theorem hd_X8_hinted : yX8_hinted.cls = RX8 ∧ yX8_hinted.cls ≠ "java/lang/invoke/MethodHandle" ∧ yX8_hinted.cls ≠ "java/lang/invoke/VarHandle" ∧ (parseMethodDescriptor yX8_hinted.desc).map (fun d => d.parameters.length) = some 0 := by decide +kernel
def f_X8_hinted (m_w : Int32) (m_h : Int32) (m_c : Int32) (m_s : Int32) (m_hi : Int32) (m_hr : Int32) (m_hp : Int32) (m_n : Int64) (m_l : Int64) (m_b : Int64) (m_hs : Int64) (m_ho : Nat → Int32) (m_ac : Nat → Int64) (m_ap : Nat → Int64) : Int64 × Int32 × Int32 × Int32 × Int64 := (bd (f_X8_hints m_w m_h m_c m_s m_hi m_hr m_hp m_n m_l m_b m_hs m_ho m_ac m_ap) (fun u1 => (u1.2.2.2, u1.1, u1.2.1, u1.2.2.1, u1.2.2.2)))
set_option maxHeartbeats 4000000 in
set_option maxRecDepth 100000 in
theorem c_X8_hinted (l : Launch) (D : va_G) (cI cL cZ : ClassId) (ad : Nat → Nat) (m_w m_h m_c m_s m_le m_un m_he m_ro m_wi m_hi m_hr m_hp m_rn m_rw m_rh : Int32) (m_n m_l m_b m_to m_hs : Int64) (m_ho m_tx m_ik m_wt : Nat → Int32) (m_ac m_ap m_pa m_im m_ri : Nat → Int64) (hAd : mInj ad) (r : Int64 × Int32 × Int32 × Int32 × Int64) (hr : f_X8_hinted m_w m_h m_c m_s m_hi m_hr m_hp m_n m_l m_b m_hs m_ho m_ac m_ap = r) (hg : mG m_w m_h m_c m_s) : ML l yX8_hinted (Cond.code yX8_hinted cX8_hinted 1 (some .long) :: W0) 6 142 D cI cL cZ (mAd ad) [.ref (ad 0)] (mw ad cI cL cZ m_w m_h m_c m_s m_le m_un m_he m_ro m_wi m_hi m_hr m_hp m_rn m_rw m_rh m_n m_l m_b m_to m_hs m_ho m_tx m_ik m_wt m_ac m_ap m_pa m_im m_ri) r.1 (mw ad cI cL cZ m_w m_h m_c m_s m_le m_un m_he m_ro m_wi r.2.1 r.2.2.1 r.2.2.2.1 m_rn m_rw m_rh m_n m_l m_b m_to r.2.2.2.2 m_ho m_tx m_ik m_wt m_ac m_ap m_pa m_im m_ri) := by
  refine mk_start (cc := cX8_hinted) (maxL := 1) (ret := (some .long)) (by decide) rfl (Nat.le_of_ble_eq_true rfl) ?_
  intro p e s m below meth c ls C hP hS hl
  obtain ⟨hx, hb, hml, hrt, hlocks, hown, hts, hk⟩ := C
  have hown : s.vm.findClass RX8 = some m.cls := hown
  have hl : lv_has ls 1 [(0, .ref (ad 0))] := hl
  rw [f_X8_hinted] at hr
  refine lv_aload_n hx hb dX8_hinted_0 rfl (lv_at hl 0 rfl) ?_
  obtain ⟨u1, hu1⟩ : ∃ z, f_X8_hints m_w m_h m_c m_s m_hi m_hr m_hp m_n m_l m_b m_hs m_ho m_ac m_ap = z := ⟨_, rfl⟩
  have hr := (bd_eq hu1).symm.trans hr
  refine go_v (ru_V (n := 0) ⟨hx, hb, hml, hown, hts⟩ hk hP (c_X8_hints l D cI cL cZ ad m_w m_h m_c m_s m_le m_un m_he m_ro m_wi m_hi m_hr m_hp m_rn m_rw m_rh m_n m_l m_b m_to m_hs m_ho m_tx m_ik m_wt m_ac m_ap m_pa m_im m_ri hAd _ hu1 hg) (cwV 0 hts (gV q4_201 q4_203 qs4_1 q1_11 q4_204) rfl rfl rfl hd_X8_hints ⟨Nat.le_of_ble_eq_true rfl, Nat.le_of_ble_eq_true rfl⟩) (va_recv hk.1 hP (ci := 8) (q0 := 0) rfl rfl) rfl hl.1 rfl (Nat.le_of_ble_eq_true rfl) dX8_hinted_1 ⟨Nat.zero_le _, Nat.zero_le _⟩) hS (fun _ h => h) (fun H locs hP hS => ?_)
  have hP : va_P D vwCl (mw ad cI cL cZ m_w m_h m_c m_s m_le m_un m_he m_ro m_wi u1.1 u1.2.1 u1.2.2.1 m_rn m_rw m_rh m_n m_l m_b m_to u1.2.2.2 m_ho m_tx m_ik m_wt m_ac m_ap m_pa m_im m_ri) H := hP
  refine lv_aload_n hx hb dX8_hinted_4 rfl (lv_at hl 0 rfl) ?_
  refine va_get (D := D) (ci := 8) (v := .long u1.2.2.2) (C := RX8) (T := TX8) (N := 29) hx hb hts u_X8 hown hk.1 hP 0 rfl rfl 23 (by decide) (hts _ q4_35) (fun _ h9 => h9) rfl dX8_hinted_5 ?_
  subst hr
  exact ret_l hx hb hrt hlocks hP hS dX8_hinted_8
