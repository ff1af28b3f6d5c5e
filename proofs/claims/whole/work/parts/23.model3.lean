theorem inc_nn {i b : Int32} (h0 : 0 ≤ i.toInt) (h1 : ¬ b ≤ i) : 0 ≤ (i + 1).toInt := by
  rw [i32_inc (i32_lt h1)]; omega
theorem hd_X8_all : yX8_all.cls = RX8 ∧ yX8_all.cls ≠ "java/lang/invoke/MethodHandle" ∧ yX8_all.cls ≠ "java/lang/invoke/VarHandle" ∧ (parseMethodDescriptor yX8_all.desc).map (fun d => d.parameters.length) = some 0 := by decide +kernel
def f_X8_all (m_s : Int32) : Int64 := (shlL 1 m_s) - 1
set_option maxHeartbeats 4000000 in
set_option maxRecDepth 100000 in
theorem c_X8_all (l : Launch) (D : va_G) (cI cL cZ : ClassId) (ad : Nat → Nat) (m_w m_h m_c m_s m_le m_un m_he m_ro m_wi m_hi m_hr m_hp m_rn m_rw m_rh : Int32) (m_n m_l m_b m_to m_hs : Int64) (m_ho m_tx m_ik m_wt : Nat → Int32) (m_ac m_ap m_pa m_im m_ri : Nat → Int64) (hAd : mInj ad) (r : Int64) (hr : f_X8_all m_s = r) : ML l yX8_all (Cond.code yX8_all cX8_all 1 (some .long) :: W0) 0 0 D cI cL cZ (mAd ad) [.ref (ad 0)] (mw ad cI cL cZ m_w m_h m_c m_s m_le m_un m_he m_ro m_wi m_hi m_hr m_hp m_rn m_rw m_rh m_n m_l m_b m_to m_hs m_ho m_tx m_ik m_wt m_ac m_ap m_pa m_im m_ri) r (mw ad cI cL cZ m_w m_h m_c m_s m_le m_un m_he m_ro m_wi m_hi m_hr m_hp m_rn m_rw m_rh m_n m_l m_b m_to m_hs m_ho m_tx m_ik m_wt m_ac m_ap m_pa m_im m_ri) := by
  refine mk_start (cc := cX8_all) (maxL := 1) (ret := (some .long)) (by decide) rfl (Nat.le_of_ble_eq_true rfl) ?_
  intro p e s m below meth c ls C hP hS hl
  obtain ⟨hx, hb, hml, hrt, hlocks, hown, hts, hk⟩ := C
  have hown : s.vm.findClass RX8 = some m.cls := hown
  have hl : lv_has ls 1 [(0, .ref (ad 0))] := hl
  rw [f_X8_all] at hr
  refine lv_lconst (v := 1) hx hb dX8_all_0 (by decide) ?_
  refine lv_aload_n hx hb dX8_all_1 rfl (lv_at hl 0 rfl) ?_
  refine va_get (D := D) (ci := 8) (v := .int m_s) (C := RX8) (T := TX8) (N := 29) hx hb hts u_X8 hown hk.1 hP 0 rfl rfl 6 (by decide) (hts _ q4_18) (fun _ h9 => h9) rfl dX8_all_2 ?_
  refine lv_lshl (v := shlL 1 m_s) hx hb dX8_all_5 rfl ?_
  refine lv_lconst (v := 1) hx hb dX8_all_6 (by decide) ?_
  refine lv_lsub hx hb dX8_all_7 ?_
  subst hr
  exact ret_l hx hb hrt hlocks hP hS dX8_all_8
theorem hd_X8_open : yX8_open.cls = RX8 ∧ yX8_open.cls ≠ "java/lang/invoke/MethodHandle" ∧ yX8_open.cls ≠ "java/lang/invoke/VarHandle" ∧ (parseMethodDescriptor yX8_open.desc).map (fun d => d.parameters.length) = some 0 := by decide +kernel
def f_X8_open (m_s : Int32) (m_l : Int64) (m_b : Int64) : Int64 := ((f_X8_all m_s) &&& (m_l ^^^ ((-1)))) &&& (m_b ^^^ ((-1)))
set_option maxHeartbeats 4000000 in
set_option maxRecDepth 100000 in
theorem c_X8_open (l : Launch) (D : va_G) (cI cL cZ : ClassId) (ad : Nat → Nat) (m_w m_h m_c m_s m_le m_un m_he m_ro m_wi m_hi m_hr m_hp m_rn m_rw m_rh : Int32) (m_n m_l m_b m_to m_hs : Int64) (m_ho m_tx m_ik m_wt : Nat → Int32) (m_ac m_ap m_pa m_im m_ri : Nat → Int64) (hAd : mInj ad) (r : Int64) (hr : f_X8_open m_s m_l m_b = r) : ML l yX8_open (Cond.code yX8_open cX8_open 1 (some .long) :: W0) 1 20 D cI cL cZ (mAd ad) [.ref (ad 0)] (mw ad cI cL cZ m_w m_h m_c m_s m_le m_un m_he m_ro m_wi m_hi m_hr m_hp m_rn m_rw m_rh m_n m_l m_b m_to m_hs m_ho m_tx m_ik m_wt m_ac m_ap m_pa m_im m_ri) r (mw ad cI cL cZ m_w m_h m_c m_s m_le m_un m_he m_ro m_wi m_hi m_hr m_hp m_rn m_rw m_rh m_n m_l m_b m_to m_hs m_ho m_tx m_ik m_wt m_ac m_ap m_pa m_im m_ri) := by
  refine mk_start (cc := cX8_open) (maxL := 1) (ret := (some .long)) (by decide) rfl (Nat.le_of_ble_eq_true rfl) ?_
  intro p e s m below meth c ls C hP hS hl
  obtain ⟨hx, hb, hml, hrt, hlocks, hown, hts, hk⟩ := C
  have hown : s.vm.findClass RX8 = some m.cls := hown
  have hl : lv_has ls 1 [(0, .ref (ad 0))] := hl
  rw [f_X8_open] at hr
  refine lv_aload_n hx hb dX8_open_0 rfl (lv_at hl 0 rfl) ?_
  refine go_l (ru_V (n := 0) ⟨hx, hb, hml, hown, hts⟩ hk hP (c_X8_all l D cI cL cZ ad m_w m_h m_c m_s m_le m_un m_he m_ro m_wi m_hi m_hr m_hp m_rn m_rw m_rh m_n m_l m_b m_to m_hs m_ho m_tx m_ik m_wt m_ac m_ap m_pa m_im m_ri hAd _ rfl) (cwV 0 hts (gV q4_220 q4_222 qs4_5 q1_11 q4_223) rfl rfl rfl hd_X8_all ⟨Nat.le_of_ble_eq_true rfl, Nat.le_of_ble_eq_true rfl⟩) (va_recv hk.1 hP (ci := 8) (q0 := 0) rfl rfl) rfl hl.1 rfl (Nat.le_of_ble_eq_true rfl) dX8_open_1 ⟨Nat.zero_le _, Nat.zero_le _⟩) hS (fun _ h => h) (fun H locs hP hS => ?_)
  have hP : va_P D vwCl (mw ad cI cL cZ m_w m_h m_c m_s m_le m_un m_he m_ro m_wi m_hi m_hr m_hp m_rn m_rw m_rh m_n m_l m_b m_to m_hs m_ho m_tx m_ik m_wt m_ac m_ap m_pa m_im m_ri) H := hP
  refine lv_aload_n hx hb dX8_open_4 rfl (lv_at hl 0 rfl) ?_
  refine va_get (D := D) (ci := 8) (v := .long m_l) (C := RX8) (T := TX8) (N := 29) hx hb hts u_X8 hown hk.1 hP 0 rfl rfl 1 (by decide) (hts _ q4_13) (fun _ h9 => h9) rfl dX8_open_5 ?_
  refine lv_ldc2 hx hb hown (hts _ q4_187) dX8_open_8 ?_
  refine lv_lxor hx hb dX8_open_11 ?_
  refine lv_land hx hb dX8_open_12 ?_
  refine lv_aload_n hx hb dX8_open_13 rfl (lv_at hl 0 rfl) ?_
  refine va_get (D := D) (ci := 8) (v := .long m_b) (C := RX8) (T := TX8) (N := 29) hx hb hts u_X8 hown hk.1 hP 0 rfl rfl 2 (by decide) (hts _ q4_14) (fun _ h9 => h9) rfl dX8_open_14 ?_
  refine lv_ldc2 hx hb hown (hts _ q4_187) dX8_open_17 ?_
  refine lv_lxor hx hb dX8_open_20 ?_
  refine lv_land hx hb dX8_open_21 ?_
  subst hr
  exact ret_l hx hb hrt hlocks hP hS dX8_open_22
theorem hd_X8_numberAt : yX8_numberAt.cls = RX8 ∧ yX8_numberAt.cls ≠ "java/lang/invoke/MethodHandle" ∧ yX8_numberAt.cls ≠ "java/lang/invoke/VarHandle" ∧ (parseMethodDescriptor yX8_numberAt.desc).map (fun d => d.parameters.length) = some 1 := by decide +kernel
def f_X8_numberAt (p1 : Int32) (m_n : Int64) : Int32 := ((shrL m_n (3 * p1)) &&& 7).toInt32
set_option maxHeartbeats 4000000 in
set_option maxRecDepth 100000 in
theorem c_X8_numberAt (l : Launch) (D : va_G) (cI cL cZ : ClassId) (ad : Nat → Nat) (m_w m_h m_c m_s m_le m_un m_he m_ro m_wi m_hi m_hr m_hp m_rn m_rw m_rh : Int32) (m_n m_l m_b m_to m_hs : Int64) (m_ho m_tx m_ik m_wt : Nat → Int32) (m_ac m_ap m_pa m_im m_ri : Nat → Int64) (hAd : mInj ad) (p1 : Int32) (r : Int32) (hr : f_X8_numberAt p1 m_n = r) : MI l yX8_numberAt (Cond.code yX8_numberAt cX8_numberAt 2 (some .int) :: W0) 0 0 D cI cL cZ (mAd ad) [.ref (ad 0), .int p1] (mw ad cI cL cZ m_w m_h m_c m_s m_le m_un m_he m_ro m_wi m_hi m_hr m_hp m_rn m_rw m_rh m_n m_l m_b m_to m_hs m_ho m_tx m_ik m_wt m_ac m_ap m_pa m_im m_ri) r (mw ad cI cL cZ m_w m_h m_c m_s m_le m_un m_he m_ro m_wi m_hi m_hr m_hp m_rn m_rw m_rh m_n m_l m_b m_to m_hs m_ho m_tx m_ik m_wt m_ac m_ap m_pa m_im m_ri) := by
  refine mk_start (cc := cX8_numberAt) (maxL := 2) (ret := (some .int)) (by decide) rfl (Nat.le_of_ble_eq_true rfl) ?_
  intro p e s m below meth c ls C hP hS hl
  obtain ⟨hx, hb, hml, hrt, hlocks, hown, hts, hk⟩ := C
  have hown : s.vm.findClass RX8 = some m.cls := hown
  have hl : lv_has ls 2 [(0, .ref (ad 0)), (1, .int p1)] := hl
  rw [f_X8_numberAt] at hr
  refine lv_aload_n hx hb dX8_numberAt_0 rfl (lv_at hl 0 rfl) ?_
  refine va_get (D := D) (ci := 8) (v := .long m_n) (C := RX8) (T := TX8) (N := 29) hx hb hts u_X8 hown hk.1 hP 0 rfl rfl 0 (by decide) (hts _ q4_12) (fun _ h9 => h9) rfl dX8_numberAt_1 ?_
  refine lv_iconst (v := 3) hx hb dX8_numberAt_4 (by decide) ?_
  refine lv_iload_n hx hb dX8_numberAt_5 rfl (lv_at hl 1 rfl) ?_
  refine lv_imul hx hb dX8_numberAt_6 ?_
  refine lv_lshr (v := shrL m_n (3 * p1)) hx hb dX8_numberAt_7 rfl ?_
  refine lv_ldc2 hx hb hown (hts _ q4_144) dX8_numberAt_8 ?_
  refine lv_land hx hb dX8_numberAt_11 ?_
  refine lv_l2i hx hb dX8_numberAt_12 rfl ?_
  subst hr
  exact ret_i hx hb hrt hlocks hP hS dX8_numberAt_13
theorem hd_X8_isMore : yX8_isMore.cls = RX8 ∧ yX8_isMore.cls ≠ "java/lang/invoke/MethodHandle" ∧ yX8_isMore.cls ≠ "java/lang/invoke/VarHandle" ∧ (parseMethodDescriptor yX8_isMore.desc).map (fun d => d.parameters.length) = some 0 := by decide +kernel
def F_X8_isMore_0 (m_le : Int32) (m_tx : Nat → Int32) {β : Type} (k0 : Int32 → β) : Nat → Int32 → β
  | 0, m_he => k0 m_he
  | n + 1, m_he => (if m_le ≤ m_he then k0 m_he else (if (m_tx m_he.toNatClampNeg) = 32 then F_X8_isMore_0 m_le m_tx k0 n (m_he + 1) else k0 m_he))
def f_X8_isMore (m_le : Int32) (m_he : Int32) (m_tx : Nat → Int32) : Int32 × Int32 := F_X8_isMore_0 m_le m_tx (fun z1 => (if m_le ≤ z1 then (0, z1) else (1, z1))) (fu m_le m_he) m_he
set_option maxHeartbeats 4000000 in
set_option maxRecDepth 100000 in
theorem lp_X8_isMore_0 (l : Launch) (D : va_G) (cI cL cZ : ClassId) (ad : Nat → Nat) (m_w m_h m_c m_s m_le m_un m_ro m_wi m_hi m_hr m_hp m_rn m_rw m_rh : Int32) (m_n m_l m_b m_to m_hs : Int64) (m_ho m_tx m_ik m_wt : Nat → Int32) (m_ac m_ap m_pa m_im m_ri : Nat → Int64) {p : Program} {e : Env} {s : State} {m : MethodId} {args : Array Value} {below : List Frame} {meth : Method} {c : Code} {Q : State → Prop} (C : Cx p s m args meth c cX8_isMore 1 (some .boolean) W0 RX8 D cI cL cZ) (hAd : mInj ad) (hlen : m_le.toInt ≤ 40) {β : Type} (k0 : Int32 → β) (r : β)
    (h0 : ∀ (m_he : Int32) (H : Heap) (locs : List Loc) (ls : Array Slot), k0 m_he = r → va_P D vwCl (mw ad cI cL cZ m_w m_h m_c m_s m_le m_un m_he m_ro m_wi m_hi m_hr m_hp m_rn m_rw m_rh m_n m_l m_b m_to m_hs m_ho m_tx m_ik m_wt m_ac m_ap m_pa m_im m_ri) H → va_S (mAd ad) s.heap H locs → lv_has ls 1 [(0, .ref (ad 0))] → W p l e (rmS 0 0) s m args below meth c H locs 0 0 Q (F0 m 38 ls [])) :
    ∀ (n : Nat) (m_he : Int32) (H : Heap) (locs : List Loc) (ls : Array Slot), fuU n m_le m_he → F_X8_isMore_0 m_le m_tx k0 n m_he = r → va_P D vwCl (mw ad cI cL cZ m_w m_h m_c m_s m_le m_un m_he m_ro m_wi m_hi m_hr m_hp m_rn m_rw m_rh m_n m_l m_b m_to m_hs m_ho m_tx m_ik m_wt m_ac m_ap m_pa m_im m_ri) H → va_S (mAd ad) s.heap H locs → lv_has ls 1 [(0, .ref (ad 0))] → W p l e (rmS 0 0) s m args below meth c H locs 0 0 Q (F0 m 0 ls []) := by
  obtain ⟨hx, hb, hml, hrt, hlocks, hown, hts, hk⟩ := C
  intro n
  induction n with
  | zero =>
    intro m_he H locs ls hf
    exact absurd hf.1 (Nat.lt_irrefl 0)
  | succ n ih =>
    intro m_he H locs ls hf hr hP hS hl
    rw [F_X8_isMore_0] at hr
    refine lv_aload_n hx hb dX8_isMore_0 rfl (lv_at hl 0 rfl) ?_
    refine va_get (D := D) (ci := 8) (v := .int m_he) (C := RX8) (T := TX8) (N := 29) hx hb hts u_X8 hown hk.1 hP 0 rfl rfl 16 (by decide) (hts _ q4_28) (fun _ h9 => h9) rfl dX8_isMore_1 ?_
    refine lv_aload_n hx hb dX8_isMore_4 rfl (lv_at hl 0 rfl) ?_
    refine va_get (D := D) (ci := 8) (v := .int m_le) (C := RX8) (T := TX8) (N := 29) hx hb hts u_X8 hown hk.1 hP 0 rfl rfl 11 (by decide) (hts _ q4_23) (fun _ h9 => h9) rfl dX8_isMore_5 ?_
    refine lv_icmp_ge (tgt := 38) hx hb dX8_isMore_8 (by decide) (fun c8 => ?_) (fun c8 => ?_)
    · have hr := (if_pos c8).symm.trans hr
      exact h0 m_he _ _ _ hr hP hS (lv_sub hl [0] rfl)
    · have hr := (if_neg c8).symm.trans hr
      refine lv_aload_n hx hb dX8_isMore_11 rfl (lv_at hl 0 rfl) ?_
      refine va_get (D := D) (ci := 8) (v := .ref (ad 4)) (C := RX8) (T := TX8) (N := 29) hx hb hts u_X8 hown hk.1 hP 0 rfl rfl 10 (by decide) (hts _ q4_22) (fun _ h9 => h9) rfl dX8_isMore_12 ?_
      refine lv_aload_n hx hb dX8_isMore_15 rfl (lv_at hl 0 rfl) ?_
      refine va_get (D := D) (ci := 8) (v := .int m_he) (C := RX8) (T := TX8) (N := 29) hx hb hts u_X8 hown hk.1 hP 0 rfl rfl 16 (by decide) (hts _ q4_28) (fun _ h9 => h9) rfl dX8_isMore_16 ?_
      refine va_iald hx hb hk.1 hP 4 0 (rfl) rfl (vin_c hf.2.2 c8 hlen) dX8_isMore_19 ?_
      refine lv_bipush (v := 32) hx hb dX8_isMore_20 (by decide) ?_
      refine lv_icmp_ne (tgt := 38) hx hb dX8_isMore_22 (by decide) (fun c22 => ?_) (fun c22 => ?_)
      · have hr := (if_neg c22).symm.trans hr
        exact h0 m_he _ _ _ hr hP hS (lv_sub hl [0] rfl)
      · have hr := (if_pos c22).symm.trans hr
        refine lv_aload_n hx hb dX8_isMore_25 rfl (lv_at hl 0 rfl) ?_
        refine lv_dup hx hb dX8_isMore_26 rfl ?_
        refine va_get (D := D) (ci := 8) (v := .int m_he) (C := RX8) (T := TX8) (N := 29) hx hb hts u_X8 hown hk.1 hP 0 rfl rfl 16 (by decide) (hts _ q4_28) (fun _ h9 => h9) rfl dX8_isMore_27 ?_
        refine lv_iconst (v := 1) hx hb dX8_isMore_30 (by decide) ?_
        refine lv_iadd hx hb dX8_isMore_31 ?_
        refine va_put (D := D) (ci := 8) (v := .int (m_he + 1)) (ty := .int) (C := RX8) (T := TX8) (N := 29) hx hb hts u_X8 tyX8 tyX8_ok nmX8 hown hk.1 hP (mw_D hAd) hS 0 rfl rfl 16 (by decide) (hts _ q4_28) (fun _ h9 => h9) rfl (tyX8_ok 16 (by decide)) rfl rfl (Nat.le_of_ble_eq_true rfl) dX8_isMore_32 (fun H locs hP _ hS => ?_)
        have hP : va_P D vwCl (mw ad cI cL cZ m_w m_h m_c m_s m_le m_un (m_he + 1) m_ro m_wi m_hi m_hr m_hp m_rn m_rw m_rh m_n m_l m_b m_to m_hs m_ho m_tx m_ik m_wt m_ac m_ap m_pa m_im m_ri) H := hP
        refine lv_goto (tgt := 0) hx hb dX8_isMore_35 (by decide) ?_
        exact ih (m_he + 1) _ _ _ (fuU_s hf c8) hr hP hS (lv_sub hl [0] rfl)
set_option maxHeartbeats 4000000 in
set_option maxRecDepth 100000 in
theorem c_X8_isMore (l : Launch) (D : va_G) (cI cL cZ : ClassId) (ad : Nat → Nat) (m_w m_h m_c m_s m_le m_un m_he m_ro m_wi m_hi m_hr m_hp m_rn m_rw m_rh : Int32) (m_n m_l m_b m_to m_hs : Int64) (m_ho m_tx m_ik m_wt : Nat → Int32) (m_ac m_ap m_pa m_im m_ri : Nat → Int64) (hAd : mInj ad) (r : Int32 × Int32) (hr : f_X8_isMore m_le m_he m_tx = r) (hh : 0 ≤ m_he.toInt) (hlen : m_le.toInt ≤ 40) : MZ l yX8_isMore (Cond.code yX8_isMore cX8_isMore 1 (some .boolean) :: W0) 0 0 D cI cL cZ (mAd ad) [.ref (ad 0)] (mw ad cI cL cZ m_w m_h m_c m_s m_le m_un m_he m_ro m_wi m_hi m_hr m_hp m_rn m_rw m_rh m_n m_l m_b m_to m_hs m_ho m_tx m_ik m_wt m_ac m_ap m_pa m_im m_ri) r.1 (mw ad cI cL cZ m_w m_h m_c m_s m_le m_un r.2 m_ro m_wi m_hi m_hr m_hp m_rn m_rw m_rh m_n m_l m_b m_to m_hs m_ho m_tx m_ik m_wt m_ac m_ap m_pa m_im m_ri) := by
  refine mk_start (cc := cX8_isMore) (maxL := 1) (ret := (some .boolean)) (by decide) rfl (Nat.le_of_ble_eq_true rfl) ?_
  intro p e s m below meth c ls C hP hS hl
  obtain ⟨hx, hb, hml, hrt, hlocks, hown, hts, hk⟩ := C
  have hown : s.vm.findClass RX8 = some m.cls := hown
  have hl : lv_has ls 1 [(0, .ref (ad 0))] := hl
  rw [f_X8_isMore] at hr
  refine lp_X8_isMore_0 l D cI cL cZ ad m_w m_h m_c m_s m_le m_un m_ro m_wi m_hi m_hr m_hp m_rn m_rw m_rh m_n m_l m_b m_to m_hs m_ho m_tx m_ik m_wt m_ac m_ap m_pa m_im m_ri ⟨hx, hb, hml, hrt, hlocks, hown, hts, hk⟩ hAd hlen _ _ (fun z1 H locs ls hr hP hS hl => ?_) (fu m_le m_he) m_he _ _ _ (fuU_0 hh) hr hP hS (lv_sub hl [0] rfl)
  refine lv_aload_n hx hb dX8_isMore_38 rfl (lv_at hl 0 rfl) ?_
  refine va_get (D := D) (ci := 8) (v := .int z1) (C := RX8) (T := TX8) (N := 29) hx hb hts u_X8 hown hk.1 hP 0 rfl rfl 16 (by decide) (hts _ q4_28) (fun _ h9 => h9) rfl dX8_isMore_39 ?_
  refine lv_aload_n hx hb dX8_isMore_42 rfl (lv_at hl 0 rfl) ?_
  refine va_get (D := D) (ci := 8) (v := .int m_le) (C := RX8) (T := TX8) (N := 29) hx hb hts u_X8 hown hk.1 hP 0 rfl rfl 11 (by decide) (hts _ q4_23) (fun _ h9 => h9) rfl dX8_isMore_43 ?_
  refine lv_icmp_ge (tgt := 53) hx hb dX8_isMore_46 (by decide) (fun c46 => ?_) (fun c46 => ?_)
  · have hr := (if_pos c46).symm.trans hr
    refine lv_iconst (v := 0) hx hb dX8_isMore_53 (by decide) ?_
    subst hr
    exact ret_z hx hb hrt hlocks bz_0 hP hS dX8_isMore_54
  · have hr := (if_neg c46).symm.trans hr
    refine lv_iconst (v := 1) hx hb dX8_isMore_49 (by decide) ?_
    refine lv_goto (tgt := 54) hx hb dX8_isMore_50 (by decide) ?_
    subst hr
    exact ret_z hx hb hrt hlocks bz_1 hP hS dX8_isMore_54
