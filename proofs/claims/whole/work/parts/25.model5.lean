theorem isSign_2 {m_le m_he : Int32} {m_tx : Nat → Int32} : (f_X8_isSign m_le m_he m_tx).2 = (f_X8_isMore m_le m_he m_tx).2 := by
  rw [f_X8_isSign, bd]
  repeat' split
  all_goals rfl
theorem isSign_nn {m_le m_he : Int32} {m_tx : Nat → Int32} {u : Int32 × Int32} (h : f_X8_isSign m_le m_he m_tx = u) (h0 : 0 ≤ m_he.toInt) : 0 ≤ u.2.toInt := by
  rw [← h, isSign_2]
  exact isMore_nn rfl h0
theorem isSign_lt {m_le m_he : Int32} {m_tx : Nat → Int32} {u : Int32 × Int32} (h : f_X8_isSign m_le m_he m_tx = u) (hc : ¬ u.1 = 0) : ¬ m_le ≤ u.2 := by
  rw [← h] at hc ⊢
  rw [isSign_2]
  refine isMore_lt rfl (fun q => hc ?_)
  rw [f_X8_isSign, bd, if_pos q]
def rb (m_ro m_wi : Int32) : Int32 := if m_ro = 0 then 4 else m_wi
theorem rb_a {m_ro m_wi x : Int32} (h : m_ro = 0) (hc : ¬ (4 : Int32) ≤ x) : ¬ rb m_ro m_wi ≤ x := by rw [rb, if_pos h]; exact hc
theorem rb_b {m_ro m_wi x : Int32} (h : ¬ m_ro = 0) (hc : ¬ m_wi ≤ x) : ¬ rb m_ro m_wi ≤ x := by rw [rb, if_neg h]; exact hc
theorem hd_X8_readsRow : yX8_readsRow.cls = RX8 ∧ yX8_readsRow.cls ≠ "java/lang/invoke/MethodHandle" ∧ yX8_readsRow.cls ≠ "java/lang/invoke/VarHandle" ∧ (parseMethodDescriptor yX8_readsRow.desc).map (fun d => d.parameters.length) = some 0 := by decide +kernel
def F_X8_readsRow_2 (m_le : Int32) (m_ro : Int32) (m_wi : Int32) (m_tx : Nat → Int32) {β : Type} (k0 : Int32 → Int32 → Int64 → β) : Nat → Int32 → Int32 → Int64 → β
  | 0, x1, m_he, m_to => k0 x1 m_he m_to
  | n + 1, x1, m_he, m_to => (bd (f_X8_isSign m_le m_he m_tx) (fun u1 => (if u1.1 = 0 then k0 x1 u1.2 m_to else (if m_ro = 0 then (if 4 ≤ x1 then k0 x1 u1.2 m_to else (if (m_tx u1.2.toNatClampNeg) = 46 then (if m_ro = 0 then F_X8_readsRow_2 m_le m_ro m_wi m_tx k0 n (x1 + 1) (u1.2 + 1) (m_to ||| (shlL 5 (3 * x1))) else F_X8_readsRow_2 m_le m_ro m_wi m_tx k0 n (x1 + 1) (u1.2 + 1) (m_to ||| (shlL 5 (3 * ((m_wi * m_ro) + x1))))) else (if m_ro = 0 then F_X8_readsRow_2 m_le m_ro m_wi m_tx k0 n (x1 + 1) (u1.2 + 1) (m_to ||| (shlL (((m_tx u1.2.toNatClampNeg) - 48).toInt64) (3 * x1))) else F_X8_readsRow_2 m_le m_ro m_wi m_tx k0 n (x1 + 1) (u1.2 + 1) (m_to ||| (shlL (((m_tx u1.2.toNatClampNeg) - 48).toInt64) (3 * ((m_wi * m_ro) + x1))))))) else (if m_wi ≤ x1 then k0 x1 u1.2 m_to else (if (m_tx u1.2.toNatClampNeg) = 46 then (if m_ro = 0 then F_X8_readsRow_2 m_le m_ro m_wi m_tx k0 n (x1 + 1) (u1.2 + 1) (m_to ||| (shlL 5 (3 * x1))) else F_X8_readsRow_2 m_le m_ro m_wi m_tx k0 n (x1 + 1) (u1.2 + 1) (m_to ||| (shlL 5 (3 * ((m_wi * m_ro) + x1))))) else (if m_ro = 0 then F_X8_readsRow_2 m_le m_ro m_wi m_tx k0 n (x1 + 1) (u1.2 + 1) (m_to ||| (shlL (((m_tx u1.2.toNatClampNeg) - 48).toInt64) (3 * x1))) else F_X8_readsRow_2 m_le m_ro m_wi m_tx k0 n (x1 + 1) (u1.2 + 1) (m_to ||| (shlL (((m_tx u1.2.toNatClampNeg) - 48).toInt64) (3 * ((m_wi * m_ro) + x1)))))))))))
def f_X8_readsRow (m_le : Int32) (m_he : Int32) (m_ro : Int32) (m_wi : Int32) (m_to : Int64) (m_tx : Nat → Int32) : Int32 × Int32 × Int32 × Int32 × Int64 := F_X8_readsRow_2 m_le m_ro m_wi m_tx (fun z2 z3 z4 => (bd (f_X8_isMore m_le z3 m_tx) (fun u5 => (if u5.1 = 0 then (0, u5.2, m_ro, m_wi, z4) else (if (m_tx u5.2.toNatClampNeg) = 59 then (if z2 ≤ 0 then (0, u5.2, m_ro, m_wi, z4) else (if m_ro = 0 then (1, u5.2 + 1, m_ro + 1, z2, z4) else (if z2 = m_wi then (1, u5.2 + 1, m_ro + 1, z2, z4) else (0, u5.2, m_ro, m_wi, z4)))) else (0, u5.2, m_ro, m_wi, z4)))))) (fu (rb m_ro m_wi) (0 : Int32)) 0 m_he m_to
set_option maxHeartbeats 4000000 in
set_option maxRecDepth 100000 in
theorem lp_X8_readsRow_2 (l : Launch) (D : va_G) (cI cL cZ : ClassId) (ad : Nat → Nat) (m_w m_h m_c m_s m_le m_un m_ro m_wi m_hi m_hr m_hp m_rn m_rw m_rh : Int32) (m_n m_l m_b m_hs : Int64) (m_ho m_tx m_ik m_wt : Nat → Int32) (m_ac m_ap m_pa m_im m_ri : Nat → Int64) {p : Program} {e : Env} {s : State} {m : MethodId} {args : Array Value} {below : List Frame} {meth : Method} {c : Code} {Q : State → Prop} (C : Cx p s m args meth c cX8_readsRow 4 (some .boolean) W0 RX8 D cI cL cZ) (hAd : mInj ad) (hlen : m_le.toInt ≤ 40) {β : Type} (k0 : Int32 → Int32 → Int64 → β) (r : β)
    (h0 : ∀ (e1 m_he : Int32) (m_to : Int64) (H : Heap) (locs : List Loc) (ls : Array Slot), 0 ≤ m_he.toInt → k0 e1 m_he m_to = r → va_P D vwCl (mw ad cI cL cZ m_w m_h m_c m_s m_le m_un m_he m_ro m_wi m_hi m_hr m_hp m_rn m_rw m_rh m_n m_l m_b m_to m_hs m_ho m_tx m_ik m_wt m_ac m_ap m_pa m_im m_ri) H → va_S (mAd ad) s.heap H locs → lv_has ls 4 [(0, .ref (ad 0)), (1, .int e1)] → W p l e (rmS 2 45) s m args below meth c H locs 0 0 Q (F0 m 113 ls [])) :
    ∀ (n : Nat) (x1 m_he : Int32) (m_to : Int64) (H : Heap) (locs : List Loc) (ls : Array Slot), fuU n (rb m_ro m_wi) x1 ∧ 0 ≤ m_he.toInt → F_X8_readsRow_2 m_le m_ro m_wi m_tx k0 n x1 m_he m_to = r → va_P D vwCl (mw ad cI cL cZ m_w m_h m_c m_s m_le m_un m_he m_ro m_wi m_hi m_hr m_hp m_rn m_rw m_rh m_n m_l m_b m_to m_hs m_ho m_tx m_ik m_wt m_ac m_ap m_pa m_im m_ri) H → va_S (mAd ad) s.heap H locs → lv_has ls 4 [(0, .ref (ad 0)), (1, .int x1)] → W p l e (rmS 2 45) s m args below meth c H locs 0 0 Q (F0 m 2 ls []) := by
  obtain ⟨hx, hb, hml, hrt, hlocks, hown, hts, hk⟩ := C
  intro n
  induction n with
  | zero =>
    intro x1 m_he m_to H locs ls hf
    exact absurd hf.1.1 (Nat.lt_irrefl 0)
  | succ n ih =>
    intro x1 m_he m_to H locs ls hf hr hP hS hl
    rw [F_X8_readsRow_2] at hr
    refine lv_aload_n hx hb dX8_readsRow_2 rfl (lv_at hl 0 rfl) ?_
    obtain ⟨u1, hu1⟩ : ∃ z, f_X8_isSign m_le m_he m_tx = z := ⟨_, rfl⟩
    have hr := (bd_eq hu1).symm.trans hr
    refine go_z (ru_V (n := 0) ⟨hx, hb, hml, hown, hts⟩ hk hP (c_X8_isSign l D cI cL cZ ad m_w m_h m_c m_s m_le m_un m_he m_ro m_wi m_hi m_hr m_hp m_rn m_rw m_rh m_n m_l m_b m_to m_hs m_ho m_tx m_ik m_wt m_ac m_ap m_pa m_im m_ri hAd _ hu1 hf.2 hlen) (cwV 0 hts (gV q4_126 q4_128 qs3_7 q1_11 q4_129) rfl rfl rfl hd_X8_isSign ⟨Nat.le_of_ble_eq_true rfl, Nat.le_of_ble_eq_true rfl⟩) (va_recv hk.1 hP (ci := 8) (q0 := 0) rfl rfl) rfl hl.1 rfl (Nat.le_of_ble_eq_true rfl) dX8_readsRow_3 ⟨Nat.zero_le _, Nat.zero_le _⟩) hS (fun _ h => h) (fun H locs hz3 hP hS => ?_)
    have hP : va_P D vwCl (mw ad cI cL cZ m_w m_h m_c m_s m_le m_un u1.2 m_ro m_wi m_hi m_hr m_hp m_rn m_rw m_rh m_n m_l m_b m_to m_hs m_ho m_tx m_ik m_wt m_ac m_ap m_pa m_im m_ri) H := hP
    refine lv_if_eq (tgt := 113) hx hb dX8_readsRow_6 (by decide) (fun c6 => ?_) (fun c6 => ?_)
    · have hr := (if_pos c6).symm.trans hr
      exact h0 x1 u1.2 m_to _ _ _ (isSign_nn hu1 hf.2) hr hP hS (lv_sub hl [0, 1] rfl)
    · have hr := (if_neg c6).symm.trans hr
      refine lv_iload_n hx hb dX8_readsRow_9 rfl (lv_at hl 1 rfl) ?_
      refine lv_aload_n hx hb dX8_readsRow_10 rfl (lv_at hl 0 rfl) ?_
      refine va_get (D := D) (ci := 8) (v := .int m_ro) (C := RX8) (T := TX8) (N := 29) hx hb hts u_X8 hown hk.1 hP 0 rfl rfl 17 (by decide) (hts _ q4_29) (fun _ h9 => h9) rfl dX8_readsRow_11 ?_
      refine lv_if_ne (tgt := 21) hx hb dX8_readsRow_14 (by decide) (fun c14 => ?_) (fun c14 => ?_)
      · have hr := (if_neg c14).symm.trans hr
        refine lv_aload_n hx hb dX8_readsRow_21 rfl (lv_at hl 0 rfl) ?_
        refine va_get (D := D) (ci := 8) (v := .int m_wi) (C := RX8) (T := TX8) (N := 29) hx hb hts u_X8 hown hk.1 hP 0 rfl rfl 18 (by decide) (hts _ q4_30) (fun _ h9 => h9) rfl dX8_readsRow_22 ?_
        refine lv_icmp_ge (tgt := 113) hx hb dX8_readsRow_25 (by decide) (fun c25 => ?_) (fun c25 => ?_)
        · have hr := (if_pos c25).symm.trans hr
          exact h0 x1 u1.2 m_to _ _ _ (isSign_nn hu1 hf.2) hr hP hS (lv_sub hl [0, 1] rfl)
        · have hr := (if_neg c25).symm.trans hr
          refine lv_aload_n hx hb dX8_readsRow_28 rfl (lv_at hl 0 rfl) ?_
          refine va_get (D := D) (ci := 8) (v := .ref (ad 4)) (C := RX8) (T := TX8) (N := 29) hx hb hts u_X8 hown hk.1 hP 0 rfl rfl 10 (by decide) (hts _ q4_22) (fun _ h9 => h9) rfl dX8_readsRow_29 ?_
          refine lv_aload_n hx hb dX8_readsRow_32 rfl (lv_at hl 0 rfl) ?_
          refine va_get (D := D) (ci := 8) (v := .int u1.2) (C := RX8) (T := TX8) (N := 29) hx hb hts u_X8 hown hk.1 hP 0 rfl rfl 16 (by decide) (hts _ q4_28) (fun _ h9 => h9) rfl dX8_readsRow_33 ?_
          refine va_iald hx hb hk.1 hP 4 0 (rfl) rfl (vin_c (isSign_nn hu1 hf.2) (isSign_lt hu1 c6) hlen) dX8_readsRow_36 ?_
          refine lv_bipush (v := 46) hx hb dX8_readsRow_37 (by decide) ?_
          refine lv_icmp_ne (tgt := 48) hx hb dX8_readsRow_39 (by decide) (fun c39 => ?_) (fun c39 => ?_)
          · have hr := (if_neg c39).symm.trans hr
            refine lv_aload_n hx hb dX8_readsRow_48 rfl (lv_at hl 0 rfl) ?_
            refine va_get (D := D) (ci := 8) (v := .ref (ad 4)) (C := RX8) (T := TX8) (N := 29) hx hb hts u_X8 hown hk.1 hP 0 rfl rfl 10 (by decide) (hts _ q4_22) (fun _ h9 => h9) rfl dX8_readsRow_49 ?_
            refine lv_aload_n hx hb dX8_readsRow_52 rfl (lv_at hl 0 rfl) ?_
            refine va_get (D := D) (ci := 8) (v := .int u1.2) (C := RX8) (T := TX8) (N := 29) hx hb hts u_X8 hown hk.1 hP 0 rfl rfl 16 (by decide) (hts _ q4_28) (fun _ h9 => h9) rfl dX8_readsRow_53 ?_
            refine va_iald hx hb hk.1 hP 4 0 (rfl) rfl (vin_c (isSign_nn hu1 hf.2) (isSign_lt hu1 c6) hlen) dX8_readsRow_56 ?_
            refine lv_bipush (v := 48) hx hb dX8_readsRow_57 (by decide) ?_
            refine lv_isub hx hb dX8_readsRow_59 ?_
            refine lv_i2l hx hb dX8_readsRow_60 rfl ?_
            refine lv_lstore_n (lv' := [(2, .long (((m_tx u1.2.toNatClampNeg) - 48).toInt64)), (0, .ref (ad 0)), (1, .int x1)]) hx hb dX8_readsRow_61 rfl hl (by decide) rfl (fun ls hl => ?_)
            refine lv_aload_n hx hb dX8_readsRow_62 rfl (lv_at hl 1 rfl) ?_
            refine lv_dup hx hb dX8_readsRow_63 rfl ?_
            refine va_get (D := D) (ci := 8) (v := .long m_to) (C := RX8) (T := TX8) (N := 29) hx hb hts u_X8 hown hk.1 hP 0 rfl rfl 19 (by decide) (hts _ q4_31) (fun _ h9 => h9) rfl dX8_readsRow_64 ?_
            refine lv_lload_n hx hb dX8_readsRow_67 rfl (lv_at hl 0 rfl) ?_
            refine lv_iconst (v := 3) hx hb dX8_readsRow_68 (by decide) ?_
            refine lv_aload_n hx hb dX8_readsRow_69 rfl (lv_at hl 1 rfl) ?_
            refine va_get (D := D) (ci := 8) (v := .int m_ro) (C := RX8) (T := TX8) (N := 29) hx hb hts u_X8 hown hk.1 hP 0 rfl rfl 17 (by decide) (hts _ q4_29) (fun _ h9 => h9) rfl dX8_readsRow_70 ?_
            refine lv_if_ne (tgt := 80) hx hb dX8_readsRow_73 (by decide) (fun c73 => ?_) (fun c73 => ?_)
            · have hr := (if_neg c73).symm.trans hr
              refine lv_aload_n hx hb dX8_readsRow_80 rfl (lv_at hl 1 rfl) ?_
              refine va_get (D := D) (ci := 8) (v := .int m_wi) (C := RX8) (T := TX8) (N := 29) hx hb hts u_X8 hown hk.1 hP 0 rfl rfl 18 (by decide) (hts _ q4_30) (fun _ h9 => h9) rfl dX8_readsRow_81 ?_
              refine lv_aload_n hx hb dX8_readsRow_84 rfl (lv_at hl 1 rfl) ?_
              refine va_get (D := D) (ci := 8) (v := .int m_ro) (C := RX8) (T := TX8) (N := 29) hx hb hts u_X8 hown hk.1 hP 0 rfl rfl 17 (by decide) (hts _ q4_29) (fun _ h9 => h9) rfl dX8_readsRow_85 ?_
              refine lv_imul hx hb dX8_readsRow_88 ?_
              refine lv_iload_n hx hb dX8_readsRow_89 rfl (lv_at hl 2 rfl) ?_
              refine lv_iadd hx hb dX8_readsRow_90 ?_
              refine lv_imul hx hb dX8_readsRow_91 ?_
              refine lv_lshl (v := shlL (((m_tx u1.2.toNatClampNeg) - 48).toInt64) (3 * ((m_wi * m_ro) + x1))) hx hb dX8_readsRow_92 rfl ?_
              refine lv_lor hx hb dX8_readsRow_93 ?_
              refine va_put (D := D) (ci := 8) (v := .long (m_to ||| (shlL (((m_tx u1.2.toNatClampNeg) - 48).toInt64) (3 * ((m_wi * m_ro) + x1))))) (ty := .long) (C := RX8) (T := TX8) (N := 29) hx hb hts u_X8 tyX8 tyX8_ok nmX8 hown hk.1 hP (mw_D hAd) hS 0 rfl rfl 19 (by decide) (hts _ q4_31) (fun _ h9 => h9) rfl (tyX8_ok 19 (by decide)) rfl rfl (Nat.le_of_ble_eq_true rfl) dX8_readsRow_94 (fun H locs hP _ hS => ?_)
              have hP : va_P D vwCl (mw ad cI cL cZ m_w m_h m_c m_s m_le m_un u1.2 m_ro m_wi m_hi m_hr m_hp m_rn m_rw m_rh m_n m_l m_b (m_to ||| (shlL (((m_tx u1.2.toNatClampNeg) - 48).toInt64) (3 * ((m_wi * m_ro) + x1)))) m_hs m_ho m_tx m_ik m_wt m_ac m_ap m_pa m_im m_ri) H := hP
              refine lv_iinc (v := x1 + 1) (lv' := [(1, .int (x1 + 1)), (2, .long (((m_tx u1.2.toNatClampNeg) - 48).toInt64)), (0, .ref (ad 0))]) hx hb dX8_readsRow_97 hl (k := 2) rfl rfl (by decide) rfl (fun ls hl => ?_)
              refine lv_aload_n hx hb dX8_readsRow_100 rfl (lv_at hl 2 rfl) ?_
              refine lv_dup hx hb dX8_readsRow_101 rfl ?_
              refine va_get (D := D) (ci := 8) (v := .int u1.2) (C := RX8) (T := TX8) (N := 29) hx hb hts u_X8 hown hk.1 hP 0 rfl rfl 16 (by decide) (hts _ q4_28) (fun _ h9 => h9) rfl dX8_readsRow_102 ?_
              refine lv_iconst (v := 1) hx hb dX8_readsRow_105 (by decide) ?_
              refine lv_iadd hx hb dX8_readsRow_106 ?_
              refine va_put (D := D) (ci := 8) (v := .int (u1.2 + 1)) (ty := .int) (C := RX8) (T := TX8) (N := 29) hx hb hts u_X8 tyX8 tyX8_ok nmX8 hown hk.1 hP (mw_D hAd) hS 0 rfl rfl 16 (by decide) (hts _ q4_28) (fun _ h9 => h9) rfl (tyX8_ok 16 (by decide)) rfl rfl (Nat.le_of_ble_eq_true rfl) dX8_readsRow_107 (fun H locs hP _ hS => ?_)
              have hP : va_P D vwCl (mw ad cI cL cZ m_w m_h m_c m_s m_le m_un (u1.2 + 1) m_ro m_wi m_hi m_hr m_hp m_rn m_rw m_rh m_n m_l m_b (m_to ||| (shlL (((m_tx u1.2.toNatClampNeg) - 48).toInt64) (3 * ((m_wi * m_ro) + x1)))) m_hs m_ho m_tx m_ik m_wt m_ac m_ap m_pa m_im m_ri) H := hP
              refine lv_goto (tgt := 2) hx hb dX8_readsRow_110 (by decide) ?_
              exact ih (x1 + 1) (u1.2 + 1) (m_to ||| (shlL (((m_tx u1.2.toNatClampNeg) - 48).toInt64) (3 * ((m_wi * m_ro) + x1)))) _ _ _ (by first | exact ⟨fuU_s hf.1 (rb_a c14 c25), inc_nn (isSign_nn hu1 hf.2) (isSign_lt hu1 c6)⟩ | exact ⟨fuU_s hf.1 (rb_b c14 c25), inc_nn (isSign_nn hu1 hf.2) (isSign_lt hu1 c6)⟩) hr hP hS (lv_sub hl [2, 0] rfl)
            · have hr := (if_pos c73).symm.trans hr
              refine lv_iload_n hx hb dX8_readsRow_76 rfl (lv_at hl 2 rfl) ?_
              refine lv_goto (tgt := 91) hx hb dX8_readsRow_77 (by decide) ?_
              refine lv_imul hx hb dX8_readsRow_91 ?_
              refine lv_lshl (v := shlL (((m_tx u1.2.toNatClampNeg) - 48).toInt64) (3 * x1)) hx hb dX8_readsRow_92 rfl ?_
              refine lv_lor hx hb dX8_readsRow_93 ?_
              refine va_put (D := D) (ci := 8) (v := .long (m_to ||| (shlL (((m_tx u1.2.toNatClampNeg) - 48).toInt64) (3 * x1)))) (ty := .long) (C := RX8) (T := TX8) (N := 29) hx hb hts u_X8 tyX8 tyX8_ok nmX8 hown hk.1 hP (mw_D hAd) hS 0 rfl rfl 19 (by decide) (hts _ q4_31) (fun _ h9 => h9) rfl (tyX8_ok 19 (by decide)) rfl rfl (Nat.le_of_ble_eq_true rfl) dX8_readsRow_94 (fun H locs hP _ hS => ?_)
              have hP : va_P D vwCl (mw ad cI cL cZ m_w m_h m_c m_s m_le m_un u1.2 m_ro m_wi m_hi m_hr m_hp m_rn m_rw m_rh m_n m_l m_b (m_to ||| (shlL (((m_tx u1.2.toNatClampNeg) - 48).toInt64) (3 * x1))) m_hs m_ho m_tx m_ik m_wt m_ac m_ap m_pa m_im m_ri) H := hP
              refine lv_iinc (v := x1 + 1) (lv' := [(1, .int (x1 + 1)), (2, .long (((m_tx u1.2.toNatClampNeg) - 48).toInt64)), (0, .ref (ad 0))]) hx hb dX8_readsRow_97 hl (k := 2) rfl rfl (by decide) rfl (fun ls hl => ?_)
              refine lv_aload_n hx hb dX8_readsRow_100 rfl (lv_at hl 2 rfl) ?_
              refine lv_dup hx hb dX8_readsRow_101 rfl ?_
              refine va_get (D := D) (ci := 8) (v := .int u1.2) (C := RX8) (T := TX8) (N := 29) hx hb hts u_X8 hown hk.1 hP 0 rfl rfl 16 (by decide) (hts _ q4_28) (fun _ h9 => h9) rfl dX8_readsRow_102 ?_
              refine lv_iconst (v := 1) hx hb dX8_readsRow_105 (by decide) ?_
              refine lv_iadd hx hb dX8_readsRow_106 ?_
              refine va_put (D := D) (ci := 8) (v := .int (u1.2 + 1)) (ty := .int) (C := RX8) (T := TX8) (N := 29) hx hb hts u_X8 tyX8 tyX8_ok nmX8 hown hk.1 hP (mw_D hAd) hS 0 rfl rfl 16 (by decide) (hts _ q4_28) (fun _ h9 => h9) rfl (tyX8_ok 16 (by decide)) rfl rfl (Nat.le_of_ble_eq_true rfl) dX8_readsRow_107 (fun H locs hP _ hS => ?_)
              have hP : va_P D vwCl (mw ad cI cL cZ m_w m_h m_c m_s m_le m_un (u1.2 + 1) m_ro m_wi m_hi m_hr m_hp m_rn m_rw m_rh m_n m_l m_b (m_to ||| (shlL (((m_tx u1.2.toNatClampNeg) - 48).toInt64) (3 * x1))) m_hs m_ho m_tx m_ik m_wt m_ac m_ap m_pa m_im m_ri) H := hP
              refine lv_goto (tgt := 2) hx hb dX8_readsRow_110 (by decide) ?_
              exact ih (x1 + 1) (u1.2 + 1) (m_to ||| (shlL (((m_tx u1.2.toNatClampNeg) - 48).toInt64) (3 * x1))) _ _ _ (by first | exact ⟨fuU_s hf.1 (rb_a c14 c25), inc_nn (isSign_nn hu1 hf.2) (isSign_lt hu1 c6)⟩ | exact ⟨fuU_s hf.1 (rb_b c14 c25), inc_nn (isSign_nn hu1 hf.2) (isSign_lt hu1 c6)⟩) hr hP hS (lv_sub hl [2, 0] rfl)
          · have hr := (if_pos c39).symm.trans hr
            refine lv_ldc2 hx hb hown (hts _ q3_228) dX8_readsRow_42 ?_
            refine lv_goto (tgt := 61) hx hb dX8_readsRow_45 (by decide) ?_
            refine lv_lstore_n (lv' := [(2, .long 5), (0, .ref (ad 0)), (1, .int x1)]) hx hb dX8_readsRow_61 rfl hl (by decide) rfl (fun ls hl => ?_)
            refine lv_aload_n hx hb dX8_readsRow_62 rfl (lv_at hl 1 rfl) ?_
            refine lv_dup hx hb dX8_readsRow_63 rfl ?_
            refine va_get (D := D) (ci := 8) (v := .long m_to) (C := RX8) (T := TX8) (N := 29) hx hb hts u_X8 hown hk.1 hP 0 rfl rfl 19 (by decide) (hts _ q4_31) (fun _ h9 => h9) rfl dX8_readsRow_64 ?_
            refine lv_lload_n hx hb dX8_readsRow_67 rfl (lv_at hl 0 rfl) ?_
            refine lv_iconst (v := 3) hx hb dX8_readsRow_68 (by decide) ?_
            refine lv_aload_n hx hb dX8_readsRow_69 rfl (lv_at hl 1 rfl) ?_
            refine va_get (D := D) (ci := 8) (v := .int m_ro) (C := RX8) (T := TX8) (N := 29) hx hb hts u_X8 hown hk.1 hP 0 rfl rfl 17 (by decide) (hts _ q4_29) (fun _ h9 => h9) rfl dX8_readsRow_70 ?_
            refine lv_if_ne (tgt := 80) hx hb dX8_readsRow_73 (by decide) (fun c73 => ?_) (fun c73 => ?_)
            · have hr := (if_neg c73).symm.trans hr
              refine lv_aload_n hx hb dX8_readsRow_80 rfl (lv_at hl 1 rfl) ?_
              refine va_get (D := D) (ci := 8) (v := .int m_wi) (C := RX8) (T := TX8) (N := 29) hx hb hts u_X8 hown hk.1 hP 0 rfl rfl 18 (by decide) (hts _ q4_30) (fun _ h9 => h9) rfl dX8_readsRow_81 ?_
              refine lv_aload_n hx hb dX8_readsRow_84 rfl (lv_at hl 1 rfl) ?_
              refine va_get (D := D) (ci := 8) (v := .int m_ro) (C := RX8) (T := TX8) (N := 29) hx hb hts u_X8 hown hk.1 hP 0 rfl rfl 17 (by decide) (hts _ q4_29) (fun _ h9 => h9) rfl dX8_readsRow_85 ?_
              refine lv_imul hx hb dX8_readsRow_88 ?_
              refine lv_iload_n hx hb dX8_readsRow_89 rfl (lv_at hl 2 rfl) ?_
              refine lv_iadd hx hb dX8_readsRow_90 ?_
              refine lv_imul hx hb dX8_readsRow_91 ?_
              refine lv_lshl (v := shlL 5 (3 * ((m_wi * m_ro) + x1))) hx hb dX8_readsRow_92 rfl ?_
              refine lv_lor hx hb dX8_readsRow_93 ?_
              refine va_put (D := D) (ci := 8) (v := .long (m_to ||| (shlL 5 (3 * ((m_wi * m_ro) + x1))))) (ty := .long) (C := RX8) (T := TX8) (N := 29) hx hb hts u_X8 tyX8 tyX8_ok nmX8 hown hk.1 hP (mw_D hAd) hS 0 rfl rfl 19 (by decide) (hts _ q4_31) (fun _ h9 => h9) rfl (tyX8_ok 19 (by decide)) rfl rfl (Nat.le_of_ble_eq_true rfl) dX8_readsRow_94 (fun H locs hP _ hS => ?_)
              have hP : va_P D vwCl (mw ad cI cL cZ m_w m_h m_c m_s m_le m_un u1.2 m_ro m_wi m_hi m_hr m_hp m_rn m_rw m_rh m_n m_l m_b (m_to ||| (shlL 5 (3 * ((m_wi * m_ro) + x1)))) m_hs m_ho m_tx m_ik m_wt m_ac m_ap m_pa m_im m_ri) H := hP
              refine lv_iinc (v := x1 + 1) (lv' := [(1, .int (x1 + 1)), (2, .long 5), (0, .ref (ad 0))]) hx hb dX8_readsRow_97 hl (k := 2) rfl rfl (by decide) rfl (fun ls hl => ?_)
              refine lv_aload_n hx hb dX8_readsRow_100 rfl (lv_at hl 2 rfl) ?_
              refine lv_dup hx hb dX8_readsRow_101 rfl ?_
              refine va_get (D := D) (ci := 8) (v := .int u1.2) (C := RX8) (T := TX8) (N := 29) hx hb hts u_X8 hown hk.1 hP 0 rfl rfl 16 (by decide) (hts _ q4_28) (fun _ h9 => h9) rfl dX8_readsRow_102 ?_
              refine lv_iconst (v := 1) hx hb dX8_readsRow_105 (by decide) ?_
              refine lv_iadd hx hb dX8_readsRow_106 ?_
              refine va_put (D := D) (ci := 8) (v := .int (u1.2 + 1)) (ty := .int) (C := RX8) (T := TX8) (N := 29) hx hb hts u_X8 tyX8 tyX8_ok nmX8 hown hk.1 hP (mw_D hAd) hS 0 rfl rfl 16 (by decide) (hts _ q4_28) (fun _ h9 => h9) rfl (tyX8_ok 16 (by decide)) rfl rfl (Nat.le_of_ble_eq_true rfl) dX8_readsRow_107 (fun H locs hP _ hS => ?_)
              have hP : va_P D vwCl (mw ad cI cL cZ m_w m_h m_c m_s m_le m_un (u1.2 + 1) m_ro m_wi m_hi m_hr m_hp m_rn m_rw m_rh m_n m_l m_b (m_to ||| (shlL 5 (3 * ((m_wi * m_ro) + x1)))) m_hs m_ho m_tx m_ik m_wt m_ac m_ap m_pa m_im m_ri) H := hP
              refine lv_goto (tgt := 2) hx hb dX8_readsRow_110 (by decide) ?_
              exact ih (x1 + 1) (u1.2 + 1) (m_to ||| (shlL 5 (3 * ((m_wi * m_ro) + x1)))) _ _ _ (by first | exact ⟨fuU_s hf.1 (rb_a c14 c25), inc_nn (isSign_nn hu1 hf.2) (isSign_lt hu1 c6)⟩ | exact ⟨fuU_s hf.1 (rb_b c14 c25), inc_nn (isSign_nn hu1 hf.2) (isSign_lt hu1 c6)⟩) hr hP hS (lv_sub hl [2, 0] rfl)
            · have hr := (if_pos c73).symm.trans hr
              refine lv_iload_n hx hb dX8_readsRow_76 rfl (lv_at hl 2 rfl) ?_
              refine lv_goto (tgt := 91) hx hb dX8_readsRow_77 (by decide) ?_
              refine lv_imul hx hb dX8_readsRow_91 ?_
              refine lv_lshl (v := shlL 5 (3 * x1)) hx hb dX8_readsRow_92 rfl ?_
              refine lv_lor hx hb dX8_readsRow_93 ?_
              refine va_put (D := D) (ci := 8) (v := .long (m_to ||| (shlL 5 (3 * x1)))) (ty := .long) (C := RX8) (T := TX8) (N := 29) hx hb hts u_X8 tyX8 tyX8_ok nmX8 hown hk.1 hP (mw_D hAd) hS 0 rfl rfl 19 (by decide) (hts _ q4_31) (fun _ h9 => h9) rfl (tyX8_ok 19 (by decide)) rfl rfl (Nat.le_of_ble_eq_true rfl) dX8_readsRow_94 (fun H locs hP _ hS => ?_)
              have hP : va_P D vwCl (mw ad cI cL cZ m_w m_h m_c m_s m_le m_un u1.2 m_ro m_wi m_hi m_hr m_hp m_rn m_rw m_rh m_n m_l m_b (m_to ||| (shlL 5 (3 * x1))) m_hs m_ho m_tx m_ik m_wt m_ac m_ap m_pa m_im m_ri) H := hP
              refine lv_iinc (v := x1 + 1) (lv' := [(1, .int (x1 + 1)), (2, .long 5), (0, .ref (ad 0))]) hx hb dX8_readsRow_97 hl (k := 2) rfl rfl (by decide) rfl (fun ls hl => ?_)
              refine lv_aload_n hx hb dX8_readsRow_100 rfl (lv_at hl 2 rfl) ?_
              refine lv_dup hx hb dX8_readsRow_101 rfl ?_
              refine va_get (D := D) (ci := 8) (v := .int u1.2) (C := RX8) (T := TX8) (N := 29) hx hb hts u_X8 hown hk.1 hP 0 rfl rfl 16 (by decide) (hts _ q4_28) (fun _ h9 => h9) rfl dX8_readsRow_102 ?_
              refine lv_iconst (v := 1) hx hb dX8_readsRow_105 (by decide) ?_
              refine lv_iadd hx hb dX8_readsRow_106 ?_
              refine va_put (D := D) (ci := 8) (v := .int (u1.2 + 1)) (ty := .int) (C := RX8) (T := TX8) (N := 29) hx hb hts u_X8 tyX8 tyX8_ok nmX8 hown hk.1 hP (mw_D hAd) hS 0 rfl rfl 16 (by decide) (hts _ q4_28) (fun _ h9 => h9) rfl (tyX8_ok 16 (by decide)) rfl rfl (Nat.le_of_ble_eq_true rfl) dX8_readsRow_107 (fun H locs hP _ hS => ?_)
              have hP : va_P D vwCl (mw ad cI cL cZ m_w m_h m_c m_s m_le m_un (u1.2 + 1) m_ro m_wi m_hi m_hr m_hp m_rn m_rw m_rh m_n m_l m_b (m_to ||| (shlL 5 (3 * x1))) m_hs m_ho m_tx m_ik m_wt m_ac m_ap m_pa m_im m_ri) H := hP
              refine lv_goto (tgt := 2) hx hb dX8_readsRow_110 (by decide) ?_
              exact ih (x1 + 1) (u1.2 + 1) (m_to ||| (shlL 5 (3 * x1))) _ _ _ (by first | exact ⟨fuU_s hf.1 (rb_a c14 c25), inc_nn (isSign_nn hu1 hf.2) (isSign_lt hu1 c6)⟩ | exact ⟨fuU_s hf.1 (rb_b c14 c25), inc_nn (isSign_nn hu1 hf.2) (isSign_lt hu1 c6)⟩) hr hP hS (lv_sub hl [2, 0] rfl)
      · have hr := (if_pos c14).symm.trans hr
        refine lv_iconst (v := 4) hx hb dX8_readsRow_17 (by decide) ?_
        refine lv_goto (tgt := 25) hx hb dX8_readsRow_18 (by decide) ?_
        refine lv_icmp_ge (tgt := 113) hx hb dX8_readsRow_25 (by decide) (fun c25 => ?_) (fun c25 => ?_)
        · have hr := (if_pos c25).symm.trans hr
          exact h0 x1 u1.2 m_to _ _ _ (isSign_nn hu1 hf.2) hr hP hS (lv_sub hl [0, 1] rfl)
        · have hr := (if_neg c25).symm.trans hr
          refine lv_aload_n hx hb dX8_readsRow_28 rfl (lv_at hl 0 rfl) ?_
          refine va_get (D := D) (ci := 8) (v := .ref (ad 4)) (C := RX8) (T := TX8) (N := 29) hx hb hts u_X8 hown hk.1 hP 0 rfl rfl 10 (by decide) (hts _ q4_22) (fun _ h9 => h9) rfl dX8_readsRow_29 ?_
          refine lv_aload_n hx hb dX8_readsRow_32 rfl (lv_at hl 0 rfl) ?_
          refine va_get (D := D) (ci := 8) (v := .int u1.2) (C := RX8) (T := TX8) (N := 29) hx hb hts u_X8 hown hk.1 hP 0 rfl rfl 16 (by decide) (hts _ q4_28) (fun _ h9 => h9) rfl dX8_readsRow_33 ?_
          refine va_iald hx hb hk.1 hP 4 0 (rfl) rfl (vin_c (isSign_nn hu1 hf.2) (isSign_lt hu1 c6) hlen) dX8_readsRow_36 ?_
          refine lv_bipush (v := 46) hx hb dX8_readsRow_37 (by decide) ?_
          refine lv_icmp_ne (tgt := 48) hx hb dX8_readsRow_39 (by decide) (fun c39 => ?_) (fun c39 => ?_)
          · have hr := (if_neg c39).symm.trans hr
            refine lv_aload_n hx hb dX8_readsRow_48 rfl (lv_at hl 0 rfl) ?_
            refine va_get (D := D) (ci := 8) (v := .ref (ad 4)) (C := RX8) (T := TX8) (N := 29) hx hb hts u_X8 hown hk.1 hP 0 rfl rfl 10 (by decide) (hts _ q4_22) (fun _ h9 => h9) rfl dX8_readsRow_49 ?_
            refine lv_aload_n hx hb dX8_readsRow_52 rfl (lv_at hl 0 rfl) ?_
            refine va_get (D := D) (ci := 8) (v := .int u1.2) (C := RX8) (T := TX8) (N := 29) hx hb hts u_X8 hown hk.1 hP 0 rfl rfl 16 (by decide) (hts _ q4_28) (fun _ h9 => h9) rfl dX8_readsRow_53 ?_
            refine va_iald hx hb hk.1 hP 4 0 (rfl) rfl (vin_c (isSign_nn hu1 hf.2) (isSign_lt hu1 c6) hlen) dX8_readsRow_56 ?_
            refine lv_bipush (v := 48) hx hb dX8_readsRow_57 (by decide) ?_
            refine lv_isub hx hb dX8_readsRow_59 ?_
            refine lv_i2l hx hb dX8_readsRow_60 rfl ?_
            refine lv_lstore_n (lv' := [(2, .long (((m_tx u1.2.toNatClampNeg) - 48).toInt64)), (0, .ref (ad 0)), (1, .int x1)]) hx hb dX8_readsRow_61 rfl hl (by decide) rfl (fun ls hl => ?_)
            refine lv_aload_n hx hb dX8_readsRow_62 rfl (lv_at hl 1 rfl) ?_
            refine lv_dup hx hb dX8_readsRow_63 rfl ?_
            refine va_get (D := D) (ci := 8) (v := .long m_to) (C := RX8) (T := TX8) (N := 29) hx hb hts u_X8 hown hk.1 hP 0 rfl rfl 19 (by decide) (hts _ q4_31) (fun _ h9 => h9) rfl dX8_readsRow_64 ?_
            refine lv_lload_n hx hb dX8_readsRow_67 rfl (lv_at hl 0 rfl) ?_
            refine lv_iconst (v := 3) hx hb dX8_readsRow_68 (by decide) ?_
            refine lv_aload_n hx hb dX8_readsRow_69 rfl (lv_at hl 1 rfl) ?_
            refine va_get (D := D) (ci := 8) (v := .int m_ro) (C := RX8) (T := TX8) (N := 29) hx hb hts u_X8 hown hk.1 hP 0 rfl rfl 17 (by decide) (hts _ q4_29) (fun _ h9 => h9) rfl dX8_readsRow_70 ?_
            refine lv_if_ne (tgt := 80) hx hb dX8_readsRow_73 (by decide) (fun c73 => ?_) (fun c73 => ?_)
            · have hr := (if_neg c73).symm.trans hr
              refine lv_aload_n hx hb dX8_readsRow_80 rfl (lv_at hl 1 rfl) ?_
              refine va_get (D := D) (ci := 8) (v := .int m_wi) (C := RX8) (T := TX8) (N := 29) hx hb hts u_X8 hown hk.1 hP 0 rfl rfl 18 (by decide) (hts _ q4_30) (fun _ h9 => h9) rfl dX8_readsRow_81 ?_
              refine lv_aload_n hx hb dX8_readsRow_84 rfl (lv_at hl 1 rfl) ?_
              refine va_get (D := D) (ci := 8) (v := .int m_ro) (C := RX8) (T := TX8) (N := 29) hx hb hts u_X8 hown hk.1 hP 0 rfl rfl 17 (by decide) (hts _ q4_29) (fun _ h9 => h9) rfl dX8_readsRow_85 ?_
              refine lv_imul hx hb dX8_readsRow_88 ?_
              refine lv_iload_n hx hb dX8_readsRow_89 rfl (lv_at hl 2 rfl) ?_
              refine lv_iadd hx hb dX8_readsRow_90 ?_
              refine lv_imul hx hb dX8_readsRow_91 ?_
              refine lv_lshl (v := shlL (((m_tx u1.2.toNatClampNeg) - 48).toInt64) (3 * ((m_wi * m_ro) + x1))) hx hb dX8_readsRow_92 rfl ?_
              refine lv_lor hx hb dX8_readsRow_93 ?_
              refine va_put (D := D) (ci := 8) (v := .long (m_to ||| (shlL (((m_tx u1.2.toNatClampNeg) - 48).toInt64) (3 * ((m_wi * m_ro) + x1))))) (ty := .long) (C := RX8) (T := TX8) (N := 29) hx hb hts u_X8 tyX8 tyX8_ok nmX8 hown hk.1 hP (mw_D hAd) hS 0 rfl rfl 19 (by decide) (hts _ q4_31) (fun _ h9 => h9) rfl (tyX8_ok 19 (by decide)) rfl rfl (Nat.le_of_ble_eq_true rfl) dX8_readsRow_94 (fun H locs hP _ hS => ?_)
              have hP : va_P D vwCl (mw ad cI cL cZ m_w m_h m_c m_s m_le m_un u1.2 m_ro m_wi m_hi m_hr m_hp m_rn m_rw m_rh m_n m_l m_b (m_to ||| (shlL (((m_tx u1.2.toNatClampNeg) - 48).toInt64) (3 * ((m_wi * m_ro) + x1)))) m_hs m_ho m_tx m_ik m_wt m_ac m_ap m_pa m_im m_ri) H := hP
              refine lv_iinc (v := x1 + 1) (lv' := [(1, .int (x1 + 1)), (2, .long (((m_tx u1.2.toNatClampNeg) - 48).toInt64)), (0, .ref (ad 0))]) hx hb dX8_readsRow_97 hl (k := 2) rfl rfl (by decide) rfl (fun ls hl => ?_)
              refine lv_aload_n hx hb dX8_readsRow_100 rfl (lv_at hl 2 rfl) ?_
              refine lv_dup hx hb dX8_readsRow_101 rfl ?_
              refine va_get (D := D) (ci := 8) (v := .int u1.2) (C := RX8) (T := TX8) (N := 29) hx hb hts u_X8 hown hk.1 hP 0 rfl rfl 16 (by decide) (hts _ q4_28) (fun _ h9 => h9) rfl dX8_readsRow_102 ?_
              refine lv_iconst (v := 1) hx hb dX8_readsRow_105 (by decide) ?_
              refine lv_iadd hx hb dX8_readsRow_106 ?_
              refine va_put (D := D) (ci := 8) (v := .int (u1.2 + 1)) (ty := .int) (C := RX8) (T := TX8) (N := 29) hx hb hts u_X8 tyX8 tyX8_ok nmX8 hown hk.1 hP (mw_D hAd) hS 0 rfl rfl 16 (by decide) (hts _ q4_28) (fun _ h9 => h9) rfl (tyX8_ok 16 (by decide)) rfl rfl (Nat.le_of_ble_eq_true rfl) dX8_readsRow_107 (fun H locs hP _ hS => ?_)
              have hP : va_P D vwCl (mw ad cI cL cZ m_w m_h m_c m_s m_le m_un (u1.2 + 1) m_ro m_wi m_hi m_hr m_hp m_rn m_rw m_rh m_n m_l m_b (m_to ||| (shlL (((m_tx u1.2.toNatClampNeg) - 48).toInt64) (3 * ((m_wi * m_ro) + x1)))) m_hs m_ho m_tx m_ik m_wt m_ac m_ap m_pa m_im m_ri) H := hP
              refine lv_goto (tgt := 2) hx hb dX8_readsRow_110 (by decide) ?_
              exact ih (x1 + 1) (u1.2 + 1) (m_to ||| (shlL (((m_tx u1.2.toNatClampNeg) - 48).toInt64) (3 * ((m_wi * m_ro) + x1)))) _ _ _ (by first | exact ⟨fuU_s hf.1 (rb_a c14 c25), inc_nn (isSign_nn hu1 hf.2) (isSign_lt hu1 c6)⟩ | exact ⟨fuU_s hf.1 (rb_b c14 c25), inc_nn (isSign_nn hu1 hf.2) (isSign_lt hu1 c6)⟩) hr hP hS (lv_sub hl [2, 0] rfl)
            · have hr := (if_pos c73).symm.trans hr
              refine lv_iload_n hx hb dX8_readsRow_76 rfl (lv_at hl 2 rfl) ?_
              refine lv_goto (tgt := 91) hx hb dX8_readsRow_77 (by decide) ?_
              refine lv_imul hx hb dX8_readsRow_91 ?_
              refine lv_lshl (v := shlL (((m_tx u1.2.toNatClampNeg) - 48).toInt64) (3 * x1)) hx hb dX8_readsRow_92 rfl ?_
              refine lv_lor hx hb dX8_readsRow_93 ?_
              refine va_put (D := D) (ci := 8) (v := .long (m_to ||| (shlL (((m_tx u1.2.toNatClampNeg) - 48).toInt64) (3 * x1)))) (ty := .long) (C := RX8) (T := TX8) (N := 29) hx hb hts u_X8 tyX8 tyX8_ok nmX8 hown hk.1 hP (mw_D hAd) hS 0 rfl rfl 19 (by decide) (hts _ q4_31) (fun _ h9 => h9) rfl (tyX8_ok 19 (by decide)) rfl rfl (Nat.le_of_ble_eq_true rfl) dX8_readsRow_94 (fun H locs hP _ hS => ?_)
              have hP : va_P D vwCl (mw ad cI cL cZ m_w m_h m_c m_s m_le m_un u1.2 m_ro m_wi m_hi m_hr m_hp m_rn m_rw m_rh m_n m_l m_b (m_to ||| (shlL (((m_tx u1.2.toNatClampNeg) - 48).toInt64) (3 * x1))) m_hs m_ho m_tx m_ik m_wt m_ac m_ap m_pa m_im m_ri) H := hP
              refine lv_iinc (v := x1 + 1) (lv' := [(1, .int (x1 + 1)), (2, .long (((m_tx u1.2.toNatClampNeg) - 48).toInt64)), (0, .ref (ad 0))]) hx hb dX8_readsRow_97 hl (k := 2) rfl rfl (by decide) rfl (fun ls hl => ?_)
              refine lv_aload_n hx hb dX8_readsRow_100 rfl (lv_at hl 2 rfl) ?_
              refine lv_dup hx hb dX8_readsRow_101 rfl ?_
              refine va_get (D := D) (ci := 8) (v := .int u1.2) (C := RX8) (T := TX8) (N := 29) hx hb hts u_X8 hown hk.1 hP 0 rfl rfl 16 (by decide) (hts _ q4_28) (fun _ h9 => h9) rfl dX8_readsRow_102 ?_
              refine lv_iconst (v := 1) hx hb dX8_readsRow_105 (by decide) ?_
              refine lv_iadd hx hb dX8_readsRow_106 ?_
              refine va_put (D := D) (ci := 8) (v := .int (u1.2 + 1)) (ty := .int) (C := RX8) (T := TX8) (N := 29) hx hb hts u_X8 tyX8 tyX8_ok nmX8 hown hk.1 hP (mw_D hAd) hS 0 rfl rfl 16 (by decide) (hts _ q4_28) (fun _ h9 => h9) rfl (tyX8_ok 16 (by decide)) rfl rfl (Nat.le_of_ble_eq_true rfl) dX8_readsRow_107 (fun H locs hP _ hS => ?_)
              have hP : va_P D vwCl (mw ad cI cL cZ m_w m_h m_c m_s m_le m_un (u1.2 + 1) m_ro m_wi m_hi m_hr m_hp m_rn m_rw m_rh m_n m_l m_b (m_to ||| (shlL (((m_tx u1.2.toNatClampNeg) - 48).toInt64) (3 * x1))) m_hs m_ho m_tx m_ik m_wt m_ac m_ap m_pa m_im m_ri) H := hP
              refine lv_goto (tgt := 2) hx hb dX8_readsRow_110 (by decide) ?_
              exact ih (x1 + 1) (u1.2 + 1) (m_to ||| (shlL (((m_tx u1.2.toNatClampNeg) - 48).toInt64) (3 * x1))) _ _ _ (by first | exact ⟨fuU_s hf.1 (rb_a c14 c25), inc_nn (isSign_nn hu1 hf.2) (isSign_lt hu1 c6)⟩ | exact ⟨fuU_s hf.1 (rb_b c14 c25), inc_nn (isSign_nn hu1 hf.2) (isSign_lt hu1 c6)⟩) hr hP hS (lv_sub hl [2, 0] rfl)
          · have hr := (if_pos c39).symm.trans hr
            refine lv_ldc2 hx hb hown (hts _ q3_228) dX8_readsRow_42 ?_
            refine lv_goto (tgt := 61) hx hb dX8_readsRow_45 (by decide) ?_
            refine lv_lstore_n (lv' := [(2, .long 5), (0, .ref (ad 0)), (1, .int x1)]) hx hb dX8_readsRow_61 rfl hl (by decide) rfl (fun ls hl => ?_)
            refine lv_aload_n hx hb dX8_readsRow_62 rfl (lv_at hl 1 rfl) ?_
            refine lv_dup hx hb dX8_readsRow_63 rfl ?_
            refine va_get (D := D) (ci := 8) (v := .long m_to) (C := RX8) (T := TX8) (N := 29) hx hb hts u_X8 hown hk.1 hP 0 rfl rfl 19 (by decide) (hts _ q4_31) (fun _ h9 => h9) rfl dX8_readsRow_64 ?_
            refine lv_lload_n hx hb dX8_readsRow_67 rfl (lv_at hl 0 rfl) ?_
            refine lv_iconst (v := 3) hx hb dX8_readsRow_68 (by decide) ?_
            refine lv_aload_n hx hb dX8_readsRow_69 rfl (lv_at hl 1 rfl) ?_
            refine va_get (D := D) (ci := 8) (v := .int m_ro) (C := RX8) (T := TX8) (N := 29) hx hb hts u_X8 hown hk.1 hP 0 rfl rfl 17 (by decide) (hts _ q4_29) (fun _ h9 => h9) rfl dX8_readsRow_70 ?_
            refine lv_if_ne (tgt := 80) hx hb dX8_readsRow_73 (by decide) (fun c73 => ?_) (fun c73 => ?_)
            · have hr := (if_neg c73).symm.trans hr
              refine lv_aload_n hx hb dX8_readsRow_80 rfl (lv_at hl 1 rfl) ?_
              refine va_get (D := D) (ci := 8) (v := .int m_wi) (C := RX8) (T := TX8) (N := 29) hx hb hts u_X8 hown hk.1 hP 0 rfl rfl 18 (by decide) (hts _ q4_30) (fun _ h9 => h9) rfl dX8_readsRow_81 ?_
              refine lv_aload_n hx hb dX8_readsRow_84 rfl (lv_at hl 1 rfl) ?_
              refine va_get (D := D) (ci := 8) (v := .int m_ro) (C := RX8) (T := TX8) (N := 29) hx hb hts u_X8 hown hk.1 hP 0 rfl rfl 17 (by decide) (hts _ q4_29) (fun _ h9 => h9) rfl dX8_readsRow_85 ?_
              refine lv_imul hx hb dX8_readsRow_88 ?_
              refine lv_iload_n hx hb dX8_readsRow_89 rfl (lv_at hl 2 rfl) ?_
              refine lv_iadd hx hb dX8_readsRow_90 ?_
              refine lv_imul hx hb dX8_readsRow_91 ?_
              refine lv_lshl (v := shlL 5 (3 * ((m_wi * m_ro) + x1))) hx hb dX8_readsRow_92 rfl ?_
              refine lv_lor hx hb dX8_readsRow_93 ?_
              refine va_put (D := D) (ci := 8) (v := .long (m_to ||| (shlL 5 (3 * ((m_wi * m_ro) + x1))))) (ty := .long) (C := RX8) (T := TX8) (N := 29) hx hb hts u_X8 tyX8 tyX8_ok nmX8 hown hk.1 hP (mw_D hAd) hS 0 rfl rfl 19 (by decide) (hts _ q4_31) (fun _ h9 => h9) rfl (tyX8_ok 19 (by decide)) rfl rfl (Nat.le_of_ble_eq_true rfl) dX8_readsRow_94 (fun H locs hP _ hS => ?_)
              have hP : va_P D vwCl (mw ad cI cL cZ m_w m_h m_c m_s m_le m_un u1.2 m_ro m_wi m_hi m_hr m_hp m_rn m_rw m_rh m_n m_l m_b (m_to ||| (shlL 5 (3 * ((m_wi * m_ro) + x1)))) m_hs m_ho m_tx m_ik m_wt m_ac m_ap m_pa m_im m_ri) H := hP
              refine lv_iinc (v := x1 + 1) (lv' := [(1, .int (x1 + 1)), (2, .long 5), (0, .ref (ad 0))]) hx hb dX8_readsRow_97 hl (k := 2) rfl rfl (by decide) rfl (fun ls hl => ?_)
              refine lv_aload_n hx hb dX8_readsRow_100 rfl (lv_at hl 2 rfl) ?_
              refine lv_dup hx hb dX8_readsRow_101 rfl ?_
              refine va_get (D := D) (ci := 8) (v := .int u1.2) (C := RX8) (T := TX8) (N := 29) hx hb hts u_X8 hown hk.1 hP 0 rfl rfl 16 (by decide) (hts _ q4_28) (fun _ h9 => h9) rfl dX8_readsRow_102 ?_
              refine lv_iconst (v := 1) hx hb dX8_readsRow_105 (by decide) ?_
              refine lv_iadd hx hb dX8_readsRow_106 ?_
              refine va_put (D := D) (ci := 8) (v := .int (u1.2 + 1)) (ty := .int) (C := RX8) (T := TX8) (N := 29) hx hb hts u_X8 tyX8 tyX8_ok nmX8 hown hk.1 hP (mw_D hAd) hS 0 rfl rfl 16 (by decide) (hts _ q4_28) (fun _ h9 => h9) rfl (tyX8_ok 16 (by decide)) rfl rfl (Nat.le_of_ble_eq_true rfl) dX8_readsRow_107 (fun H locs hP _ hS => ?_)
              have hP : va_P D vwCl (mw ad cI cL cZ m_w m_h m_c m_s m_le m_un (u1.2 + 1) m_ro m_wi m_hi m_hr m_hp m_rn m_rw m_rh m_n m_l m_b (m_to ||| (shlL 5 (3 * ((m_wi * m_ro) + x1)))) m_hs m_ho m_tx m_ik m_wt m_ac m_ap m_pa m_im m_ri) H := hP
              refine lv_goto (tgt := 2) hx hb dX8_readsRow_110 (by decide) ?_
              exact ih (x1 + 1) (u1.2 + 1) (m_to ||| (shlL 5 (3 * ((m_wi * m_ro) + x1)))) _ _ _ (by first | exact ⟨fuU_s hf.1 (rb_a c14 c25), inc_nn (isSign_nn hu1 hf.2) (isSign_lt hu1 c6)⟩ | exact ⟨fuU_s hf.1 (rb_b c14 c25), inc_nn (isSign_nn hu1 hf.2) (isSign_lt hu1 c6)⟩) hr hP hS (lv_sub hl [2, 0] rfl)
            · have hr := (if_pos c73).symm.trans hr
              refine lv_iload_n hx hb dX8_readsRow_76 rfl (lv_at hl 2 rfl) ?_
              refine lv_goto (tgt := 91) hx hb dX8_readsRow_77 (by decide) ?_
              refine lv_imul hx hb dX8_readsRow_91 ?_
              refine lv_lshl (v := shlL 5 (3 * x1)) hx hb dX8_readsRow_92 rfl ?_
              refine lv_lor hx hb dX8_readsRow_93 ?_
              refine va_put (D := D) (ci := 8) (v := .long (m_to ||| (shlL 5 (3 * x1)))) (ty := .long) (C := RX8) (T := TX8) (N := 29) hx hb hts u_X8 tyX8 tyX8_ok nmX8 hown hk.1 hP (mw_D hAd) hS 0 rfl rfl 19 (by decide) (hts _ q4_31) (fun _ h9 => h9) rfl (tyX8_ok 19 (by decide)) rfl rfl (Nat.le_of_ble_eq_true rfl) dX8_readsRow_94 (fun H locs hP _ hS => ?_)
              have hP : va_P D vwCl (mw ad cI cL cZ m_w m_h m_c m_s m_le m_un u1.2 m_ro m_wi m_hi m_hr m_hp m_rn m_rw m_rh m_n m_l m_b (m_to ||| (shlL 5 (3 * x1))) m_hs m_ho m_tx m_ik m_wt m_ac m_ap m_pa m_im m_ri) H := hP
              refine lv_iinc (v := x1 + 1) (lv' := [(1, .int (x1 + 1)), (2, .long 5), (0, .ref (ad 0))]) hx hb dX8_readsRow_97 hl (k := 2) rfl rfl (by decide) rfl (fun ls hl => ?_)
              refine lv_aload_n hx hb dX8_readsRow_100 rfl (lv_at hl 2 rfl) ?_
              refine lv_dup hx hb dX8_readsRow_101 rfl ?_
              refine va_get (D := D) (ci := 8) (v := .int u1.2) (C := RX8) (T := TX8) (N := 29) hx hb hts u_X8 hown hk.1 hP 0 rfl rfl 16 (by decide) (hts _ q4_28) (fun _ h9 => h9) rfl dX8_readsRow_102 ?_
              refine lv_iconst (v := 1) hx hb dX8_readsRow_105 (by decide) ?_
              refine lv_iadd hx hb dX8_readsRow_106 ?_
              refine va_put (D := D) (ci := 8) (v := .int (u1.2 + 1)) (ty := .int) (C := RX8) (T := TX8) (N := 29) hx hb hts u_X8 tyX8 tyX8_ok nmX8 hown hk.1 hP (mw_D hAd) hS 0 rfl rfl 16 (by decide) (hts _ q4_28) (fun _ h9 => h9) rfl (tyX8_ok 16 (by decide)) rfl rfl (Nat.le_of_ble_eq_true rfl) dX8_readsRow_107 (fun H locs hP _ hS => ?_)
              have hP : va_P D vwCl (mw ad cI cL cZ m_w m_h m_c m_s m_le m_un (u1.2 + 1) m_ro m_wi m_hi m_hr m_hp m_rn m_rw m_rh m_n m_l m_b (m_to ||| (shlL 5 (3 * x1))) m_hs m_ho m_tx m_ik m_wt m_ac m_ap m_pa m_im m_ri) H := hP
              refine lv_goto (tgt := 2) hx hb dX8_readsRow_110 (by decide) ?_
              exact ih (x1 + 1) (u1.2 + 1) (m_to ||| (shlL 5 (3 * x1))) _ _ _ (by first | exact ⟨fuU_s hf.1 (rb_a c14 c25), inc_nn (isSign_nn hu1 hf.2) (isSign_lt hu1 c6)⟩ | exact ⟨fuU_s hf.1 (rb_b c14 c25), inc_nn (isSign_nn hu1 hf.2) (isSign_lt hu1 c6)⟩) hr hP hS (lv_sub hl [2, 0] rfl)
set_option maxHeartbeats 4000000 in
set_option maxRecDepth 100000 in
theorem c_X8_readsRow (l : Launch) (D : va_G) (cI cL cZ : ClassId) (ad : Nat → Nat) (m_w m_h m_c m_s m_le m_un m_he m_ro m_wi m_hi m_hr m_hp m_rn m_rw m_rh : Int32) (m_n m_l m_b m_to m_hs : Int64) (m_ho m_tx m_ik m_wt : Nat → Int32) (m_ac m_ap m_pa m_im m_ri : Nat → Int64) (hAd : mInj ad) (r : Int32 × Int32 × Int32 × Int32 × Int64) (hr : f_X8_readsRow m_le m_he m_ro m_wi m_to m_tx = r) (hh : 0 ≤ m_he.toInt) (hlen : m_le.toInt ≤ 40) : MZ l yX8_readsRow (Cond.code yX8_readsRow cX8_readsRow 4 (some .boolean) :: W0) 2 45 D cI cL cZ (mAd ad) [.ref (ad 0)] (mw ad cI cL cZ m_w m_h m_c m_s m_le m_un m_he m_ro m_wi m_hi m_hr m_hp m_rn m_rw m_rh m_n m_l m_b m_to m_hs m_ho m_tx m_ik m_wt m_ac m_ap m_pa m_im m_ri) r.1 (mw ad cI cL cZ m_w m_h m_c m_s m_le m_un r.2.1 r.2.2.1 r.2.2.2.1 m_hi m_hr m_hp m_rn m_rw m_rh m_n m_l m_b r.2.2.2.2 m_hs m_ho m_tx m_ik m_wt m_ac m_ap m_pa m_im m_ri) := by
  refine mk_start (cc := cX8_readsRow) (maxL := 4) (ret := (some .boolean)) (by decide) rfl (Nat.le_of_ble_eq_true rfl) ?_
  intro p e s m below meth c ls C hP hS hl
  obtain ⟨hx, hb, hml, hrt, hlocks, hown, hts, hk⟩ := C
  have hown : s.vm.findClass RX8 = some m.cls := hown
  have hl : lv_has ls 4 [(0, .ref (ad 0))] := hl
  rw [f_X8_readsRow] at hr
  refine lv_iconst (v := 0) hx hb dX8_readsRow_0 (by decide) ?_
  refine lv_istore_n (lv' := [(1, .int 0), (0, .ref (ad 0))]) hx hb dX8_readsRow_1 rfl hl (by decide) rfl (fun ls hl => ?_)
  refine lp_X8_readsRow_2 l D cI cL cZ ad m_w m_h m_c m_s m_le m_un m_ro m_wi m_hi m_hr m_hp m_rn m_rw m_rh m_n m_l m_b m_hs m_ho m_tx m_ik m_wt m_ac m_ap m_pa m_im m_ri ⟨hx, hb, hml, hrt, hlocks, hown, hts, hk⟩ hAd hlen _ _ (fun z2 z3 z4 H locs ls hz3 hr hP hS hl => ?_) (fu (rb m_ro m_wi) (0 : Int32)) 0 m_he m_to _ _ _ ⟨fuU_0 (by decide), hh⟩ hr hP hS (lv_sub hl [1, 0] rfl)
  refine lv_aload_n hx hb dX8_readsRow_113 rfl (lv_at hl 0 rfl) ?_
  obtain ⟨u5, hu5⟩ : ∃ z, f_X8_isMore m_le z3 m_tx = z := ⟨_, rfl⟩
  have hr := (bd_eq hu5).symm.trans hr
  refine go_z (ru_V (n := 0) ⟨hx, hb, hml, hown, hts⟩ hk hP (c_X8_isMore l D cI cL cZ ad m_w m_h m_c m_s m_le m_un z3 m_ro m_wi m_hi m_hr m_hp m_rn m_rw m_rh m_n m_l m_b z4 m_hs m_ho m_tx m_ik m_wt m_ac m_ap m_pa m_im m_ri hAd _ hu5 hz3 hlen) (cwV 0 hts (gV q4_118 q4_120 qs3_5 q1_11 q4_121) rfl rfl rfl hd_X8_isMore ⟨Nat.le_of_ble_eq_true rfl, Nat.le_of_ble_eq_true rfl⟩) (va_recv hk.1 hP (ci := 8) (q0 := 0) rfl rfl) rfl hl.1 rfl (Nat.le_of_ble_eq_true rfl) dX8_readsRow_114 ⟨Nat.zero_le _, Nat.zero_le _⟩) hS (fun _ h => h) (fun H locs hz114 hP hS => ?_)
  have hP : va_P D vwCl (mw ad cI cL cZ m_w m_h m_c m_s m_le m_un u5.2 m_ro m_wi m_hi m_hr m_hp m_rn m_rw m_rh m_n m_l m_b z4 m_hs m_ho m_tx m_ik m_wt m_ac m_ap m_pa m_im m_ri) H := hP
  refine lv_if_eq (tgt := 157) hx hb dX8_readsRow_117 (by decide) (fun c117 => ?_) (fun c117 => ?_)
  · have hr := (if_pos c117).symm.trans hr
    refine lv_iconst (v := 0) hx hb dX8_readsRow_157 (by decide) ?_
    refine lv_istore_n (lv' := [(2, .int 0), (0, .ref (ad 0)), (1, .int z2)]) hx hb dX8_readsRow_158 rfl hl (by decide) rfl (fun ls hl => ?_)
    refine lv_iload_n hx hb dX8_readsRow_159 rfl (lv_at hl 0 rfl) ?_
    refine lv_if_eq (tgt := 188) hx hb dX8_readsRow_160 (by decide) (fun c160 => ?_) (fun c160 => ?_)
    · refine lv_iload_n hx hb dX8_readsRow_188 rfl (lv_at hl 0 rfl) ?_
      subst hr
      exact ret_z hx hb hrt hlocks bz_0 hP hS dX8_readsRow_189
    · exact absurd (by decide) c160
  · have hr := (if_neg c117).symm.trans hr
    refine lv_aload_n hx hb dX8_readsRow_120 rfl (lv_at hl 0 rfl) ?_
    refine va_get (D := D) (ci := 8) (v := .ref (ad 4)) (C := RX8) (T := TX8) (N := 29) hx hb hts u_X8 hown hk.1 hP 0 rfl rfl 10 (by decide) (hts _ q4_22) (fun _ h9 => h9) rfl dX8_readsRow_121 ?_
    refine lv_aload_n hx hb dX8_readsRow_124 rfl (lv_at hl 0 rfl) ?_
    refine va_get (D := D) (ci := 8) (v := .int u5.2) (C := RX8) (T := TX8) (N := 29) hx hb hts u_X8 hown hk.1 hP 0 rfl rfl 16 (by decide) (hts _ q4_28) (fun _ h9 => h9) rfl dX8_readsRow_125 ?_
    refine va_iald hx hb hk.1 hP 4 0 (rfl) rfl (vin_c (isMore_nn hu5 hz3) (isMore_lt hu5 c117) hlen) dX8_readsRow_128 ?_
    refine lv_bipush (v := 59) hx hb dX8_readsRow_129 (by decide) ?_
    refine lv_icmp_ne (tgt := 157) hx hb dX8_readsRow_131 (by decide) (fun c131 => ?_) (fun c131 => ?_)
    · have hr := (if_neg c131).symm.trans hr
      refine lv_iconst (v := 0) hx hb dX8_readsRow_157 (by decide) ?_
      refine lv_istore_n (lv' := [(2, .int 0), (0, .ref (ad 0)), (1, .int z2)]) hx hb dX8_readsRow_158 rfl hl (by decide) rfl (fun ls hl => ?_)
      refine lv_iload_n hx hb dX8_readsRow_159 rfl (lv_at hl 0 rfl) ?_
      refine lv_if_eq (tgt := 188) hx hb dX8_readsRow_160 (by decide) (fun c160 => ?_) (fun c160 => ?_)
      · refine lv_iload_n hx hb dX8_readsRow_188 rfl (lv_at hl 0 rfl) ?_
        subst hr
        exact ret_z hx hb hrt hlocks bz_0 hP hS dX8_readsRow_189
      · exact absurd (by decide) c160
    · have hr := (if_pos c131).symm.trans hr
      refine lv_iload_n hx hb dX8_readsRow_134 rfl (lv_at hl 1 rfl) ?_
      refine lv_if_le (tgt := 157) hx hb dX8_readsRow_135 (by decide) (fun c135 => ?_) (fun c135 => ?_)
      · have hr := (if_pos c135).symm.trans hr
        refine lv_iconst (v := 0) hx hb dX8_readsRow_157 (by decide) ?_
        refine lv_istore_n (lv' := [(2, .int 0), (0, .ref (ad 0)), (1, .int z2)]) hx hb dX8_readsRow_158 rfl hl (by decide) rfl (fun ls hl => ?_)
        refine lv_iload_n hx hb dX8_readsRow_159 rfl (lv_at hl 0 rfl) ?_
        refine lv_if_eq (tgt := 188) hx hb dX8_readsRow_160 (by decide) (fun c160 => ?_) (fun c160 => ?_)
        · refine lv_iload_n hx hb dX8_readsRow_188 rfl (lv_at hl 0 rfl) ?_
          subst hr
          exact ret_z hx hb hrt hlocks bz_0 hP hS dX8_readsRow_189
        · exact absurd (by decide) c160
      · have hr := (if_neg c135).symm.trans hr
        refine lv_aload_n hx hb dX8_readsRow_138 rfl (lv_at hl 0 rfl) ?_
        refine va_get (D := D) (ci := 8) (v := .int m_ro) (C := RX8) (T := TX8) (N := 29) hx hb hts u_X8 hown hk.1 hP 0 rfl rfl 17 (by decide) (hts _ q4_29) (fun _ h9 => h9) rfl dX8_readsRow_139 ?_
        refine lv_if_eq (tgt := 153) hx hb dX8_readsRow_142 (by decide) (fun c142 => ?_) (fun c142 => ?_)
        · have hr := (if_pos c142).symm.trans hr
          refine lv_iconst (v := 1) hx hb dX8_readsRow_153 (by decide) ?_
          refine lv_goto (tgt := 158) hx hb dX8_readsRow_154 (by decide) ?_
          refine lv_istore_n (lv' := [(2, .int 1), (0, .ref (ad 0)), (1, .int z2)]) hx hb dX8_readsRow_158 rfl hl (by decide) rfl (fun ls hl => ?_)
          refine lv_iload_n hx hb dX8_readsRow_159 rfl (lv_at hl 0 rfl) ?_
          refine lv_if_eq (tgt := 188) hx hb dX8_readsRow_160 (by decide) (fun c160 => ?_) (fun c160 => ?_)
          · exact absurd c160 (by decide)
          · refine lv_aload_n hx hb dX8_readsRow_163 rfl (lv_at hl 1 rfl) ?_
            refine lv_iload_n hx hb dX8_readsRow_164 rfl (lv_at hl 2 rfl) ?_
            refine va_put (D := D) (ci := 8) (v := .int z2) (ty := .int) (C := RX8) (T := TX8) (N := 29) hx hb hts u_X8 tyX8 tyX8_ok nmX8 hown hk.1 hP (mw_D hAd) hS 0 rfl rfl 18 (by decide) (hts _ q4_30) (fun _ h9 => h9) rfl (tyX8_ok 18 (by decide)) rfl rfl (Nat.le_of_ble_eq_true rfl) dX8_readsRow_165 (fun H locs hP _ hS => ?_)
            have hP : va_P D vwCl (mw ad cI cL cZ m_w m_h m_c m_s m_le m_un u5.2 m_ro z2 m_hi m_hr m_hp m_rn m_rw m_rh m_n m_l m_b z4 m_hs m_ho m_tx m_ik m_wt m_ac m_ap m_pa m_im m_ri) H := hP
            refine lv_aload_n hx hb dX8_readsRow_168 rfl (lv_at hl 1 rfl) ?_
            refine lv_dup hx hb dX8_readsRow_169 rfl ?_
            refine va_get (D := D) (ci := 8) (v := .int m_ro) (C := RX8) (T := TX8) (N := 29) hx hb hts u_X8 hown hk.1 hP 0 rfl rfl 17 (by decide) (hts _ q4_29) (fun _ h9 => h9) rfl dX8_readsRow_170 ?_
            refine lv_iconst (v := 1) hx hb dX8_readsRow_173 (by decide) ?_
            refine lv_iadd hx hb dX8_readsRow_174 ?_
            refine va_put (D := D) (ci := 8) (v := .int (m_ro + 1)) (ty := .int) (C := RX8) (T := TX8) (N := 29) hx hb hts u_X8 tyX8 tyX8_ok nmX8 hown hk.1 hP (mw_D hAd) hS 0 rfl rfl 17 (by decide) (hts _ q4_29) (fun _ h9 => h9) rfl (tyX8_ok 17 (by decide)) rfl rfl (Nat.le_of_ble_eq_true rfl) dX8_readsRow_175 (fun H locs hP _ hS => ?_)
            have hP : va_P D vwCl (mw ad cI cL cZ m_w m_h m_c m_s m_le m_un u5.2 (m_ro + 1) z2 m_hi m_hr m_hp m_rn m_rw m_rh m_n m_l m_b z4 m_hs m_ho m_tx m_ik m_wt m_ac m_ap m_pa m_im m_ri) H := hP
            refine lv_aload_n hx hb dX8_readsRow_178 rfl (lv_at hl 1 rfl) ?_
            refine lv_dup hx hb dX8_readsRow_179 rfl ?_
            refine va_get (D := D) (ci := 8) (v := .int u5.2) (C := RX8) (T := TX8) (N := 29) hx hb hts u_X8 hown hk.1 hP 0 rfl rfl 16 (by decide) (hts _ q4_28) (fun _ h9 => h9) rfl dX8_readsRow_180 ?_
            refine lv_iconst (v := 1) hx hb dX8_readsRow_183 (by decide) ?_
            refine lv_iadd hx hb dX8_readsRow_184 ?_
            refine va_put (D := D) (ci := 8) (v := .int (u5.2 + 1)) (ty := .int) (C := RX8) (T := TX8) (N := 29) hx hb hts u_X8 tyX8 tyX8_ok nmX8 hown hk.1 hP (mw_D hAd) hS 0 rfl rfl 16 (by decide) (hts _ q4_28) (fun _ h9 => h9) rfl (tyX8_ok 16 (by decide)) rfl rfl (Nat.le_of_ble_eq_true rfl) dX8_readsRow_185 (fun H locs hP _ hS => ?_)
            have hP : va_P D vwCl (mw ad cI cL cZ m_w m_h m_c m_s m_le m_un (u5.2 + 1) (m_ro + 1) z2 m_hi m_hr m_hp m_rn m_rw m_rh m_n m_l m_b z4 m_hs m_ho m_tx m_ik m_wt m_ac m_ap m_pa m_im m_ri) H := hP
            refine lv_iload_n hx hb dX8_readsRow_188 rfl (lv_at hl 0 rfl) ?_
            subst hr
            exact ret_z hx hb hrt hlocks bz_1 hP hS dX8_readsRow_189
        · have hr := (if_neg c142).symm.trans hr
          refine lv_iload_n hx hb dX8_readsRow_145 rfl (lv_at hl 1 rfl) ?_
          refine lv_aload_n hx hb dX8_readsRow_146 rfl (lv_at hl 0 rfl) ?_
          refine va_get (D := D) (ci := 8) (v := .int m_wi) (C := RX8) (T := TX8) (N := 29) hx hb hts u_X8 hown hk.1 hP 0 rfl rfl 18 (by decide) (hts _ q4_30) (fun _ h9 => h9) rfl dX8_readsRow_147 ?_
          refine lv_icmp_ne (tgt := 157) hx hb dX8_readsRow_150 (by decide) (fun c150 => ?_) (fun c150 => ?_)
          · have hr := (if_neg c150).symm.trans hr
            refine lv_iconst (v := 0) hx hb dX8_readsRow_157 (by decide) ?_
            refine lv_istore_n (lv' := [(2, .int 0), (0, .ref (ad 0)), (1, .int z2)]) hx hb dX8_readsRow_158 rfl hl (by decide) rfl (fun ls hl => ?_)
            refine lv_iload_n hx hb dX8_readsRow_159 rfl (lv_at hl 0 rfl) ?_
            refine lv_if_eq (tgt := 188) hx hb dX8_readsRow_160 (by decide) (fun c160 => ?_) (fun c160 => ?_)
            · refine lv_iload_n hx hb dX8_readsRow_188 rfl (lv_at hl 0 rfl) ?_
              subst hr
              exact ret_z hx hb hrt hlocks bz_0 hP hS dX8_readsRow_189
            · exact absurd (by decide) c160
          · have hr := (if_pos c150).symm.trans hr
            refine lv_iconst (v := 1) hx hb dX8_readsRow_153 (by decide) ?_
            refine lv_goto (tgt := 158) hx hb dX8_readsRow_154 (by decide) ?_
            refine lv_istore_n (lv' := [(2, .int 1), (0, .ref (ad 0)), (1, .int z2)]) hx hb dX8_readsRow_158 rfl hl (by decide) rfl (fun ls hl => ?_)
            refine lv_iload_n hx hb dX8_readsRow_159 rfl (lv_at hl 0 rfl) ?_
            refine lv_if_eq (tgt := 188) hx hb dX8_readsRow_160 (by decide) (fun c160 => ?_) (fun c160 => ?_)
            · exact absurd c160 (by decide)
            · refine lv_aload_n hx hb dX8_readsRow_163 rfl (lv_at hl 1 rfl) ?_
              refine lv_iload_n hx hb dX8_readsRow_164 rfl (lv_at hl 2 rfl) ?_
              refine va_put (D := D) (ci := 8) (v := .int z2) (ty := .int) (C := RX8) (T := TX8) (N := 29) hx hb hts u_X8 tyX8 tyX8_ok nmX8 hown hk.1 hP (mw_D hAd) hS 0 rfl rfl 18 (by decide) (hts _ q4_30) (fun _ h9 => h9) rfl (tyX8_ok 18 (by decide)) rfl rfl (Nat.le_of_ble_eq_true rfl) dX8_readsRow_165 (fun H locs hP _ hS => ?_)
              have hP : va_P D vwCl (mw ad cI cL cZ m_w m_h m_c m_s m_le m_un u5.2 m_ro z2 m_hi m_hr m_hp m_rn m_rw m_rh m_n m_l m_b z4 m_hs m_ho m_tx m_ik m_wt m_ac m_ap m_pa m_im m_ri) H := hP
              refine lv_aload_n hx hb dX8_readsRow_168 rfl (lv_at hl 1 rfl) ?_
              refine lv_dup hx hb dX8_readsRow_169 rfl ?_
              refine va_get (D := D) (ci := 8) (v := .int m_ro) (C := RX8) (T := TX8) (N := 29) hx hb hts u_X8 hown hk.1 hP 0 rfl rfl 17 (by decide) (hts _ q4_29) (fun _ h9 => h9) rfl dX8_readsRow_170 ?_
              refine lv_iconst (v := 1) hx hb dX8_readsRow_173 (by decide) ?_
              refine lv_iadd hx hb dX8_readsRow_174 ?_
              refine va_put (D := D) (ci := 8) (v := .int (m_ro + 1)) (ty := .int) (C := RX8) (T := TX8) (N := 29) hx hb hts u_X8 tyX8 tyX8_ok nmX8 hown hk.1 hP (mw_D hAd) hS 0 rfl rfl 17 (by decide) (hts _ q4_29) (fun _ h9 => h9) rfl (tyX8_ok 17 (by decide)) rfl rfl (Nat.le_of_ble_eq_true rfl) dX8_readsRow_175 (fun H locs hP _ hS => ?_)
              have hP : va_P D vwCl (mw ad cI cL cZ m_w m_h m_c m_s m_le m_un u5.2 (m_ro + 1) z2 m_hi m_hr m_hp m_rn m_rw m_rh m_n m_l m_b z4 m_hs m_ho m_tx m_ik m_wt m_ac m_ap m_pa m_im m_ri) H := hP
              refine lv_aload_n hx hb dX8_readsRow_178 rfl (lv_at hl 1 rfl) ?_
              refine lv_dup hx hb dX8_readsRow_179 rfl ?_
              refine va_get (D := D) (ci := 8) (v := .int u5.2) (C := RX8) (T := TX8) (N := 29) hx hb hts u_X8 hown hk.1 hP 0 rfl rfl 16 (by decide) (hts _ q4_28) (fun _ h9 => h9) rfl dX8_readsRow_180 ?_
              refine lv_iconst (v := 1) hx hb dX8_readsRow_183 (by decide) ?_
              refine lv_iadd hx hb dX8_readsRow_184 ?_
              refine va_put (D := D) (ci := 8) (v := .int (u5.2 + 1)) (ty := .int) (C := RX8) (T := TX8) (N := 29) hx hb hts u_X8 tyX8 tyX8_ok nmX8 hown hk.1 hP (mw_D hAd) hS 0 rfl rfl 16 (by decide) (hts _ q4_28) (fun _ h9 => h9) rfl (tyX8_ok 16 (by decide)) rfl rfl (Nat.le_of_ble_eq_true rfl) dX8_readsRow_185 (fun H locs hP _ hS => ?_)
              have hP : va_P D vwCl (mw ad cI cL cZ m_w m_h m_c m_s m_le m_un (u5.2 + 1) (m_ro + 1) z2 m_hi m_hr m_hp m_rn m_rw m_rh m_n m_l m_b z4 m_hs m_ho m_tx m_ik m_wt m_ac m_ap m_pa m_im m_ri) H := hP
              refine lv_iload_n hx hb dX8_readsRow_188 rfl (lv_at hl 0 rfl) ?_
              subst hr
              exact ret_z hx hb hrt hlocks bz_1 hP hS dX8_readsRow_189
