theorem F_mb_ex (y1 y2 c rn : Int32) (nn l b : Int64) (ac ri : Nat → Int64) {β : Type} (k : Int32 → β) : ∀ (n : Nat) (x3 x4 : Int32), ∃ z, F_X8_manyBut_9 y1 y2 c rn nn l b ac ri k n x3 x4 = k z := by
  intro n
  induction n with
  | zero => intro x3 x4; exact ⟨_, rfl⟩
  | succ n ih =>
    intro x3 x4
    rw [F_X8_manyBut_9]
    repeat' split
    all_goals first | exact ⟨_, rfl⟩ | exact ih _ _
theorem mb_n {p1 p2 w h c s rn rw_ rh : Int32} {nn l b : Int64} {ho : Nat → Int32} {ac ap ri : Nat → Int64} {u : Int32 × Int32 × Int32 × Int32 × (Nat → Int64)} (hu : f_X8_manyBut p1 p2 w h c s rn rw_ rh nn l b ho ac ap ri = u) (hg : mG w h c s) (hR : hRc w h c s ho ap) (hn : 0 ≤ rn.toInt ∧ rn.toInt ≤ 9400) : 0 ≤ u.2.1.toInt ∧ u.2.1.toInt ≤ 9400 := by
  rw [← hu, f_X8_manyBut, bd]
  obtain ⟨z, e⟩ := F_mb_ex p1 p2 c (f_X8_laysRings w h c s rn rw_ rh ho ap ri).1 nn l b ac (f_X8_laysRings w h c s rn rw_ rh ho ap ri).2.2.2 (fun z2 => (z2, (f_X8_laysRings w h c s rn rw_ rh ho ap ri).1, (f_X8_laysRings w h c s rn rw_ rh ho ap ri).2.1, (f_X8_laysRings w h c s rn rw_ rh ho ap ri).2.2.1, (f_X8_laysRings w h c s rn rw_ rh ho ap ri).2.2.2)) (fu (f_X8_laysRings w h c s rn rw_ rh ho ap ri).1 (0 : Int32)) 0 0
  rw [e]
  exact lays_n rfl hg hR hn
theorem hd_X8_numbersThat : yX8_numbersThat.cls = RX8 ∧ yX8_numbersThat.cls ≠ "java/lang/invoke/MethodHandle" ∧ yX8_numbersThat.cls ≠ "java/lang/invoke/VarHandle" ∧ (parseMethodDescriptor yX8_numbersThat.desc).map (fun d => d.parameters.length) = some 1 := by decide +kernel
def F_X8_numbersThat_25 (y1 : Int32) (y2 : Int32) (m_w : Int32) (m_h : Int32) (m_c : Int32) (m_s : Int32) (m_n : Int64) (m_l : Int64) (m_b : Int64) (m_ho : Nat → Int32) (m_ac : Nat → Int64) (m_ap : Nat → Int64) {β : Type} (k0 : Int32 → Int32 → Int32 → Int32 → (Nat → Int64) → β) : Nat → Int32 → Int32 → Int32 → Int32 → Int32 → (Nat → Int64) → β
  | 0, x3, x4, m_rn, m_rw, m_rh, m_ri => k0 x3 m_rn m_rw m_rh m_ri
  | n + 1, x3, x4, m_rn, m_rw, m_rh, m_ri => (if m_c ≤ x4 then k0 x3 m_rn m_rw m_rh m_ri else (if y2 = (1 - y1) then (if 5 ≤ (f_X8_numberAt x4 m_n) then F_X8_numbersThat_25 y1 y2 m_w m_h m_c m_s m_n m_l m_b m_ho m_ac m_ap k0 n (x3 ||| 0) (x4 + 1) m_rn m_rw m_rh m_ri else (if y1 = 0 then (bd (f_X8_manyBut 2 x4 m_w m_h m_c m_s m_rn m_rw m_rh m_n m_l m_b m_ho m_ac m_ap m_ri) (fun u3 => (if u3.1 = 1 then F_X8_numbersThat_25 y1 y2 m_w m_h m_c m_s m_n m_l m_b m_ho m_ac m_ap k0 n (x3 ||| (1 <<< (x4 &&& 31))) (x4 + 1) u3.2.1 u3.2.2.1 u3.2.2.2.1 u3.2.2.2.2 else F_X8_numbersThat_25 y1 y2 m_w m_h m_c m_s m_n m_l m_b m_ho m_ac m_ap k0 n (x3 ||| 0) (x4 + 1) u3.2.1 u3.2.2.1 u3.2.2.2.1 u3.2.2.2.2))) else (bd (f_X8_manyBut 1 x4 m_w m_h m_c m_s m_rn m_rw m_rh m_n m_l m_b m_ho m_ac m_ap m_ri) (fun u2 => (if u2.1 = 1 then F_X8_numbersThat_25 y1 y2 m_w m_h m_c m_s m_n m_l m_b m_ho m_ac m_ap k0 n (x3 ||| (1 <<< (x4 &&& 31))) (x4 + 1) u2.2.1 u2.2.2.1 u2.2.2.2.1 u2.2.2.2.2 else F_X8_numbersThat_25 y1 y2 m_w m_h m_c m_s m_n m_l m_b m_ho m_ac m_ap k0 n (x3 ||| 0) (x4 + 1) u2.2.1 u2.2.2.1 u2.2.2.2.1 u2.2.2.2.2))))) else k0 x3 m_rn m_rw m_rh m_ri))
def f_X8_numbersThat (p1 : Int32) (m_w : Int32) (m_h : Int32) (m_c : Int32) (m_s : Int32) (m_rn : Int32) (m_rw : Int32) (m_rh : Int32) (m_n : Int64) (m_l : Int64) (m_b : Int64) (m_ho : Nat → Int32) (m_ac : Nat → Int64) (m_ap : Nat → Int64) (m_ri : Nat → Int64) : Int32 × Int32 × Int32 × Int32 × (Nat → Int64) := (if (f_X8_in p1.toInt64 0 1) = 0 then ((-1), m_rn, m_rw, m_rh, m_ri) else (bd (f_X8_manyBut 2 16 m_w m_h m_c m_s m_rn m_rw m_rh m_n m_l m_b m_ho m_ac m_ap m_ri) (fun u1 => F_X8_numbersThat_25 p1 u1.1 m_w m_h m_c m_s m_n m_l m_b m_ho m_ac m_ap (fun z4 z5 z6 z7 z8 => (z4, z5, z6, z7, z8)) (fu m_c (0 : Int32)) 0 0 u1.2.1 u1.2.2.1 u1.2.2.2.1 u1.2.2.2.2)))
set_option maxHeartbeats 4000000 in
set_option maxRecDepth 100000 in
theorem lp_X8_numbersThat_25 (l : Launch) (D : va_G) (cI cL cZ : ClassId) (ad : Nat → Nat) (m_w m_h m_c m_s m_le m_un m_he m_ro m_wi m_hi m_hr m_hp : Int32) (m_n m_l m_b m_to m_hs : Int64) (m_ho m_tx m_ik m_wt : Nat → Int32) (m_ac m_ap m_pa m_im : Nat → Int64) {p : Program} {e : Env} {s : State} {m : MethodId} {args : Array Value} {below : List Frame} {meth : Method} {c : Code} {Q : State → Prop} (C : Cx p s m args meth c cX8_numbersThat 6 (some .int) W0 RX8 D cI cL cZ) (hAd : mInj ad) (y1 y2 : Int32) (hg : mG m_w m_h m_c m_s) (hR : hRc m_w m_h m_c m_s m_ho m_ap) {β : Type} (k0 : Int32 → Int32 → Int32 → Int32 → (Nat → Int64) → β) (r : β)
    (h0 : ∀ (e3 m_rn m_rw m_rh : Int32) (m_ri : Nat → Int64) (H : Heap) (locs : List Loc) (ls : Array Slot), k0 e3 m_rn m_rw m_rh m_ri = r → va_P D vwCl (mw ad cI cL cZ m_w m_h m_c m_s m_le m_un m_he m_ro m_wi m_hi m_hr m_hp m_rn m_rw m_rh m_n m_l m_b m_to m_hs m_ho m_tx m_ik m_wt m_ac m_ap m_pa m_im m_ri) H → va_S (mAd ad) s.heap H locs → lv_has ls 6 [(3, .int e3)] → W p l e (rmS 5 123) s m args below meth c H locs 0 0 Q (F0 m 109 ls [])) :
    ∀ (n : Nat) (x3 x4 m_rn m_rw m_rh : Int32) (m_ri : Nat → Int64) (H : Heap) (locs : List Loc) (ls : Array Slot), fuU n m_c x4 ∧ 0 ≤ m_rn.toInt ∧ m_rn.toInt ≤ 9400 → F_X8_numbersThat_25 y1 y2 m_w m_h m_c m_s m_n m_l m_b m_ho m_ac m_ap k0 n x3 x4 m_rn m_rw m_rh m_ri = r → va_P D vwCl (mw ad cI cL cZ m_w m_h m_c m_s m_le m_un m_he m_ro m_wi m_hi m_hr m_hp m_rn m_rw m_rh m_n m_l m_b m_to m_hs m_ho m_tx m_ik m_wt m_ac m_ap m_pa m_im m_ri) H → va_S (mAd ad) s.heap H locs → lv_has ls 6 [(0, .ref (ad 0)), (1, .int y1), (2, .int y2), (3, .int x3), (4, .int x4)] → W p l e (rmS 5 123) s m args below meth c H locs 0 0 Q (F0 m 25 ls []) := by
  obtain ⟨hx, hb, hml, hrt, hlocks, hown, hts, hk⟩ := C
  intro n
  induction n with
  | zero =>
    intro x3 x4 m_rn m_rw m_rh m_ri H locs ls hf
    exact absurd hf.1.1 (Nat.lt_irrefl 0)
  | succ n ih =>
    intro x3 x4 m_rn m_rw m_rh m_ri H locs ls hf hr hP hS hl
    rw [F_X8_numbersThat_25] at hr
    refine lv_iload hx hb dX8_numbersThat_25 (lv_at hl 4 rfl) ?_
    refine lv_aload_n hx hb dX8_numbersThat_27 rfl (lv_at hl 0 rfl) ?_
    refine va_get (D := D) (ci := 8) (v := .int m_c) (C := RX8) (T := TX8) (N := 29) hx hb hts u_X8 hown hk.1 hP 0 rfl rfl 5 (by decide) (hts _ q4_17) (fun _ h9 => h9) rfl dX8_numbersThat_28 ?_
    refine lv_icmp_ge (tgt := 109) hx hb dX8_numbersThat_31 (by decide) (fun c31 => ?_) (fun c31 => ?_)
    · have hr := (if_pos c31).symm.trans hr
      exact h0 x3 m_rn m_rw m_rh m_ri _ _ _ hr hP hS (lv_sub hl [3] rfl)
    · have hr := (if_neg c31).symm.trans hr
      refine lv_iload_n hx hb dX8_numbersThat_34 rfl (lv_at hl 2 rfl) ?_
      refine lv_iconst (v := 1) hx hb dX8_numbersThat_35 (by decide) ?_
      refine lv_iload_n hx hb dX8_numbersThat_36 rfl (lv_at hl 1 rfl) ?_
      refine lv_isub hx hb dX8_numbersThat_37 ?_
      refine lv_icmp_ne (tgt := 109) hx hb dX8_numbersThat_38 (by decide) (fun c38 => ?_) (fun c38 => ?_)
      · have hr := (if_neg c38).symm.trans hr
        exact h0 x3 m_rn m_rw m_rh m_ri _ _ _ hr hP hS (lv_sub hl [3] rfl)
      · have hr := (if_pos c38).symm.trans hr
        refine lv_aload_n hx hb dX8_numbersThat_41 rfl (lv_at hl 0 rfl) ?_
        refine lv_iload hx hb dX8_numbersThat_42 (lv_at hl 4 rfl) ?_
        refine go_i (ru_V (n := 1) ⟨hx, hb, hml, hown, hts⟩ hk hP (c_X8_numberAt l D cI cL cZ ad m_w m_h m_c m_s m_le m_un m_he m_ro m_wi m_hi m_hr m_hp m_rn m_rw m_rh m_n m_l m_b m_to m_hs m_ho m_tx m_ik m_wt m_ac m_ap m_pa m_im m_ri hAd x4 _ rfl) (cwV 1 hts (gV q4_140 q4_142 qs3_9 q1_11 q4_143) rfl rfl rfl hd_X8_numberAt ⟨Nat.le_of_ble_eq_true rfl, Nat.le_of_ble_eq_true rfl⟩) (va_recv hk.1 hP (ci := 8) (q0 := 0) rfl rfl) rfl hl.1 rfl (Nat.le_of_ble_eq_true rfl) dX8_numbersThat_44 ⟨Nat.zero_le _, Nat.zero_le _⟩) hS (fun _ h => h) (fun H locs hP hS => ?_)
        have hP : va_P D vwCl (mw ad cI cL cZ m_w m_h m_c m_s m_le m_un m_he m_ro m_wi m_hi m_hr m_hp m_rn m_rw m_rh m_n m_l m_b m_to m_hs m_ho m_tx m_ik m_wt m_ac m_ap m_pa m_im m_ri) H := hP
        refine lv_iconst (v := 5) hx hb dX8_numbersThat_47 (by decide) ?_
        refine lv_icmp_ge (tgt := 84) hx hb dX8_numbersThat_48 (by decide) (fun c48 => ?_) (fun c48 => ?_)
        · have hr := (if_pos c48).symm.trans hr
          refine lv_iconst (v := 0) hx hb dX8_numbersThat_84 (by decide) ?_
          refine lv_istore (lv' := [(5, .int 0), (0, .ref (ad 0)), (1, .int y1), (2, .int y2), (3, .int x3), (4, .int x4)]) hx hb dX8_numbersThat_85 hl (by decide) rfl (fun ls hl => ?_)
          refine lv_iload_n hx hb dX8_numbersThat_87 rfl (lv_at hl 4 rfl) ?_
          refine lv_iload hx hb dX8_numbersThat_88 (lv_at hl 0 rfl) ?_
          refine lv_if_eq (tgt := 100) hx hb dX8_numbersThat_90 (by decide) (fun c90 => ?_) (fun c90 => ?_)
          · refine lv_iconst (v := 0) hx hb dX8_numbersThat_100 (by decide) ?_
            refine lv_ior hx hb dX8_numbersThat_101 ?_
            refine lv_istore_n (lv' := [(3, .int (x3 ||| 0)), (5, .int 0), (0, .ref (ad 0)), (1, .int y1), (2, .int y2), (4, .int x4)]) hx hb dX8_numbersThat_102 rfl hl (by decide) rfl (fun ls hl => ?_)
            refine lv_iinc (v := x4 + 1) (lv' := [(4, .int (x4 + 1)), (3, .int (x3 ||| 0)), (5, .int 0), (0, .ref (ad 0)), (1, .int y1), (2, .int y2)]) hx hb dX8_numbersThat_103 hl (k := 5) rfl rfl (by decide) rfl (fun ls hl => ?_)
            refine lv_goto (tgt := 25) hx hb dX8_numbersThat_106 (by decide) ?_
            exact ih (x3 ||| 0) (x4 + 1) m_rn m_rw m_rh m_ri _ _ _ (by first | exact ⟨fuU_s hf.1 c31, hf.2⟩ | exact ⟨fuU_s hf.1 c31, mb_n hu3 hg hR hf.2⟩ | exact ⟨fuU_s hf.1 c31, mb_n hu2 hg hR hf.2⟩) hr hP hS (lv_sub hl [3, 4, 5, 1, 0] rfl)
          · exact absurd (by decide) c90
        · have hr := (if_neg c48).symm.trans hr
          refine lv_iload_n hx hb dX8_numbersThat_51 rfl (lv_at hl 1 rfl) ?_
          refine lv_if_ne (tgt := 69) hx hb dX8_numbersThat_52 (by decide) (fun c52 => ?_) (fun c52 => ?_)
          · have hr := (if_neg c52).symm.trans hr
            refine lv_aload_n hx hb dX8_numbersThat_69 rfl (lv_at hl 0 rfl) ?_
            refine lv_iconst (v := 1) hx hb dX8_numbersThat_70 (by decide) ?_
            refine lv_iload hx hb dX8_numbersThat_71 (lv_at hl 4 rfl) ?_
            obtain ⟨u2, hu2⟩ : ∃ z, f_X8_manyBut 1 x4 m_w m_h m_c m_s m_rn m_rw m_rh m_n m_l m_b m_ho m_ac m_ap m_ri = z := ⟨_, rfl⟩
            have hr := (bd_eq hu2).symm.trans hr
            refine go_i (ru_V (n := 2) ⟨hx, hb, hml, hown, hts⟩ hk hP (c_X8_manyBut l D cI cL cZ ad m_w m_h m_c m_s m_le m_un m_he m_ro m_wi m_hi m_hr m_hp m_rn m_rw m_rh m_n m_l m_b m_to m_hs m_ho m_tx m_ik m_wt m_ac m_ap m_pa m_im m_ri hAd 1 x4 _ hu2 hg hR hf.2) (cwV 2 hts (gV q5_40 q5_42 qs4_14 q1_11 q5_43) rfl rfl rfl hd_X8_manyBut ⟨Nat.le_of_ble_eq_true rfl, Nat.le_of_ble_eq_true rfl⟩) (va_recv hk.1 hP (ci := 8) (q0 := 0) rfl rfl) rfl hl.1 rfl (Nat.le_of_ble_eq_true rfl) dX8_numbersThat_73 ⟨Nat.zero_le _, Nat.zero_le _⟩) hS (fun _ h => h) (fun H locs hP hS => ?_)
            have hP : va_P D vwCl (mw ad cI cL cZ m_w m_h m_c m_s m_le m_un m_he m_ro m_wi m_hi m_hr m_hp u2.2.1 u2.2.2.1 u2.2.2.2.1 m_n m_l m_b m_to m_hs m_ho m_tx m_ik m_wt m_ac m_ap m_pa m_im u2.2.2.2.2) H := hP
            refine lv_iconst (v := 1) hx hb dX8_numbersThat_76 (by decide) ?_
            refine lv_icmp_ne (tgt := 84) hx hb dX8_numbersThat_77 (by decide) (fun c77 => ?_) (fun c77 => ?_)
            · have hr := (if_neg c77).symm.trans hr
              refine lv_iconst (v := 0) hx hb dX8_numbersThat_84 (by decide) ?_
              refine lv_istore (lv' := [(5, .int 0), (0, .ref (ad 0)), (1, .int y1), (2, .int y2), (3, .int x3), (4, .int x4)]) hx hb dX8_numbersThat_85 hl (by decide) rfl (fun ls hl => ?_)
              refine lv_iload_n hx hb dX8_numbersThat_87 rfl (lv_at hl 4 rfl) ?_
              refine lv_iload hx hb dX8_numbersThat_88 (lv_at hl 0 rfl) ?_
              refine lv_if_eq (tgt := 100) hx hb dX8_numbersThat_90 (by decide) (fun c90 => ?_) (fun c90 => ?_)
              · refine lv_iconst (v := 0) hx hb dX8_numbersThat_100 (by decide) ?_
                refine lv_ior hx hb dX8_numbersThat_101 ?_
                refine lv_istore_n (lv' := [(3, .int (x3 ||| 0)), (5, .int 0), (0, .ref (ad 0)), (1, .int y1), (2, .int y2), (4, .int x4)]) hx hb dX8_numbersThat_102 rfl hl (by decide) rfl (fun ls hl => ?_)
                refine lv_iinc (v := x4 + 1) (lv' := [(4, .int (x4 + 1)), (3, .int (x3 ||| 0)), (5, .int 0), (0, .ref (ad 0)), (1, .int y1), (2, .int y2)]) hx hb dX8_numbersThat_103 hl (k := 5) rfl rfl (by decide) rfl (fun ls hl => ?_)
                refine lv_goto (tgt := 25) hx hb dX8_numbersThat_106 (by decide) ?_
                exact ih (x3 ||| 0) (x4 + 1) u2.2.1 u2.2.2.1 u2.2.2.2.1 u2.2.2.2.2 _ _ _ (by first | exact ⟨fuU_s hf.1 c31, hf.2⟩ | exact ⟨fuU_s hf.1 c31, mb_n hu3 hg hR hf.2⟩ | exact ⟨fuU_s hf.1 c31, mb_n hu2 hg hR hf.2⟩) hr hP hS (lv_sub hl [3, 4, 5, 1, 0] rfl)
              · exact absurd (by decide) c90
            · have hr := (if_pos c77).symm.trans hr
              refine lv_iconst (v := 1) hx hb dX8_numbersThat_80 (by decide) ?_
              refine lv_goto (tgt := 85) hx hb dX8_numbersThat_81 (by decide) ?_
              refine lv_istore (lv' := [(5, .int 1), (0, .ref (ad 0)), (1, .int y1), (2, .int y2), (3, .int x3), (4, .int x4)]) hx hb dX8_numbersThat_85 hl (by decide) rfl (fun ls hl => ?_)
              refine lv_iload_n hx hb dX8_numbersThat_87 rfl (lv_at hl 4 rfl) ?_
              refine lv_iload hx hb dX8_numbersThat_88 (lv_at hl 0 rfl) ?_
              refine lv_if_eq (tgt := 100) hx hb dX8_numbersThat_90 (by decide) (fun c90 => ?_) (fun c90 => ?_)
              · exact absurd c90 (by decide)
              · refine lv_iconst (v := 1) hx hb dX8_numbersThat_93 (by decide) ?_
                refine lv_iload hx hb dX8_numbersThat_94 (lv_at hl 5 rfl) ?_
                refine lv_ishl hx hb dX8_numbersThat_96 ?_
                refine lv_goto (tgt := 101) hx hb dX8_numbersThat_97 (by decide) ?_
                refine lv_ior hx hb dX8_numbersThat_101 ?_
                refine lv_istore_n (lv' := [(3, .int (x3 ||| (1 <<< (x4 &&& 31)))), (5, .int 1), (0, .ref (ad 0)), (1, .int y1), (2, .int y2), (4, .int x4)]) hx hb dX8_numbersThat_102 rfl hl (by decide) rfl (fun ls hl => ?_)
                refine lv_iinc (v := x4 + 1) (lv' := [(4, .int (x4 + 1)), (3, .int (x3 ||| (1 <<< (x4 &&& 31)))), (5, .int 1), (0, .ref (ad 0)), (1, .int y1), (2, .int y2)]) hx hb dX8_numbersThat_103 hl (k := 5) rfl rfl (by decide) rfl (fun ls hl => ?_)
                refine lv_goto (tgt := 25) hx hb dX8_numbersThat_106 (by decide) ?_
                exact ih (x3 ||| (1 <<< (x4 &&& 31))) (x4 + 1) u2.2.1 u2.2.2.1 u2.2.2.2.1 u2.2.2.2.2 _ _ _ (by first | exact ⟨fuU_s hf.1 c31, hf.2⟩ | exact ⟨fuU_s hf.1 c31, mb_n hu3 hg hR hf.2⟩ | exact ⟨fuU_s hf.1 c31, mb_n hu2 hg hR hf.2⟩) hr hP hS (lv_sub hl [3, 4, 5, 1, 0] rfl)
          · have hr := (if_pos c52).symm.trans hr
            refine lv_aload_n hx hb dX8_numbersThat_55 rfl (lv_at hl 0 rfl) ?_
            refine lv_iconst (v := 2) hx hb dX8_numbersThat_56 (by decide) ?_
            refine lv_iload hx hb dX8_numbersThat_57 (lv_at hl 4 rfl) ?_
            obtain ⟨u3, hu3⟩ : ∃ z, f_X8_manyBut 2 x4 m_w m_h m_c m_s m_rn m_rw m_rh m_n m_l m_b m_ho m_ac m_ap m_ri = z := ⟨_, rfl⟩
            have hr := (bd_eq hu3).symm.trans hr
            refine go_i (ru_V (n := 2) ⟨hx, hb, hml, hown, hts⟩ hk hP (c_X8_manyBut l D cI cL cZ ad m_w m_h m_c m_s m_le m_un m_he m_ro m_wi m_hi m_hr m_hp m_rn m_rw m_rh m_n m_l m_b m_to m_hs m_ho m_tx m_ik m_wt m_ac m_ap m_pa m_im m_ri hAd 2 x4 _ hu3 hg hR hf.2) (cwV 2 hts (gV q5_40 q5_42 qs4_14 q1_11 q5_43) rfl rfl rfl hd_X8_manyBut ⟨Nat.le_of_ble_eq_true rfl, Nat.le_of_ble_eq_true rfl⟩) (va_recv hk.1 hP (ci := 8) (q0 := 0) rfl rfl) rfl hl.1 rfl (Nat.le_of_ble_eq_true rfl) dX8_numbersThat_59 ⟨Nat.zero_le _, Nat.zero_le _⟩) hS (fun _ h => h) (fun H locs hP hS => ?_)
            have hP : va_P D vwCl (mw ad cI cL cZ m_w m_h m_c m_s m_le m_un m_he m_ro m_wi m_hi m_hr m_hp u3.2.1 u3.2.2.1 u3.2.2.2.1 m_n m_l m_b m_to m_hs m_ho m_tx m_ik m_wt m_ac m_ap m_pa m_im u3.2.2.2.2) H := hP
            refine lv_iconst (v := 1) hx hb dX8_numbersThat_62 (by decide) ?_
            refine lv_icmp_ne (tgt := 84) hx hb dX8_numbersThat_63 (by decide) (fun c63 => ?_) (fun c63 => ?_)
            · have hr := (if_neg c63).symm.trans hr
              refine lv_iconst (v := 0) hx hb dX8_numbersThat_84 (by decide) ?_
              refine lv_istore (lv' := [(5, .int 0), (0, .ref (ad 0)), (1, .int y1), (2, .int y2), (3, .int x3), (4, .int x4)]) hx hb dX8_numbersThat_85 hl (by decide) rfl (fun ls hl => ?_)
              refine lv_iload_n hx hb dX8_numbersThat_87 rfl (lv_at hl 4 rfl) ?_
              refine lv_iload hx hb dX8_numbersThat_88 (lv_at hl 0 rfl) ?_
              refine lv_if_eq (tgt := 100) hx hb dX8_numbersThat_90 (by decide) (fun c90 => ?_) (fun c90 => ?_)
              · refine lv_iconst (v := 0) hx hb dX8_numbersThat_100 (by decide) ?_
                refine lv_ior hx hb dX8_numbersThat_101 ?_
                refine lv_istore_n (lv' := [(3, .int (x3 ||| 0)), (5, .int 0), (0, .ref (ad 0)), (1, .int y1), (2, .int y2), (4, .int x4)]) hx hb dX8_numbersThat_102 rfl hl (by decide) rfl (fun ls hl => ?_)
                refine lv_iinc (v := x4 + 1) (lv' := [(4, .int (x4 + 1)), (3, .int (x3 ||| 0)), (5, .int 0), (0, .ref (ad 0)), (1, .int y1), (2, .int y2)]) hx hb dX8_numbersThat_103 hl (k := 5) rfl rfl (by decide) rfl (fun ls hl => ?_)
                refine lv_goto (tgt := 25) hx hb dX8_numbersThat_106 (by decide) ?_
                exact ih (x3 ||| 0) (x4 + 1) u3.2.1 u3.2.2.1 u3.2.2.2.1 u3.2.2.2.2 _ _ _ (by first | exact ⟨fuU_s hf.1 c31, hf.2⟩ | exact ⟨fuU_s hf.1 c31, mb_n hu3 hg hR hf.2⟩ | exact ⟨fuU_s hf.1 c31, mb_n hu2 hg hR hf.2⟩) hr hP hS (lv_sub hl [3, 4, 5, 1, 0] rfl)
              · exact absurd (by decide) c90
            · have hr := (if_pos c63).symm.trans hr
              refine lv_goto (tgt := 80) hx hb dX8_numbersThat_66 (by decide) ?_
              refine lv_iconst (v := 1) hx hb dX8_numbersThat_80 (by decide) ?_
              refine lv_goto (tgt := 85) hx hb dX8_numbersThat_81 (by decide) ?_
              refine lv_istore (lv' := [(5, .int 1), (0, .ref (ad 0)), (1, .int y1), (2, .int y2), (3, .int x3), (4, .int x4)]) hx hb dX8_numbersThat_85 hl (by decide) rfl (fun ls hl => ?_)
              refine lv_iload_n hx hb dX8_numbersThat_87 rfl (lv_at hl 4 rfl) ?_
              refine lv_iload hx hb dX8_numbersThat_88 (lv_at hl 0 rfl) ?_
              refine lv_if_eq (tgt := 100) hx hb dX8_numbersThat_90 (by decide) (fun c90 => ?_) (fun c90 => ?_)
              · exact absurd c90 (by decide)
              · refine lv_iconst (v := 1) hx hb dX8_numbersThat_93 (by decide) ?_
                refine lv_iload hx hb dX8_numbersThat_94 (lv_at hl 5 rfl) ?_
                refine lv_ishl hx hb dX8_numbersThat_96 ?_
                refine lv_goto (tgt := 101) hx hb dX8_numbersThat_97 (by decide) ?_
                refine lv_ior hx hb dX8_numbersThat_101 ?_
                refine lv_istore_n (lv' := [(3, .int (x3 ||| (1 <<< (x4 &&& 31)))), (5, .int 1), (0, .ref (ad 0)), (1, .int y1), (2, .int y2), (4, .int x4)]) hx hb dX8_numbersThat_102 rfl hl (by decide) rfl (fun ls hl => ?_)
                refine lv_iinc (v := x4 + 1) (lv' := [(4, .int (x4 + 1)), (3, .int (x3 ||| (1 <<< (x4 &&& 31)))), (5, .int 1), (0, .ref (ad 0)), (1, .int y1), (2, .int y2)]) hx hb dX8_numbersThat_103 hl (k := 5) rfl rfl (by decide) rfl (fun ls hl => ?_)
                refine lv_goto (tgt := 25) hx hb dX8_numbersThat_106 (by decide) ?_
                exact ih (x3 ||| (1 <<< (x4 &&& 31))) (x4 + 1) u3.2.1 u3.2.2.1 u3.2.2.2.1 u3.2.2.2.2 _ _ _ (by first | exact ⟨fuU_s hf.1 c31, hf.2⟩ | exact ⟨fuU_s hf.1 c31, mb_n hu3 hg hR hf.2⟩ | exact ⟨fuU_s hf.1 c31, mb_n hu2 hg hR hf.2⟩) hr hP hS (lv_sub hl [3, 4, 5, 1, 0] rfl)
set_option maxHeartbeats 4000000 in
set_option maxRecDepth 100000 in
theorem c_X8_numbersThat (l : Launch) (D : va_G) (cI cL cZ : ClassId) (ad : Nat → Nat) (m_w m_h m_c m_s m_le m_un m_he m_ro m_wi m_hi m_hr m_hp m_rn m_rw m_rh : Int32) (m_n m_l m_b m_to m_hs : Int64) (m_ho m_tx m_ik m_wt : Nat → Int32) (m_ac m_ap m_pa m_im m_ri : Nat → Int64) (hAd : mInj ad) (p1 : Int32) (r : Int32 × Int32 × Int32 × Int32 × (Nat → Int64)) (hr : f_X8_numbersThat p1 m_w m_h m_c m_s m_rn m_rw m_rh m_n m_l m_b m_ho m_ac m_ap m_ri = r) (hg : mG m_w m_h m_c m_s) (hR : hRc m_w m_h m_c m_s m_ho m_ap) (hn : 0 ≤ m_rn.toInt ∧ m_rn.toInt ≤ 9400) : MI l yX8_numbersThat (Cond.code yX8_numbersThat cX8_numbersThat 6 (some .int) :: W0) 5 123 D cI cL cZ (mAd ad) [.ref (ad 0), .int p1] (mw ad cI cL cZ m_w m_h m_c m_s m_le m_un m_he m_ro m_wi m_hi m_hr m_hp m_rn m_rw m_rh m_n m_l m_b m_to m_hs m_ho m_tx m_ik m_wt m_ac m_ap m_pa m_im m_ri) r.1 (mw ad cI cL cZ m_w m_h m_c m_s m_le m_un m_he m_ro m_wi m_hi m_hr m_hp r.2.1 r.2.2.1 r.2.2.2.1 m_n m_l m_b m_to m_hs m_ho m_tx m_ik m_wt m_ac m_ap m_pa m_im r.2.2.2.2) := by
  refine mk_start (cc := cX8_numbersThat) (maxL := 6) (ret := (some .int)) (by decide) rfl (Nat.le_of_ble_eq_true rfl) ?_
  intro p e s m below meth c ls C hP hS hl
  obtain ⟨hx, hb, hml, hrt, hlocks, hown, hts, hk⟩ := C
  have hown : s.vm.findClass RX8 = some m.cls := hown
  have hl : lv_has ls 6 [(0, .ref (ad 0)), (1, .int p1)] := hl
  rw [f_X8_numbersThat] at hr
  refine lv_iload_n hx hb dX8_numbersThat_0 rfl (lv_at hl 1 rfl) ?_
  refine lv_i2l hx hb dX8_numbersThat_1 rfl ?_
  refine lv_lconst (v := 0) hx hb dX8_numbersThat_2 (by decide) ?_
  refine lv_lconst (v := 1) hx hb dX8_numbersThat_3 (by decide) ?_
  refine go_z (ru_S (n := 3) ⟨hx, hb, hml, hown, hts⟩ hk hP (c_X8_in l D cI cL cZ (mAd ad) (mw ad cI cL cZ m_w m_h m_c m_s m_le m_un m_he m_ro m_wi m_hi m_hr m_hp m_rn m_rw m_rh m_n m_l m_b m_to m_hs m_ho m_tx m_ik m_wt m_ac m_ap m_pa m_im m_ri) p1.toInt64 0 1 _ rfl) (va_cwS 3 hts (gS q4_1 q4_2 q1_11 q4_3) rfl rfl rfl hd_X8_in ⟨Nat.le_of_ble_eq_true rfl, Nat.le_of_ble_eq_true rfl⟩) rfl hl.1 rfl (Nat.le_of_ble_eq_true rfl) dX8_numbersThat_4 ⟨Nat.zero_le _, Nat.zero_le _⟩) hS (fun _ h => h) (fun H locs hz4 hP hS => ?_)
  have hP : va_P D vwCl (mw ad cI cL cZ m_w m_h m_c m_s m_le m_un m_he m_ro m_wi m_hi m_hr m_hp m_rn m_rw m_rh m_n m_l m_b m_to m_hs m_ho m_tx m_ik m_wt m_ac m_ap m_pa m_im m_ri) H := hP
  refine lv_if_ne (tgt := 12) hx hb dX8_numbersThat_7 (by decide) (fun c7 => ?_) (fun c7 => ?_)
  · have hr := (if_neg c7).symm.trans hr
    refine lv_aload_n hx hb dX8_numbersThat_12 rfl (lv_at hl 0 rfl) ?_
    refine lv_iconst (v := 2) hx hb dX8_numbersThat_13 (by decide) ?_
    refine lv_bipush (v := 16) hx hb dX8_numbersThat_14 (by decide) ?_
    obtain ⟨u1, hu1⟩ : ∃ z, f_X8_manyBut 2 16 m_w m_h m_c m_s m_rn m_rw m_rh m_n m_l m_b m_ho m_ac m_ap m_ri = z := ⟨_, rfl⟩
    have hr := (bd_eq hu1).symm.trans hr
    refine go_i (ru_V (n := 2) ⟨hx, hb, hml, hown, hts⟩ hk hP (c_X8_manyBut l D cI cL cZ ad m_w m_h m_c m_s m_le m_un m_he m_ro m_wi m_hi m_hr m_hp m_rn m_rw m_rh m_n m_l m_b m_to m_hs m_ho m_tx m_ik m_wt m_ac m_ap m_pa m_im m_ri hAd 2 16 _ hu1 hg hR hn) (cwV 2 hts (gV q5_40 q5_42 qs4_14 q1_11 q5_43) rfl rfl rfl hd_X8_manyBut ⟨Nat.le_of_ble_eq_true rfl, Nat.le_of_ble_eq_true rfl⟩) (va_recv hk.1 hP (ci := 8) (q0 := 0) rfl rfl) rfl hl.1 rfl (Nat.le_of_ble_eq_true rfl) dX8_numbersThat_16 ⟨Nat.zero_le _, Nat.zero_le _⟩) hS (fun _ h => h) (fun H locs hP hS => ?_)
    have hP : va_P D vwCl (mw ad cI cL cZ m_w m_h m_c m_s m_le m_un m_he m_ro m_wi m_hi m_hr m_hp u1.2.1 u1.2.2.1 u1.2.2.2.1 m_n m_l m_b m_to m_hs m_ho m_tx m_ik m_wt m_ac m_ap m_pa m_im u1.2.2.2.2) H := hP
    refine lv_istore_n (lv' := [(2, .int u1.1), (0, .ref (ad 0)), (1, .int p1)]) hx hb dX8_numbersThat_19 rfl hl (by decide) rfl (fun ls hl => ?_)
    refine lv_iconst (v := 0) hx hb dX8_numbersThat_20 (by decide) ?_
    refine lv_istore_n (lv' := [(3, .int 0), (2, .int u1.1), (0, .ref (ad 0)), (1, .int p1)]) hx hb dX8_numbersThat_21 rfl hl (by decide) rfl (fun ls hl => ?_)
    refine lv_iconst (v := 0) hx hb dX8_numbersThat_22 (by decide) ?_
    refine lv_istore (lv' := [(4, .int 0), (3, .int 0), (2, .int u1.1), (0, .ref (ad 0)), (1, .int p1)]) hx hb dX8_numbersThat_23 hl (by decide) rfl (fun ls hl => ?_)
    refine lp_X8_numbersThat_25 l D cI cL cZ ad m_w m_h m_c m_s m_le m_un m_he m_ro m_wi m_hi m_hr m_hp m_n m_l m_b m_to m_hs m_ho m_tx m_ik m_wt m_ac m_ap m_pa m_im ⟨hx, hb, hml, hrt, hlocks, hown, hts, hk⟩ hAd p1 u1.1 hg hR _ _ (fun z4 z5 z6 z7 z8 H locs ls hr hP hS hl => ?_) (fu m_c (0 : Int32)) 0 0 u1.2.1 u1.2.2.1 u1.2.2.2.1 u1.2.2.2.2 _ _ _ ⟨fuU_0 (by decide), mb_n hu1 hg hR hn⟩ hr hP hS (lv_sub hl [3, 4, 2, 1, 0] rfl)
    refine lv_iload_n hx hb dX8_numbersThat_109 rfl (lv_at hl 0 rfl) ?_
    subst hr
    exact ret_i hx hb hrt hlocks hP hS dX8_numbersThat_110
  · have hr := (if_pos c7).symm.trans hr
    refine lv_iconst (v := (-1)) hx hb dX8_numbersThat_10 (by decide) ?_
    subst hr
    exact ret_i hx hb hrt hlocks hP hS dX8_numbersThat_11
theorem hd_X8_tryNext : yX8_tryNext.cls = RX8 ∧ yX8_tryNext.cls ≠ "java/lang/invoke/MethodHandle" ∧ yX8_tryNext.cls ≠ "java/lang/invoke/VarHandle" ∧ (parseMethodDescriptor yX8_tryNext.desc).map (fun d => d.parameters.length) = some 0 := by decide +kernel
def F_X8_tryNext_8 (m_s : Int32) {β : Type} (k0 : (Nat → Int32) → β) : Nat → Int32 → (Nat → Int32) → β
  | 0, x2, m_wt => k0 m_wt
  | n + 1, x2, m_wt => (if m_s ≤ x2 then k0 m_wt else F_X8_tryNext_8 m_s k0 n (x2 + 1) (upd m_wt x2.toNatClampNeg 0))
def F_X8_tryNext_59 (y2 : Int32) (m_s : Int32) (m_ri : Nat → Int64) {β : Type} (k0 : (Nat → Int32) → β) : Nat → Int32 → (Nat → Int32) → β
  | 0, x3, m_wt => k0 m_wt
  | n + 1, x3, m_wt => (if m_s ≤ x3 then k0 m_wt else (if (f_X8_has (m_ri y2.toNatClampNeg) x3) = 0 then F_X8_tryNext_59 y2 m_s m_ri k0 n (x3 + 1) (upd m_wt x3.toNatClampNeg ((m_wt x3.toNatClampNeg) + 0)) else F_X8_tryNext_59 y2 m_s m_ri k0 n (x3 + 1) (upd m_wt x3.toNatClampNeg ((m_wt x3.toNatClampNeg) + 1))))
def F_X8_tryNext_31 (m_c : Int32) (m_s : Int32) (m_rn : Int32) (m_n : Int64) (m_l : Int64) (m_b : Int64) (m_ac : Nat → Int64) (m_ri : Nat → Int64) {β : Type} (k0 : Int32 → (Nat → Int32) → β) : Nat → Int32 → Int32 → (Nat → Int32) → β
  | 0, x1, x2, m_wt => k0 x1 m_wt
  | n + 1, x1, x2, m_wt => (if m_rn ≤ x2 then k0 x1 m_wt else (if (f_X8_fits (m_ri x2.toNatClampNeg) 16 m_c m_n m_l m_b m_ac) = 0 then F_X8_tryNext_31 m_c m_s m_rn m_n m_l m_b m_ac m_ri k0 n x1 (x2 + 1) m_wt else F_X8_tryNext_59 x2 m_s m_ri (fun z3 => F_X8_tryNext_31 m_c m_s m_rn m_n m_l m_b m_ac m_ri k0 n (x1 + 1) (x2 + 1) z3) (fu m_s (0 : Int32)) 0 m_wt))
def F_X8_tryNext_114 (y1 : Int32) (m_s : Int32) (m_l : Int64) (m_b : Int64) (m_wt : Nat → Int32) {β : Type} (k0 : Int32 → β) : Nat → Int32 → Int32 → Int32 → β
  | 0, x2, x3, x4 => k0 x2
  | n + 1, x2, x3, x4 => (if m_s ≤ x4 then k0 x2 else (if (y1 - (m_wt x4.toNatClampNeg)) ≤ (m_wt x4.toNatClampNeg) then (if (f_X8_has (f_X8_open m_s m_l m_b) x4) = 0 then F_X8_tryNext_114 y1 m_s m_l m_b m_wt k0 n x2 x3 (x4 + 1) else (if (y1 - (m_wt x4.toNatClampNeg)) ≤ x3 then F_X8_tryNext_114 y1 m_s m_l m_b m_wt k0 n x2 x3 (x4 + 1) else F_X8_tryNext_114 y1 m_s m_l m_b m_wt k0 n x4 (y1 - (m_wt x4.toNatClampNeg)) (x4 + 1))) else (if (f_X8_has (f_X8_open m_s m_l m_b) x4) = 0 then F_X8_tryNext_114 y1 m_s m_l m_b m_wt k0 n x2 x3 (x4 + 1) else (if (m_wt x4.toNatClampNeg) ≤ x3 then F_X8_tryNext_114 y1 m_s m_l m_b m_wt k0 n x2 x3 (x4 + 1) else F_X8_tryNext_114 y1 m_s m_l m_b m_wt k0 n x4 (m_wt x4.toNatClampNeg) (x4 + 1)))))
def f_X8_tryNext (m_w : Int32) (m_h : Int32) (m_c : Int32) (m_s : Int32) (m_rn : Int32) (m_rw : Int32) (m_rh : Int32) (m_n : Int64) (m_l : Int64) (m_b : Int64) (m_ho : Nat → Int32) (m_wt : Nat → Int32) (m_ac : Nat → Int64) (m_ap : Nat → Int64) (m_ri : Nat → Int64) : Int32 × Int32 × Int32 × Int32 × (Nat → Int32) × (Nat → Int64) := (bd (f_X8_laysRings m_w m_h m_c m_s m_rn m_rw m_rh m_ho m_ap m_ri) (fun u1 => F_X8_tryNext_8 m_s (fun z2 => F_X8_tryNext_31 m_c m_s u1.1 m_n m_l m_b m_ac u1.2.2.2 (fun z4 z5 => F_X8_tryNext_114 z4 m_s m_l m_b z5 (fun z6 => (z6, u1.1, u1.2.1, u1.2.2.1, z5, u1.2.2.2)) (fu m_s (0 : Int32)) ((-9)) 0 0) (fu u1.1 (0 : Int32)) 0 0 z2) (fu m_s (0 : Int32)) 0 m_wt))
set_option maxHeartbeats 4000000 in
set_option maxRecDepth 100000 in
theorem lp_X8_tryNext_8 (l : Launch) (D : va_G) (cI cL cZ : ClassId) (ad : Nat → Nat) (m_w m_h m_c m_s m_le m_un m_he m_ro m_wi m_hi m_hr m_hp m_rn m_rw m_rh : Int32) (m_n m_l m_b m_to m_hs : Int64) (m_ho m_tx m_ik : Nat → Int32) (m_ac m_ap m_pa m_im m_ri : Nat → Int64) {p : Program} {e : Env} {s : State} {m : MethodId} {args : Array Value} {below : List Frame} {meth : Method} {c : Code} {Q : State → Prop} (C : Cx p s m args meth c cX8_tryNext 6 (some .int) W0 RX8 D cI cL cZ) (hAd : mInj ad) (y1 : Int32) (hg : mG m_w m_h m_c m_s) {β : Type} (k0 : (Nat → Int32) → β) (r : β)
    (h0 : ∀ (m_wt : Nat → Int32) (H : Heap) (locs : List Loc) (ls : Array Slot), k0 m_wt = r → va_P D vwCl (mw ad cI cL cZ m_w m_h m_c m_s m_le m_un m_he m_ro m_wi m_hi m_hr m_hp m_rn m_rw m_rh m_n m_l m_b m_to m_hs m_ho m_tx m_ik m_wt m_ac m_ap m_pa m_im m_ri) H → va_S (mAd ad) s.heap H locs → lv_has ls 6 [(0, .ref (ad 0)), (1, .int y1)] → W p l e (rmS 4 99) s m args below meth c H locs 0 0 Q (F0 m 29 ls [])) :
    ∀ (n : Nat) (x2 : Int32) (m_wt : Nat → Int32) (H : Heap) (locs : List Loc) (ls : Array Slot), fuU n m_s x2 → F_X8_tryNext_8 m_s k0 n x2 m_wt = r → va_P D vwCl (mw ad cI cL cZ m_w m_h m_c m_s m_le m_un m_he m_ro m_wi m_hi m_hr m_hp m_rn m_rw m_rh m_n m_l m_b m_to m_hs m_ho m_tx m_ik m_wt m_ac m_ap m_pa m_im m_ri) H → va_S (mAd ad) s.heap H locs → lv_has ls 6 [(0, .ref (ad 0)), (1, .int y1), (2, .int x2)] → W p l e (rmS 4 99) s m args below meth c H locs 0 0 Q (F0 m 8 ls []) := by
  obtain ⟨hx, hb, hml, hrt, hlocks, hown, hts, hk⟩ := C
  intro n
  induction n with
  | zero =>
    intro x2 m_wt H locs ls hf
    exact absurd hf.1 (Nat.lt_irrefl 0)
  | succ n ih =>
    intro x2 m_wt H locs ls hf hr hP hS hl
    rw [F_X8_tryNext_8] at hr
    refine lv_iload_n hx hb dX8_tryNext_8 rfl (lv_at hl 2 rfl) ?_
    refine lv_aload_n hx hb dX8_tryNext_9 rfl (lv_at hl 0 rfl) ?_
    refine va_get (D := D) (ci := 8) (v := .int m_s) (C := RX8) (T := TX8) (N := 29) hx hb hts u_X8 hown hk.1 hP 0 rfl rfl 6 (by decide) (hts _ q4_18) (fun _ h9 => h9) rfl dX8_tryNext_10 ?_
    refine lv_icmp_ge (tgt := 29) hx hb dX8_tryNext_13 (by decide) (fun c13 => ?_) (fun c13 => ?_)
    · have hr := (if_pos c13).symm.trans hr
      exact h0 m_wt _ _ _ hr hP hS (lv_sub hl [0, 1] rfl)
    · have hr := (if_neg c13).symm.trans hr
      refine lv_aload_n hx hb dX8_tryNext_16 rfl (lv_at hl 0 rfl) ?_
      refine va_get (D := D) (ci := 8) (v := .ref (ad 9)) (C := RX8) (T := TX8) (N := 29) hx hb hts u_X8 hown hk.1 hP 0 rfl rfl 28 (by decide) (hts _ q4_40) (fun _ h9 => h9) rfl dX8_tryNext_17 ?_
      refine lv_iload_n hx hb dX8_tryNext_20 rfl (lv_at hl 2 rfl) ?_
      refine lv_iconst (v := 0) hx hb dX8_tryNext_21 (by decide) ?_
      refine va_iast hx hb hk.1 hP (mw_D hAd) hS 9 0 (rfl) rfl (vin_c hf.2.2 c13 (mG_s hg)) dX8_tryNext_22 (fun H locs hP _ hS => ?_)
      have hP : va_P D vwCl (mw ad cI cL cZ m_w m_h m_c m_s m_le m_un m_he m_ro m_wi m_hi m_hr m_hp m_rn m_rw m_rh m_n m_l m_b m_to m_hs m_ho m_tx m_ik (upd m_wt x2.toNatClampNeg 0) m_ac m_ap m_pa m_im m_ri) H := hP
      refine lv_iinc (v := x2 + 1) (lv' := [(2, .int (x2 + 1)), (0, .ref (ad 0)), (1, .int y1)]) hx hb dX8_tryNext_23 hl (k := 2) rfl rfl (by decide) rfl (fun ls hl => ?_)
      refine lv_goto (tgt := 8) hx hb dX8_tryNext_26 (by decide) ?_
      exact ih (x2 + 1) (upd m_wt x2.toNatClampNeg 0) _ _ _ (fuU_s hf c13) hr hP hS (lv_sub hl [1, 2, 0] rfl)
set_option maxHeartbeats 4000000 in
set_option maxRecDepth 100000 in
theorem lp_X8_tryNext_59 (l : Launch) (D : va_G) (cI cL cZ : ClassId) (ad : Nat → Nat) (m_w m_h m_c m_s m_le m_un m_he m_ro m_wi m_hi m_hr m_hp m_rn m_rw m_rh : Int32) (m_n m_l m_b m_to m_hs : Int64) (m_ho m_tx m_ik : Nat → Int32) (m_ac m_ap m_pa m_im m_ri : Nat → Int64) {p : Program} {e : Env} {s : State} {m : MethodId} {args : Array Value} {below : List Frame} {meth : Method} {c : Code} {Q : State → Prop} (C : Cx p s m args meth c cX8_tryNext 6 (some .int) W0 RX8 D cI cL cZ) (hAd : mInj ad) (y1 y2 : Int32) (hg : mG m_w m_h m_c m_s) (hy0 : 0 ≤ y2.toInt) (hy1 : y2.toInt < 9400) {β : Type} (k0 : (Nat → Int32) → β) (r : β)
    (h0 : ∀ (m_wt : Nat → Int32) (H : Heap) (locs : List Loc) (ls : Array Slot), k0 m_wt = r → va_P D vwCl (mw ad cI cL cZ m_w m_h m_c m_s m_le m_un m_he m_ro m_wi m_hi m_hr m_hp m_rn m_rw m_rh m_n m_l m_b m_to m_hs m_ho m_tx m_ik m_wt m_ac m_ap m_pa m_im m_ri) H → va_S (mAd ad) s.heap H locs → lv_has ls 6 [(0, .ref (ad 0)), (1, .int y1), (2, .int y2)] → W p l e (rmS 4 99) s m args below meth c H locs 0 0 Q (F0 m 100 ls [])) :
    ∀ (n : Nat) (x3 : Int32) (m_wt : Nat → Int32) (H : Heap) (locs : List Loc) (ls : Array Slot), fuU n m_s x3 → F_X8_tryNext_59 y2 m_s m_ri k0 n x3 m_wt = r → va_P D vwCl (mw ad cI cL cZ m_w m_h m_c m_s m_le m_un m_he m_ro m_wi m_hi m_hr m_hp m_rn m_rw m_rh m_n m_l m_b m_to m_hs m_ho m_tx m_ik m_wt m_ac m_ap m_pa m_im m_ri) H → va_S (mAd ad) s.heap H locs → lv_has ls 6 [(0, .ref (ad 0)), (1, .int y1), (2, .int y2), (3, .int x3)] → W p l e (rmS 4 99) s m args below meth c H locs 0 0 Q (F0 m 59 ls []) := by
  obtain ⟨hx, hb, hml, hrt, hlocks, hown, hts, hk⟩ := C
  intro n
  induction n with
  | zero =>
    intro x3 m_wt H locs ls hf
    exact absurd hf.1 (Nat.lt_irrefl 0)
  | succ n ih =>
    intro x3 m_wt H locs ls hf hr hP hS hl
    rw [F_X8_tryNext_59] at hr
    refine lv_iload_n hx hb dX8_tryNext_59 rfl (lv_at hl 3 rfl) ?_
    refine lv_aload_n hx hb dX8_tryNext_60 rfl (lv_at hl 0 rfl) ?_
    refine va_get (D := D) (ci := 8) (v := .int m_s) (C := RX8) (T := TX8) (N := 29) hx hb hts u_X8 hown hk.1 hP 0 rfl rfl 6 (by decide) (hts _ q4_18) (fun _ h9 => h9) rfl dX8_tryNext_61 ?_
    refine lv_icmp_ge (tgt := 100) hx hb dX8_tryNext_64 (by decide) (fun c64 => ?_) (fun c64 => ?_)
    · have hr := (if_pos c64).symm.trans hr
      exact h0 m_wt _ _ _ hr hP hS (lv_sub hl [0, 1, 2] rfl)
    · have hr := (if_neg c64).symm.trans hr
      refine lv_aload_n hx hb dX8_tryNext_67 rfl (lv_at hl 0 rfl) ?_
      refine va_get (D := D) (ci := 8) (v := .ref (ad 9)) (C := RX8) (T := TX8) (N := 29) hx hb hts u_X8 hown hk.1 hP 0 rfl rfl 28 (by decide) (hts _ q4_40) (fun _ h9 => h9) rfl dX8_tryNext_68 ?_
      refine lv_iload_n hx hb dX8_tryNext_71 rfl (lv_at hl 3 rfl) ?_
      refine lv_dup2_11 hx hb dX8_tryNext_72 rfl rfl ?_
      refine va_iald hx hb hk.1 hP 9 0 (rfl) rfl (vin_c hf.2.2 c64 (mG_s hg)) dX8_tryNext_73 ?_
      refine lv_aload_n hx hb dX8_tryNext_74 rfl (lv_at hl 0 rfl) ?_
      refine va_get (D := D) (ci := 8) (v := .ref (ad 8)) (C := RX8) (T := TX8) (N := 29) hx hb hts u_X8 hown hk.1 hP 0 rfl rfl 24 (by decide) (hts _ q4_36) (fun _ h9 => h9) rfl dX8_tryNext_75 ?_
      refine lv_iload_n hx hb dX8_tryNext_78 rfl (lv_at hl 2 rfl) ?_
      refine va_lald hx hb hk.1 hP 8 1 (rfl) rfl (vin hy0 hy1) dX8_tryNext_79 ?_
      refine lv_iload_n hx hb dX8_tryNext_80 rfl (lv_at hl 3 rfl) ?_
      refine go_z (ru_S (n := 2) ⟨hx, hb, hml, hown, hts⟩ hk hP (c_X8_has l D cI cL cZ (mAd ad) (mw ad cI cL cZ m_w m_h m_c m_s m_le m_un m_he m_ro m_wi m_hi m_hr m_hp m_rn m_rw m_rh m_n m_l m_b m_to m_hs m_ho m_tx m_ik m_wt m_ac m_ap m_pa m_im m_ri) (m_ri y2.toNatClampNeg) x3 _ rfl) (va_cwS 2 hts (gS q4_153 q4_154 q1_11 q4_155) rfl rfl rfl hd_X8_has ⟨Nat.le_of_ble_eq_true rfl, Nat.le_of_ble_eq_true rfl⟩) rfl hl.1 rfl (Nat.le_of_ble_eq_true rfl) dX8_tryNext_81 ⟨Nat.zero_le _, Nat.zero_le _⟩) hS (fun _ h => h) (fun H locs hz81 hP hS => ?_)
      have hP : va_P D vwCl (mw ad cI cL cZ m_w m_h m_c m_s m_le m_un m_he m_ro m_wi m_hi m_hr m_hp m_rn m_rw m_rh m_n m_l m_b m_to m_hs m_ho m_tx m_ik m_wt m_ac m_ap m_pa m_im m_ri) H := hP
      refine lv_if_eq (tgt := 91) hx hb dX8_tryNext_84 (by decide) (fun c84 => ?_) (fun c84 => ?_)
      · have hr := (if_pos c84).symm.trans hr
        refine lv_iconst (v := 0) hx hb dX8_tryNext_91 (by decide) ?_
        refine lv_iadd hx hb dX8_tryNext_92 ?_
        refine va_iast hx hb hk.1 hP (mw_D hAd) hS 9 0 (rfl) rfl (vin_c hf.2.2 c64 (mG_s hg)) dX8_tryNext_93 (fun H locs hP _ hS => ?_)
        have hP : va_P D vwCl (mw ad cI cL cZ m_w m_h m_c m_s m_le m_un m_he m_ro m_wi m_hi m_hr m_hp m_rn m_rw m_rh m_n m_l m_b m_to m_hs m_ho m_tx m_ik (upd m_wt x3.toNatClampNeg ((m_wt x3.toNatClampNeg) + 0)) m_ac m_ap m_pa m_im m_ri) H := hP
        refine lv_iinc (v := x3 + 1) (lv' := [(3, .int (x3 + 1)), (0, .ref (ad 0)), (1, .int y1), (2, .int y2)]) hx hb dX8_tryNext_94 hl (k := 3) rfl rfl (by decide) rfl (fun ls hl => ?_)
        refine lv_goto (tgt := 59) hx hb dX8_tryNext_97 (by decide) ?_
        exact ih (x3 + 1) (upd m_wt x3.toNatClampNeg ((m_wt x3.toNatClampNeg) + 0)) _ _ _ (fuU_s hf c64) hr hP hS (lv_sub hl [1, 2, 3, 0] rfl)
      · have hr := (if_neg c84).symm.trans hr
        refine lv_iconst (v := 1) hx hb dX8_tryNext_87 (by decide) ?_
        refine lv_goto (tgt := 92) hx hb dX8_tryNext_88 (by decide) ?_
        refine lv_iadd hx hb dX8_tryNext_92 ?_
        refine va_iast hx hb hk.1 hP (mw_D hAd) hS 9 0 (rfl) rfl (vin_c hf.2.2 c64 (mG_s hg)) dX8_tryNext_93 (fun H locs hP _ hS => ?_)
        have hP : va_P D vwCl (mw ad cI cL cZ m_w m_h m_c m_s m_le m_un m_he m_ro m_wi m_hi m_hr m_hp m_rn m_rw m_rh m_n m_l m_b m_to m_hs m_ho m_tx m_ik (upd m_wt x3.toNatClampNeg ((m_wt x3.toNatClampNeg) + 1)) m_ac m_ap m_pa m_im m_ri) H := hP
        refine lv_iinc (v := x3 + 1) (lv' := [(3, .int (x3 + 1)), (0, .ref (ad 0)), (1, .int y1), (2, .int y2)]) hx hb dX8_tryNext_94 hl (k := 3) rfl rfl (by decide) rfl (fun ls hl => ?_)
        refine lv_goto (tgt := 59) hx hb dX8_tryNext_97 (by decide) ?_
        exact ih (x3 + 1) (upd m_wt x3.toNatClampNeg ((m_wt x3.toNatClampNeg) + 1)) _ _ _ (fuU_s hf c64) hr hP hS (lv_sub hl [1, 2, 3, 0] rfl)
set_option maxHeartbeats 4000000 in
set_option maxRecDepth 100000 in
theorem lp_X8_tryNext_31 (l : Launch) (D : va_G) (cI cL cZ : ClassId) (ad : Nat → Nat) (m_w m_h m_c m_s m_le m_un m_he m_ro m_wi m_hi m_hr m_hp m_rn m_rw m_rh : Int32) (m_n m_l m_b m_to m_hs : Int64) (m_ho m_tx m_ik : Nat → Int32) (m_ac m_ap m_pa m_im m_ri : Nat → Int64) {p : Program} {e : Env} {s : State} {m : MethodId} {args : Array Value} {below : List Frame} {meth : Method} {c : Code} {Q : State → Prop} (C : Cx p s m args meth c cX8_tryNext 6 (some .int) W0 RX8 D cI cL cZ) (hAd : mInj ad) (hg : mG m_w m_h m_c m_s) (hn : 0 ≤ m_rn.toInt ∧ m_rn.toInt ≤ 9400) {β : Type} (k0 : Int32 → (Nat → Int32) → β) (r : β)
    (h0 : ∀ (e1 : Int32) (m_wt : Nat → Int32) (H : Heap) (locs : List Loc) (ls : Array Slot), k0 e1 m_wt = r → va_P D vwCl (mw ad cI cL cZ m_w m_h m_c m_s m_le m_un m_he m_ro m_wi m_hi m_hr m_hp m_rn m_rw m_rh m_n m_l m_b m_to m_hs m_ho m_tx m_ik m_wt m_ac m_ap m_pa m_im m_ri) H → va_S (mAd ad) s.heap H locs → lv_has ls 6 [(0, .ref (ad 0)), (1, .int e1)] → W p l e (rmS 4 99) s m args below meth c H locs 0 0 Q (F0 m 106 ls [])) :
    ∀ (n : Nat) (x1 x2 : Int32) (m_wt : Nat → Int32) (H : Heap) (locs : List Loc) (ls : Array Slot), fuU n m_rn x2 → F_X8_tryNext_31 m_c m_s m_rn m_n m_l m_b m_ac m_ri k0 n x1 x2 m_wt = r → va_P D vwCl (mw ad cI cL cZ m_w m_h m_c m_s m_le m_un m_he m_ro m_wi m_hi m_hr m_hp m_rn m_rw m_rh m_n m_l m_b m_to m_hs m_ho m_tx m_ik m_wt m_ac m_ap m_pa m_im m_ri) H → va_S (mAd ad) s.heap H locs → lv_has ls 6 [(0, .ref (ad 0)), (1, .int x1), (2, .int x2)] → W p l e (rmS 4 99) s m args below meth c H locs 0 0 Q (F0 m 31 ls []) := by
  obtain ⟨hx, hb, hml, hrt, hlocks, hown, hts, hk⟩ := C
  intro n
  induction n with
  | zero =>
    intro x1 x2 m_wt H locs ls hf
    exact absurd hf.1 (Nat.lt_irrefl 0)
  | succ n ih =>
    intro x1 x2 m_wt H locs ls hf hr hP hS hl
    rw [F_X8_tryNext_31] at hr
    refine lv_iload_n hx hb dX8_tryNext_31 rfl (lv_at hl 2 rfl) ?_
    refine lv_aload_n hx hb dX8_tryNext_32 rfl (lv_at hl 0 rfl) ?_
    refine va_get (D := D) (ci := 8) (v := .int m_rn) (C := RX8) (T := TX8) (N := 29) hx hb hts u_X8 hown hk.1 hP 0 rfl rfl 25 (by decide) (hts _ q4_37) (fun _ h9 => h9) rfl dX8_tryNext_33 ?_
    refine lv_icmp_ge (tgt := 106) hx hb dX8_tryNext_36 (by decide) (fun c36 => ?_) (fun c36 => ?_)
    · have hr := (if_pos c36).symm.trans hr
      exact h0 x1 m_wt _ _ _ hr hP hS (lv_sub hl [0, 1] rfl)
    · have hr := (if_neg c36).symm.trans hr
      refine lv_aload_n hx hb dX8_tryNext_39 rfl (lv_at hl 0 rfl) ?_
      refine lv_aload_n hx hb dX8_tryNext_40 rfl (lv_at hl 0 rfl) ?_
      refine va_get (D := D) (ci := 8) (v := .ref (ad 8)) (C := RX8) (T := TX8) (N := 29) hx hb hts u_X8 hown hk.1 hP 0 rfl rfl 24 (by decide) (hts _ q4_36) (fun _ h9 => h9) rfl dX8_tryNext_41 ?_
      refine lv_iload_n hx hb dX8_tryNext_44 rfl (lv_at hl 2 rfl) ?_
      refine va_lald hx hb hk.1 hP 8 1 (rfl) rfl (vin_c hf.2.2 c36 hn.2) dX8_tryNext_45 ?_
      refine lv_bipush (v := 16) hx hb dX8_tryNext_46 (by decide) ?_
      refine go_z (ru_V (n := 2) ⟨hx, hb, hml, hown, hts⟩ hk hP (c_X8_fits l D cI cL cZ ad m_w m_h m_c m_s m_le m_un m_he m_ro m_wi m_hi m_hr m_hp m_rn m_rw m_rh m_n m_l m_b m_to m_hs m_ho m_tx m_ik m_wt m_ac m_ap m_pa m_im m_ri hAd (m_ri x2.toNatClampNeg) 16 _ rfl hg) (cwV 2 hts (gV q5_56 q5_58 qs5_2 q1_11 q5_59) rfl rfl rfl hd_X8_fits ⟨Nat.le_of_ble_eq_true rfl, Nat.le_of_ble_eq_true rfl⟩) (va_recv hk.1 hP (ci := 8) (q0 := 0) rfl rfl) rfl hl.1 rfl (Nat.le_of_ble_eq_true rfl) dX8_tryNext_48 ⟨Nat.zero_le _, Nat.zero_le _⟩) hS (fun _ h => h) (fun H locs hz48 hP hS => ?_)
      have hP : va_P D vwCl (mw ad cI cL cZ m_w m_h m_c m_s m_le m_un m_he m_ro m_wi m_hi m_hr m_hp m_rn m_rw m_rh m_n m_l m_b m_to m_hs m_ho m_tx m_ik m_wt m_ac m_ap m_pa m_im m_ri) H := hP
      refine lv_if_eq (tgt := 100) hx hb dX8_tryNext_51 (by decide) (fun c51 => ?_) (fun c51 => ?_)
      · have hr := (if_pos c51).symm.trans hr
        refine lv_iinc (v := x2 + 1) (lv' := [(2, .int (x2 + 1)), (0, .ref (ad 0)), (1, .int x1)]) hx hb dX8_tryNext_100 hl (k := 2) rfl rfl (by decide) rfl (fun ls hl => ?_)
        refine lv_goto (tgt := 31) hx hb dX8_tryNext_103 (by decide) ?_
        exact ih x1 (x2 + 1) m_wt _ _ _ (fuU_s hf c36) hr hP hS (lv_sub hl [1, 2, 0] rfl)
      · have hr := (if_neg c51).symm.trans hr
        refine lv_iinc (v := x1 + 1) (lv' := [(1, .int (x1 + 1)), (0, .ref (ad 0)), (2, .int x2)]) hx hb dX8_tryNext_54 hl (k := 1) rfl rfl (by decide) rfl (fun ls hl => ?_)
        refine lv_iconst (v := 0) hx hb dX8_tryNext_57 (by decide) ?_
        refine lv_istore_n (lv' := [(3, .int 0), (1, .int (x1 + 1)), (0, .ref (ad 0)), (2, .int x2)]) hx hb dX8_tryNext_58 rfl hl (by decide) rfl (fun ls hl => ?_)
        refine lp_X8_tryNext_59 l D cI cL cZ ad m_w m_h m_c m_s m_le m_un m_he m_ro m_wi m_hi m_hr m_hp m_rn m_rw m_rh m_n m_l m_b m_to m_hs m_ho m_tx m_ik m_ac m_ap m_pa m_im m_ri ⟨hx, hb, hml, hrt, hlocks, hown, hts, hk⟩ hAd (x1 + 1) x2 hg hf.2.2 (rn_lt c36 hn) _ _ (fun z3 H locs ls hr hP hS hl => ?_) (fu m_s (0 : Int32)) 0 m_wt _ _ _ (fuU_0 (by decide)) hr hP hS (lv_sub hl [2, 1, 3, 0] rfl)
        refine lv_iinc (v := x2 + 1) (lv' := [(2, .int (x2 + 1)), (0, .ref (ad 0)), (1, .int (x1 + 1))]) hx hb dX8_tryNext_100 hl (k := 2) rfl rfl (by decide) rfl (fun ls hl => ?_)
        refine lv_goto (tgt := 31) hx hb dX8_tryNext_103 (by decide) ?_
        exact ih (x1 + 1) (x2 + 1) z3 _ _ _ (fuU_s hf c36) hr hP hS (lv_sub hl [1, 2, 0] rfl)
set_option maxHeartbeats 4000000 in
set_option maxRecDepth 100000 in
theorem lp_X8_tryNext_114 (l : Launch) (D : va_G) (cI cL cZ : ClassId) (ad : Nat → Nat) (m_w m_h m_c m_s m_le m_un m_he m_ro m_wi m_hi m_hr m_hp m_rn m_rw m_rh : Int32) (m_n m_l m_b m_to m_hs : Int64) (m_ho m_tx m_ik m_wt : Nat → Int32) (m_ac m_ap m_pa m_im m_ri : Nat → Int64) {p : Program} {e : Env} {s : State} {m : MethodId} {args : Array Value} {below : List Frame} {meth : Method} {c : Code} {Q : State → Prop} (C : Cx p s m args meth c cX8_tryNext 6 (some .int) W0 RX8 D cI cL cZ) (hAd : mInj ad) (y1 : Int32) (hg : mG m_w m_h m_c m_s) {β : Type} (k0 : Int32 → β) (r : β)
    (h0 : ∀ (e2 : Int32) (H : Heap) (locs : List Loc) (ls : Array Slot), k0 e2 = r → va_P D vwCl (mw ad cI cL cZ m_w m_h m_c m_s m_le m_un m_he m_ro m_wi m_hi m_hr m_hp m_rn m_rw m_rh m_n m_l m_b m_to m_hs m_ho m_tx m_ik m_wt m_ac m_ap m_pa m_im m_ri) H → va_S (mAd ad) s.heap H locs → lv_has ls 6 [(2, .int e2)] → W p l e (rmS 4 99) s m args below meth c H locs 0 0 Q (F0 m 193 ls [])) :
    ∀ (n : Nat) (x2 x3 x4 : Int32) (H : Heap) (locs : List Loc) (ls : Array Slot), fuU n m_s x4 → F_X8_tryNext_114 y1 m_s m_l m_b m_wt k0 n x2 x3 x4 = r → va_P D vwCl (mw ad cI cL cZ m_w m_h m_c m_s m_le m_un m_he m_ro m_wi m_hi m_hr m_hp m_rn m_rw m_rh m_n m_l m_b m_to m_hs m_ho m_tx m_ik m_wt m_ac m_ap m_pa m_im m_ri) H → va_S (mAd ad) s.heap H locs → lv_has ls 6 [(0, .ref (ad 0)), (1, .int y1), (2, .int x2), (3, .int x3), (4, .int x4)] → W p l e (rmS 4 99) s m args below meth c H locs 0 0 Q (F0 m 114 ls []) := by
  obtain ⟨hx, hb, hml, hrt, hlocks, hown, hts, hk⟩ := C
  intro n
  induction n with
  | zero =>
    intro x2 x3 x4 H locs ls hf
    exact absurd hf.1 (Nat.lt_irrefl 0)
  | succ n ih =>
    intro x2 x3 x4 H locs ls hf hr hP hS hl
    rw [F_X8_tryNext_114] at hr
    refine lv_iload hx hb dX8_tryNext_114 (lv_at hl 4 rfl) ?_
    refine lv_aload_n hx hb dX8_tryNext_116 rfl (lv_at hl 0 rfl) ?_
    refine va_get (D := D) (ci := 8) (v := .int m_s) (C := RX8) (T := TX8) (N := 29) hx hb hts u_X8 hown hk.1 hP 0 rfl rfl 6 (by decide) (hts _ q4_18) (fun _ h9 => h9) rfl dX8_tryNext_117 ?_
    refine lv_icmp_ge (tgt := 193) hx hb dX8_tryNext_120 (by decide) (fun c120 => ?_) (fun c120 => ?_)
    · have hr := (if_pos c120).symm.trans hr
      exact h0 x2 _ _ _ hr hP hS (lv_sub hl [2] rfl)
    · have hr := (if_neg c120).symm.trans hr
      refine lv_aload_n hx hb dX8_tryNext_123 rfl (lv_at hl 0 rfl) ?_
      refine va_get (D := D) (ci := 8) (v := .ref (ad 9)) (C := RX8) (T := TX8) (N := 29) hx hb hts u_X8 hown hk.1 hP 0 rfl rfl 28 (by decide) (hts _ q4_40) (fun _ h9 => h9) rfl dX8_tryNext_124 ?_
      refine lv_iload hx hb dX8_tryNext_127 (lv_at hl 4 rfl) ?_
      refine va_iald hx hb hk.1 hP 9 0 (rfl) rfl (vin_c hf.2.2 c120 (mG_s hg)) dX8_tryNext_129 ?_
      refine lv_iload_n hx hb dX8_tryNext_130 rfl (lv_at hl 1 rfl) ?_
      refine lv_aload_n hx hb dX8_tryNext_131 rfl (lv_at hl 0 rfl) ?_
      refine va_get (D := D) (ci := 8) (v := .ref (ad 9)) (C := RX8) (T := TX8) (N := 29) hx hb hts u_X8 hown hk.1 hP 0 rfl rfl 28 (by decide) (hts _ q4_40) (fun _ h9 => h9) rfl dX8_tryNext_132 ?_
      refine lv_iload hx hb dX8_tryNext_135 (lv_at hl 4 rfl) ?_
      refine va_iald hx hb hk.1 hP 9 0 (rfl) rfl (vin_c hf.2.2 c120 (mG_s hg)) dX8_tryNext_137 ?_
      refine lv_isub hx hb dX8_tryNext_138 ?_
      refine lv_icmp_ge (tgt := 152) hx hb dX8_tryNext_139 (by decide) (fun c139 => ?_) (fun c139 => ?_)
      · have hr := (if_pos c139).symm.trans hr
        refine lv_iload_n hx hb dX8_tryNext_152 rfl (lv_at hl 1 rfl) ?_
        refine lv_aload_n hx hb dX8_tryNext_153 rfl (lv_at hl 0 rfl) ?_
        refine va_get (D := D) (ci := 8) (v := .ref (ad 9)) (C := RX8) (T := TX8) (N := 29) hx hb hts u_X8 hown hk.1 hP 0 rfl rfl 28 (by decide) (hts _ q4_40) (fun _ h9 => h9) rfl dX8_tryNext_154 ?_
        refine lv_iload hx hb dX8_tryNext_157 (lv_at hl 4 rfl) ?_
        refine va_iald hx hb hk.1 hP 9 0 (rfl) rfl (vin_c hf.2.2 c120 (mG_s hg)) dX8_tryNext_159 ?_
        refine lv_isub hx hb dX8_tryNext_160 ?_
        refine lv_istore (lv' := [(5, .int (y1 - (m_wt x4.toNatClampNeg))), (0, .ref (ad 0)), (1, .int y1), (2, .int x2), (3, .int x3), (4, .int x4)]) hx hb dX8_tryNext_161 hl (by decide) rfl (fun ls hl => ?_)
        refine lv_aload_n hx hb dX8_tryNext_163 rfl (lv_at hl 1 rfl) ?_
        refine go_l (ru_V (n := 0) ⟨hx, hb, hml, hown, hts⟩ hk hP (c_X8_open l D cI cL cZ ad m_w m_h m_c m_s m_le m_un m_he m_ro m_wi m_hi m_hr m_hp m_rn m_rw m_rh m_n m_l m_b m_to m_hs m_ho m_tx m_ik m_wt m_ac m_ap m_pa m_im m_ri hAd _ rfl) (cwV 0 hts (gV q4_216 q4_218 qs4_4 q1_11 q4_219) rfl rfl rfl hd_X8_open ⟨Nat.le_of_ble_eq_true rfl, Nat.le_of_ble_eq_true rfl⟩) (va_recv hk.1 hP (ci := 8) (q0 := 0) rfl rfl) rfl hl.1 rfl (Nat.le_of_ble_eq_true rfl) dX8_tryNext_164 ⟨Nat.zero_le _, Nat.zero_le _⟩) hS (fun _ h => h) (fun H locs hP hS => ?_)
        have hP : va_P D vwCl (mw ad cI cL cZ m_w m_h m_c m_s m_le m_un m_he m_ro m_wi m_hi m_hr m_hp m_rn m_rw m_rh m_n m_l m_b m_to m_hs m_ho m_tx m_ik m_wt m_ac m_ap m_pa m_im m_ri) H := hP
        refine lv_iload hx hb dX8_tryNext_167 (lv_at hl 5 rfl) ?_
        refine go_z (ru_S (n := 2) ⟨hx, hb, hml, hown, hts⟩ hk hP (c_X8_has l D cI cL cZ (mAd ad) (mw ad cI cL cZ m_w m_h m_c m_s m_le m_un m_he m_ro m_wi m_hi m_hr m_hp m_rn m_rw m_rh m_n m_l m_b m_to m_hs m_ho m_tx m_ik m_wt m_ac m_ap m_pa m_im m_ri) (f_X8_open m_s m_l m_b) x4 _ rfl) (va_cwS 2 hts (gS q4_153 q4_154 q1_11 q4_155) rfl rfl rfl hd_X8_has ⟨Nat.le_of_ble_eq_true rfl, Nat.le_of_ble_eq_true rfl⟩) rfl hl.1 rfl (Nat.le_of_ble_eq_true rfl) dX8_tryNext_169 ⟨Nat.zero_le _, Nat.zero_le _⟩) hS (fun _ h => h) (fun H locs hz169 hP hS => ?_)
        have hP : va_P D vwCl (mw ad cI cL cZ m_w m_h m_c m_s m_le m_un m_he m_ro m_wi m_hi m_hr m_hp m_rn m_rw m_rh m_n m_l m_b m_to m_hs m_ho m_tx m_ik m_wt m_ac m_ap m_pa m_im m_ri) H := hP
        refine lv_if_eq (tgt := 187) hx hb dX8_tryNext_172 (by decide) (fun c172 => ?_) (fun c172 => ?_)
        · have hr := (if_pos c172).symm.trans hr
          refine lv_iinc (v := x4 + 1) (lv' := [(4, .int (x4 + 1)), (5, .int (y1 - (m_wt x4.toNatClampNeg))), (0, .ref (ad 0)), (1, .int y1), (2, .int x2), (3, .int x3)]) hx hb dX8_tryNext_187 hl (k := 5) rfl rfl (by decide) rfl (fun ls hl => ?_)
          refine lv_goto (tgt := 114) hx hb dX8_tryNext_190 (by decide) ?_
          exact ih x2 x3 (x4 + 1) _ _ _ (fuU_s hf c120) hr hP hS (lv_sub hl [2, 3, 4, 5, 0] rfl)
        · have hr := (if_neg c172).symm.trans hr
          refine lv_iload hx hb dX8_tryNext_175 (lv_at hl 0 rfl) ?_
          refine lv_iload_n hx hb dX8_tryNext_177 rfl (lv_at hl 4 rfl) ?_
          refine lv_icmp_le (tgt := 187) hx hb dX8_tryNext_178 (by decide) (fun c178 => ?_) (fun c178 => ?_)
          · have hr := (if_pos c178).symm.trans hr
            refine lv_iinc (v := x4 + 1) (lv' := [(4, .int (x4 + 1)), (5, .int (y1 - (m_wt x4.toNatClampNeg))), (0, .ref (ad 0)), (1, .int y1), (2, .int x2), (3, .int x3)]) hx hb dX8_tryNext_187 hl (k := 5) rfl rfl (by decide) rfl (fun ls hl => ?_)
            refine lv_goto (tgt := 114) hx hb dX8_tryNext_190 (by decide) ?_
            exact ih x2 x3 (x4 + 1) _ _ _ (fuU_s hf c120) hr hP hS (lv_sub hl [2, 3, 4, 5, 0] rfl)
          · have hr := (if_neg c178).symm.trans hr
            refine lv_iload hx hb dX8_tryNext_181 (lv_at hl 5 rfl) ?_
            refine lv_istore_n (lv' := [(2, .int x4), (5, .int (y1 - (m_wt x4.toNatClampNeg))), (0, .ref (ad 0)), (1, .int y1), (3, .int x3), (4, .int x4)]) hx hb dX8_tryNext_183 rfl hl (by decide) rfl (fun ls hl => ?_)
            refine lv_iload hx hb dX8_tryNext_184 (lv_at hl 1 rfl) ?_
            refine lv_istore_n (lv' := [(3, .int (y1 - (m_wt x4.toNatClampNeg))), (2, .int x4), (5, .int (y1 - (m_wt x4.toNatClampNeg))), (0, .ref (ad 0)), (1, .int y1), (4, .int x4)]) hx hb dX8_tryNext_186 rfl hl (by decide) rfl (fun ls hl => ?_)
            refine lv_iinc (v := x4 + 1) (lv' := [(4, .int (x4 + 1)), (3, .int (y1 - (m_wt x4.toNatClampNeg))), (2, .int x4), (5, .int (y1 - (m_wt x4.toNatClampNeg))), (0, .ref (ad 0)), (1, .int y1)]) hx hb dX8_tryNext_187 hl (k := 5) rfl rfl (by decide) rfl (fun ls hl => ?_)
            refine lv_goto (tgt := 114) hx hb dX8_tryNext_190 (by decide) ?_
            exact ih x4 (y1 - (m_wt x4.toNatClampNeg)) (x4 + 1) _ _ _ (fuU_s hf c120) hr hP hS (lv_sub hl [4, 5, 2, 1, 0] rfl)
      · have hr := (if_neg c139).symm.trans hr
        refine lv_aload_n hx hb dX8_tryNext_142 rfl (lv_at hl 0 rfl) ?_
        refine va_get (D := D) (ci := 8) (v := .ref (ad 9)) (C := RX8) (T := TX8) (N := 29) hx hb hts u_X8 hown hk.1 hP 0 rfl rfl 28 (by decide) (hts _ q4_40) (fun _ h9 => h9) rfl dX8_tryNext_143 ?_
        refine lv_iload hx hb dX8_tryNext_146 (lv_at hl 4 rfl) ?_
        refine va_iald hx hb hk.1 hP 9 0 (rfl) rfl (vin_c hf.2.2 c120 (mG_s hg)) dX8_tryNext_148 ?_
        refine lv_goto (tgt := 161) hx hb dX8_tryNext_149 (by decide) ?_
        refine lv_istore (lv' := [(5, .int (m_wt x4.toNatClampNeg)), (0, .ref (ad 0)), (1, .int y1), (2, .int x2), (3, .int x3), (4, .int x4)]) hx hb dX8_tryNext_161 hl (by decide) rfl (fun ls hl => ?_)
        refine lv_aload_n hx hb dX8_tryNext_163 rfl (lv_at hl 1 rfl) ?_
        refine go_l (ru_V (n := 0) ⟨hx, hb, hml, hown, hts⟩ hk hP (c_X8_open l D cI cL cZ ad m_w m_h m_c m_s m_le m_un m_he m_ro m_wi m_hi m_hr m_hp m_rn m_rw m_rh m_n m_l m_b m_to m_hs m_ho m_tx m_ik m_wt m_ac m_ap m_pa m_im m_ri hAd _ rfl) (cwV 0 hts (gV q4_216 q4_218 qs4_4 q1_11 q4_219) rfl rfl rfl hd_X8_open ⟨Nat.le_of_ble_eq_true rfl, Nat.le_of_ble_eq_true rfl⟩) (va_recv hk.1 hP (ci := 8) (q0 := 0) rfl rfl) rfl hl.1 rfl (Nat.le_of_ble_eq_true rfl) dX8_tryNext_164 ⟨Nat.zero_le _, Nat.zero_le _⟩) hS (fun _ h => h) (fun H locs hP hS => ?_)
        have hP : va_P D vwCl (mw ad cI cL cZ m_w m_h m_c m_s m_le m_un m_he m_ro m_wi m_hi m_hr m_hp m_rn m_rw m_rh m_n m_l m_b m_to m_hs m_ho m_tx m_ik m_wt m_ac m_ap m_pa m_im m_ri) H := hP
        refine lv_iload hx hb dX8_tryNext_167 (lv_at hl 5 rfl) ?_
        refine go_z (ru_S (n := 2) ⟨hx, hb, hml, hown, hts⟩ hk hP (c_X8_has l D cI cL cZ (mAd ad) (mw ad cI cL cZ m_w m_h m_c m_s m_le m_un m_he m_ro m_wi m_hi m_hr m_hp m_rn m_rw m_rh m_n m_l m_b m_to m_hs m_ho m_tx m_ik m_wt m_ac m_ap m_pa m_im m_ri) (f_X8_open m_s m_l m_b) x4 _ rfl) (va_cwS 2 hts (gS q4_153 q4_154 q1_11 q4_155) rfl rfl rfl hd_X8_has ⟨Nat.le_of_ble_eq_true rfl, Nat.le_of_ble_eq_true rfl⟩) rfl hl.1 rfl (Nat.le_of_ble_eq_true rfl) dX8_tryNext_169 ⟨Nat.zero_le _, Nat.zero_le _⟩) hS (fun _ h => h) (fun H locs hz169 hP hS => ?_)
        have hP : va_P D vwCl (mw ad cI cL cZ m_w m_h m_c m_s m_le m_un m_he m_ro m_wi m_hi m_hr m_hp m_rn m_rw m_rh m_n m_l m_b m_to m_hs m_ho m_tx m_ik m_wt m_ac m_ap m_pa m_im m_ri) H := hP
        refine lv_if_eq (tgt := 187) hx hb dX8_tryNext_172 (by decide) (fun c172 => ?_) (fun c172 => ?_)
        · have hr := (if_pos c172).symm.trans hr
          refine lv_iinc (v := x4 + 1) (lv' := [(4, .int (x4 + 1)), (5, .int (m_wt x4.toNatClampNeg)), (0, .ref (ad 0)), (1, .int y1), (2, .int x2), (3, .int x3)]) hx hb dX8_tryNext_187 hl (k := 5) rfl rfl (by decide) rfl (fun ls hl => ?_)
          refine lv_goto (tgt := 114) hx hb dX8_tryNext_190 (by decide) ?_
          exact ih x2 x3 (x4 + 1) _ _ _ (fuU_s hf c120) hr hP hS (lv_sub hl [2, 3, 4, 5, 0] rfl)
        · have hr := (if_neg c172).symm.trans hr
          refine lv_iload hx hb dX8_tryNext_175 (lv_at hl 0 rfl) ?_
          refine lv_iload_n hx hb dX8_tryNext_177 rfl (lv_at hl 4 rfl) ?_
          refine lv_icmp_le (tgt := 187) hx hb dX8_tryNext_178 (by decide) (fun c178 => ?_) (fun c178 => ?_)
          · have hr := (if_pos c178).symm.trans hr
            refine lv_iinc (v := x4 + 1) (lv' := [(4, .int (x4 + 1)), (5, .int (m_wt x4.toNatClampNeg)), (0, .ref (ad 0)), (1, .int y1), (2, .int x2), (3, .int x3)]) hx hb dX8_tryNext_187 hl (k := 5) rfl rfl (by decide) rfl (fun ls hl => ?_)
            refine lv_goto (tgt := 114) hx hb dX8_tryNext_190 (by decide) ?_
            exact ih x2 x3 (x4 + 1) _ _ _ (fuU_s hf c120) hr hP hS (lv_sub hl [2, 3, 4, 5, 0] rfl)
          · have hr := (if_neg c178).symm.trans hr
            refine lv_iload hx hb dX8_tryNext_181 (lv_at hl 5 rfl) ?_
            refine lv_istore_n (lv' := [(2, .int x4), (5, .int (m_wt x4.toNatClampNeg)), (0, .ref (ad 0)), (1, .int y1), (3, .int x3), (4, .int x4)]) hx hb dX8_tryNext_183 rfl hl (by decide) rfl (fun ls hl => ?_)
            refine lv_iload hx hb dX8_tryNext_184 (lv_at hl 1 rfl) ?_
            refine lv_istore_n (lv' := [(3, .int (m_wt x4.toNatClampNeg)), (2, .int x4), (5, .int (m_wt x4.toNatClampNeg)), (0, .ref (ad 0)), (1, .int y1), (4, .int x4)]) hx hb dX8_tryNext_186 rfl hl (by decide) rfl (fun ls hl => ?_)
            refine lv_iinc (v := x4 + 1) (lv' := [(4, .int (x4 + 1)), (3, .int (m_wt x4.toNatClampNeg)), (2, .int x4), (5, .int (m_wt x4.toNatClampNeg)), (0, .ref (ad 0)), (1, .int y1)]) hx hb dX8_tryNext_187 hl (k := 5) rfl rfl (by decide) rfl (fun ls hl => ?_)
            refine lv_goto (tgt := 114) hx hb dX8_tryNext_190 (by decide) ?_
            exact ih x4 (m_wt x4.toNatClampNeg) (x4 + 1) _ _ _ (fuU_s hf c120) hr hP hS (lv_sub hl [4, 5, 2, 1, 0] rfl)
set_option maxHeartbeats 4000000 in
set_option maxRecDepth 100000 in
theorem c_X8_tryNext (l : Launch) (D : va_G) (cI cL cZ : ClassId) (ad : Nat → Nat) (m_w m_h m_c m_s m_le m_un m_he m_ro m_wi m_hi m_hr m_hp m_rn m_rw m_rh : Int32) (m_n m_l m_b m_to m_hs : Int64) (m_ho m_tx m_ik m_wt : Nat → Int32) (m_ac m_ap m_pa m_im m_ri : Nat → Int64) (hAd : mInj ad) (r : Int32 × Int32 × Int32 × Int32 × (Nat → Int32) × (Nat → Int64)) (hr : f_X8_tryNext m_w m_h m_c m_s m_rn m_rw m_rh m_n m_l m_b m_ho m_wt m_ac m_ap m_ri = r) (hg : mG m_w m_h m_c m_s) (hR : hRc m_w m_h m_c m_s m_ho m_ap) (hn : 0 ≤ m_rn.toInt ∧ m_rn.toInt ≤ 9400) : MI l yX8_tryNext (Cond.code yX8_tryNext cX8_tryNext 6 (some .int) :: W0) 4 99 D cI cL cZ (mAd ad) [.ref (ad 0)] (mw ad cI cL cZ m_w m_h m_c m_s m_le m_un m_he m_ro m_wi m_hi m_hr m_hp m_rn m_rw m_rh m_n m_l m_b m_to m_hs m_ho m_tx m_ik m_wt m_ac m_ap m_pa m_im m_ri) r.1 (mw ad cI cL cZ m_w m_h m_c m_s m_le m_un m_he m_ro m_wi m_hi m_hr m_hp r.2.1 r.2.2.1 r.2.2.2.1 m_n m_l m_b m_to m_hs m_ho m_tx m_ik r.2.2.2.2.1 m_ac m_ap m_pa m_im r.2.2.2.2.2) := by
  refine mk_start (cc := cX8_tryNext) (maxL := 6) (ret := (some .int)) (by decide) rfl (Nat.le_of_ble_eq_true rfl) ?_
  intro p e s m below meth c ls C hP hS hl
  obtain ⟨hx, hb, hml, hrt, hlocks, hown, hts, hk⟩ := C
  have hown : s.vm.findClass RX8 = some m.cls := hown
  have hl : lv_has ls 6 [(0, .ref (ad 0))] := hl
  rw [f_X8_tryNext] at hr
  refine lv_aload_n hx hb dX8_tryNext_0 rfl (lv_at hl 0 rfl) ?_
  obtain ⟨u1, hu1⟩ : ∃ z, f_X8_laysRings m_w m_h m_c m_s m_rn m_rw m_rh m_ho m_ap m_ri = z := ⟨_, rfl⟩
  have hr := (bd_eq hu1).symm.trans hr
  refine go_v (ru_V (n := 0) ⟨hx, hb, hml, hown, hts⟩ hk hP (c_X8_laysRings l D cI cL cZ ad m_w m_h m_c m_s m_le m_un m_he m_ro m_wi m_hi m_hr m_hp m_rn m_rw m_rh m_n m_l m_b m_to m_hs m_ho m_tx m_ik m_wt m_ac m_ap m_pa m_im m_ri hAd _ hu1 hg hR) (cwV 0 hts (gV q5_44 q5_46 qs4_15 q1_11 q5_47) rfl rfl rfl hd_X8_laysRings ⟨Nat.le_of_ble_eq_true rfl, Nat.le_of_ble_eq_true rfl⟩) (va_recv hk.1 hP (ci := 8) (q0 := 0) rfl rfl) rfl hl.1 rfl (Nat.le_of_ble_eq_true rfl) dX8_tryNext_1 ⟨Nat.zero_le _, Nat.zero_le _⟩) hS (fun _ h => h) (fun H locs hP hS => ?_)
  have hP : va_P D vwCl (mw ad cI cL cZ m_w m_h m_c m_s m_le m_un m_he m_ro m_wi m_hi m_hr m_hp u1.1 u1.2.1 u1.2.2.1 m_n m_l m_b m_to m_hs m_ho m_tx m_ik m_wt m_ac m_ap m_pa m_im u1.2.2.2) H := hP
  refine lv_iconst (v := 0) hx hb dX8_tryNext_4 (by decide) ?_
  refine lv_istore_n (lv' := [(1, .int 0), (0, .ref (ad 0))]) hx hb dX8_tryNext_5 rfl hl (by decide) rfl (fun ls hl => ?_)
  refine lv_iconst (v := 0) hx hb dX8_tryNext_6 (by decide) ?_
  refine lv_istore_n (lv' := [(2, .int 0), (1, .int 0), (0, .ref (ad 0))]) hx hb dX8_tryNext_7 rfl hl (by decide) rfl (fun ls hl => ?_)
  refine lp_X8_tryNext_8 l D cI cL cZ ad m_w m_h m_c m_s m_le m_un m_he m_ro m_wi m_hi m_hr m_hp u1.1 u1.2.1 u1.2.2.1 m_n m_l m_b m_to m_hs m_ho m_tx m_ik m_ac m_ap m_pa m_im u1.2.2.2 ⟨hx, hb, hml, hrt, hlocks, hown, hts, hk⟩ hAd 0 hg _ _ (fun z2 H locs ls hr hP hS hl => ?_) (fu m_s (0 : Int32)) 0 m_wt _ _ _ (fuU_0 (by decide)) hr hP hS (lv_sub hl [2, 1, 0] rfl)
  refine lv_iconst (v := 0) hx hb dX8_tryNext_29 (by decide) ?_
  refine lv_istore_n (lv' := [(2, .int 0), (0, .ref (ad 0)), (1, .int 0)]) hx hb dX8_tryNext_30 rfl hl (by decide) rfl (fun ls hl => ?_)
  refine lp_X8_tryNext_31 l D cI cL cZ ad m_w m_h m_c m_s m_le m_un m_he m_ro m_wi m_hi m_hr m_hp u1.1 u1.2.1 u1.2.2.1 m_n m_l m_b m_to m_hs m_ho m_tx m_ik m_ac m_ap m_pa m_im u1.2.2.2 ⟨hx, hb, hml, hrt, hlocks, hown, hts, hk⟩ hAd hg (lays_n hu1 hg hR hn) _ _ (fun z4 z5 H locs ls hr hP hS hl => ?_) (fu u1.1 (0 : Int32)) 0 0 z2 _ _ _ (fuU_0 (by decide)) hr hP hS (lv_sub hl [1, 2, 0] rfl)
  refine lv_bipush (v := (-9)) hx hb dX8_tryNext_106 (by decide) ?_
  refine lv_istore_n (lv' := [(2, .int ((-9))), (0, .ref (ad 0)), (1, .int z4)]) hx hb dX8_tryNext_108 rfl hl (by decide) rfl (fun ls hl => ?_)
  refine lv_iconst (v := 0) hx hb dX8_tryNext_109 (by decide) ?_
  refine lv_istore_n (lv' := [(3, .int 0), (2, .int ((-9))), (0, .ref (ad 0)), (1, .int z4)]) hx hb dX8_tryNext_110 rfl hl (by decide) rfl (fun ls hl => ?_)
  refine lv_iconst (v := 0) hx hb dX8_tryNext_111 (by decide) ?_
  refine lv_istore (lv' := [(4, .int 0), (3, .int 0), (2, .int ((-9))), (0, .ref (ad 0)), (1, .int z4)]) hx hb dX8_tryNext_112 hl (by decide) rfl (fun ls hl => ?_)
  refine lp_X8_tryNext_114 l D cI cL cZ ad m_w m_h m_c m_s m_le m_un m_he m_ro m_wi m_hi m_hr m_hp u1.1 u1.2.1 u1.2.2.1 m_n m_l m_b m_to m_hs m_ho m_tx m_ik z5 m_ac m_ap m_pa m_im u1.2.2.2 ⟨hx, hb, hml, hrt, hlocks, hown, hts, hk⟩ hAd z4 hg _ _ (fun z6 H locs ls hr hP hS hl => ?_) (fu m_s (0 : Int32)) ((-9)) 0 0 _ _ _ (fuU_0 (by decide)) hr hP hS (lv_sub hl [3, 4, 2, 1, 0] rfl)
  refine lv_iload_n hx hb dX8_tryNext_193 rfl (lv_at hl 0 rfl) ?_
  subst hr
  exact ret_i hx hb hrt hlocks hP hS dX8_tryNext_194
