theorem F_46_ex {w h c s : Int32} {ho : Nat → Int32} {ap : Nat → Int64} (hR : hRc w h c s ho ap) {β : Type} (k : Int32 → (Nat → Int64) → β) : ∀ (n : Nat) (x rn : Int32) (ri : Nat → Int64), laC n w h c s ho ap x rn → ∃ (rn' : Int32) (ri' : Nat → Int64), (0 ≤ rn'.toInt ∧ rn'.toInt ≤ 9400) ∧ F_X8_laysRings_46 w h c s ho ap k n x rn ri = k rn' ri' := by
  intro n
  induction n with
  | zero => intro x rn ri hf; exact absurd hf.1.1 (Nat.lt_irrefl 0)
  | succ n ih =>
    intro x rn ri hf
    rw [F_X8_laysRings_46]
    split
    · exact ⟨_, _, la_x hR hf, rfl⟩
    · rename_i hc
      split
      · rename_i hr
        exact ih _ _ _ (la_s0 hf hc hr)
      · rename_i hr
        exact ih _ _ _ (la_s1 hf hc hr)
theorem F_124_ex (y : Int32) (v : Int64) {β : Type} (k : Int32 → (Nat → Int64) → β) : ∀ (n : Nat) (x : Int32) (ri : Nat → Int64), ∃ (x' : Int32) (ri' : Nat → Int64), F_X8_laysRings_124 y v k n x ri = k x' ri' := by
  intro n
  induction n with
  | zero => intro x ri; exact ⟨_, _, rfl⟩
  | succ n ih =>
    intro x ri
    rw [F_X8_laysRings_124]
    repeat' split
    all_goals first | exact ⟨_, _, rfl⟩ | exact ih _ _
theorem F_106_ex (y rn : Int32) {β : Type} (k : (Nat → Int64) → β) : ∀ (n : Nat) (x : Int32) (ri : Nat → Int64), ∃ (ri' : Nat → Int64), F_X8_laysRings_106 y rn k n x ri = k ri' := by
  intro n
  induction n with
  | zero => intro x ri; exact ⟨_, rfl⟩
  | succ n ih =>
    intro x ri
    rw [F_X8_laysRings_106]
    split
    · exact ⟨_, rfl⟩
    · obtain ⟨x', ri', e⟩ := F_124_ex y (ri x.toNatClampNeg) (fun z3 z4 => F_X8_laysRings_106 y rn k n (x + 1) (vp_updL z4 z3.toNatClampNeg (ri x.toNatClampNeg))) (x.toInt.toNat + 1) x ri
      rw [e]
      exact ih _ _
theorem F_100_ex (rn : Int32) {β : Type} (k : (Nat → Int64) → β) : ∀ (n : Nat) (x : Int32) (ri : Nat → Int64), ∃ (ri' : Nat → Int64), F_X8_laysRings_100 rn k n x ri = k ri' := by
  intro n
  induction n with
  | zero => intro x ri; exact ⟨_, rfl⟩
  | succ n ih =>
    intro x ri
    rw [F_X8_laysRings_100]
    split
    · exact ⟨_, rfl⟩
    · obtain ⟨ri', e⟩ := F_106_ex x rn (fun z5 => F_X8_laysRings_100 rn k n (x / 2) z5) (fu rn x) x ri
      rw [e]
      exact ih _ _
theorem lays_n {w h c s rn rw_ rh : Int32} {ho : Nat → Int32} {ap ri : Nat → Int64} {u : Int32 × Int32 × Int32 × (Nat → Int64)} (hu : f_X8_laysRings w h c s rn rw_ rh ho ap ri = u) (hg : mG w h c s) (hR : hRc w h c s ho ap) (hn : 0 ≤ rn.toInt ∧ rn.toInt ≤ 9400) : 0 ≤ u.1.toInt ∧ u.1.toInt ≤ 9400 := by
  have key : 0 ≤ (F_X8_laysRings_46 w h c s ho ap (fun z7 z8 => F_X8_laysRings_100 z7 (fun z9 => (z7, w, h, z9)) ((4096 : Int32).toInt.toNat + 1) 4096 z8) (fu (1 <<< (c &&& 31)) (1 : Int32)) 1 0 ri).1.toInt ∧ (F_X8_laysRings_46 w h c s ho ap (fun z7 z8 => F_X8_laysRings_100 z7 (fun z9 => (z7, w, h, z9)) ((4096 : Int32).toInt.toNat + 1) 4096 z8) (fu (1 <<< (c &&& 31)) (1 : Int32)) 1 0 ri).1.toInt ≤ 9400 := by
    obtain ⟨rn', ri', h1, e⟩ := F_46_ex hR (fun z7 z8 => F_X8_laysRings_100 z7 (fun z9 => (z7, w, h, z9)) ((4096 : Int32).toInt.toNat + 1) 4096 z8) (fu (1 <<< (c &&& 31)) (1 : Int32)) 1 0 ri (la_0 hg)
    rw [e]
    obtain ⟨ri2, e2⟩ := F_100_ex rn' (fun z9 => (rn', w, h, z9)) ((4096 : Int32).toInt.toNat + 1) 4096 ri'
    rw [e2]
    exact h1
  rw [← hu, f_X8_laysRings]
  split
  · split
    · exact hn
    · exact key
  · exact key
theorem rem_num : ∀ a : Fin 5, ∀ y : Fin 17, 1 ≤ a.val → (nI y.val - nI y.val / nI a.val * nI a.val).toInt < 2147483647 := by decide +kernel
theorem rem_lt {w h c s y : Int32} (hg : mG w h c s) (h0 : 0 ≤ y.toInt) (h1 : ¬ c ≤ y) : (y - y / w * w).toInt < 2147483647 := by
  have g1 := lt_tt h1
  have g2 := mG_c hg
  obtain ⟨a, b, ha, hb, e1, e2⟩ := wh_of hg.1
  obtain ⟨j, hj, rfl⟩ := i32_of (x := y) (n := 16) h0 (by omega) (by decide)
  rw [e1]
  exact rem_num a ⟨j, by omega⟩ ha
theorem hd_X8_manyBut : yX8_manyBut.cls = RX8 ∧ yX8_manyBut.cls ≠ "java/lang/invoke/MethodHandle" ∧ yX8_manyBut.cls ≠ "java/lang/invoke/VarHandle" ∧ (parseMethodDescriptor yX8_manyBut.desc).map (fun d => d.parameters.length) = some 2 := by decide +kernel
def F_X8_manyBut_9 (y1 : Int32) (y2 : Int32) (m_c : Int32) (m_rn : Int32) (m_n : Int64) (m_l : Int64) (m_b : Int64) (m_ac : Nat → Int64) (m_ri : Nat → Int64) {β : Type} (k0 : Int32 → β) : Nat → Int32 → Int32 → β
  | 0, x3, x4 => k0 x3
  | n + 1, x3, x4 => (if m_rn ≤ x4 then k0 x3 else (if y1 ≤ x3 then k0 x3 else (if (f_X8_fits (m_ri x4.toNatClampNeg) y2 m_c m_n m_l m_b m_ac) = 0 then F_X8_manyBut_9 y1 y2 m_c m_rn m_n m_l m_b m_ac m_ri k0 n (x3 + 0) (x4 + 1) else F_X8_manyBut_9 y1 y2 m_c m_rn m_n m_l m_b m_ac m_ri k0 n (x3 + 1) (x4 + 1))))
def f_X8_manyBut (p1 : Int32) (p2 : Int32) (m_w : Int32) (m_h : Int32) (m_c : Int32) (m_s : Int32) (m_rn : Int32) (m_rw : Int32) (m_rh : Int32) (m_n : Int64) (m_l : Int64) (m_b : Int64) (m_ho : Nat → Int32) (m_ac : Nat → Int64) (m_ap : Nat → Int64) (m_ri : Nat → Int64) : Int32 × Int32 × Int32 × Int32 × (Nat → Int64) := (bd (f_X8_laysRings m_w m_h m_c m_s m_rn m_rw m_rh m_ho m_ap m_ri) (fun u1 => F_X8_manyBut_9 p1 p2 m_c u1.1 m_n m_l m_b m_ac u1.2.2.2 (fun z2 => (z2, u1.1, u1.2.1, u1.2.2.1, u1.2.2.2)) (fu u1.1 (0 : Int32)) 0 0))
set_option maxHeartbeats 4000000 in
set_option maxRecDepth 100000 in
theorem lp_X8_manyBut_9 (l : Launch) (D : va_G) (cI cL cZ : ClassId) (ad : Nat → Nat) (m_w m_h m_c m_s m_le m_un m_he m_ro m_wi m_hi m_hr m_hp m_rn m_rw m_rh : Int32) (m_n m_l m_b m_to m_hs : Int64) (m_ho m_tx m_ik m_wt : Nat → Int32) (m_ac m_ap m_pa m_im m_ri : Nat → Int64) {p : Program} {e : Env} {s : State} {m : MethodId} {args : Array Value} {below : List Frame} {meth : Method} {c : Code} {Q : State → Prop} (C : Cx p s m args meth c cX8_manyBut 5 (some .int) W0 RX8 D cI cL cZ) (hAd : mInj ad) (y1 y2 : Int32) (hg : mG m_w m_h m_c m_s) (hn : 0 ≤ m_rn.toInt ∧ m_rn.toInt ≤ 9400) {β : Type} (k0 : Int32 → β) (r : β)
    (h0 : ∀ (e3 : Int32) (H : Heap) (locs : List Loc) (ls : Array Slot), k0 e3 = r → va_P D vwCl (mw ad cI cL cZ m_w m_h m_c m_s m_le m_un m_he m_ro m_wi m_hi m_hr m_hp m_rn m_rw m_rh m_n m_l m_b m_to m_hs m_ho m_tx m_ik m_wt m_ac m_ap m_pa m_im m_ri) H → va_S (mAd ad) s.heap H locs → lv_has ls 5 [(3, .int e3)] → W p l e (rmS 4 99) s m args below meth c H locs 0 0 Q (F0 m 52 ls [])) :
    ∀ (n : Nat) (x3 x4 : Int32) (H : Heap) (locs : List Loc) (ls : Array Slot), fuU n m_rn x4 → F_X8_manyBut_9 y1 y2 m_c m_rn m_n m_l m_b m_ac m_ri k0 n x3 x4 = r → va_P D vwCl (mw ad cI cL cZ m_w m_h m_c m_s m_le m_un m_he m_ro m_wi m_hi m_hr m_hp m_rn m_rw m_rh m_n m_l m_b m_to m_hs m_ho m_tx m_ik m_wt m_ac m_ap m_pa m_im m_ri) H → va_S (mAd ad) s.heap H locs → lv_has ls 5 [(0, .ref (ad 0)), (1, .int y1), (2, .int y2), (3, .int x3), (4, .int x4)] → W p l e (rmS 4 99) s m args below meth c H locs 0 0 Q (F0 m 9 ls []) := by
  obtain ⟨hx, hb, hml, hrt, hlocks, hown, hts, hk⟩ := C
  intro n
  induction n with
  | zero =>
    intro x3 x4 H locs ls hf
    exact absurd hf.1 (Nat.lt_irrefl 0)
  | succ n ih =>
    intro x3 x4 H locs ls hf hr hP hS hl
    rw [F_X8_manyBut_9] at hr
    refine lv_iload hx hb dX8_manyBut_9 (lv_at hl 4 rfl) ?_
    refine lv_aload_n hx hb dX8_manyBut_11 rfl (lv_at hl 0 rfl) ?_
    refine va_get (D := D) (ci := 8) (v := .int m_rn) (C := RX8) (T := TX8) (N := 29) hx hb hts u_X8 hown hk.1 hP 0 rfl rfl 25 (by decide) (hts _ q4_37) (fun _ h9 => h9) rfl dX8_manyBut_12 ?_
    refine lv_icmp_ge (tgt := 52) hx hb dX8_manyBut_15 (by decide) (fun c15 => ?_) (fun c15 => ?_)
    · have hr := (if_pos c15).symm.trans hr
      exact h0 x3 _ _ _ hr hP hS (lv_sub hl [3] rfl)
    · have hr := (if_neg c15).symm.trans hr
      refine lv_iload_n hx hb dX8_manyBut_18 rfl (lv_at hl 3 rfl) ?_
      refine lv_iload_n hx hb dX8_manyBut_19 rfl (lv_at hl 1 rfl) ?_
      refine lv_icmp_ge (tgt := 52) hx hb dX8_manyBut_20 (by decide) (fun c20 => ?_) (fun c20 => ?_)
      · have hr := (if_pos c20).symm.trans hr
        exact h0 x3 _ _ _ hr hP hS (lv_sub hl [3] rfl)
      · have hr := (if_neg c20).symm.trans hr
        refine lv_iload_n hx hb dX8_manyBut_23 rfl (lv_at hl 3 rfl) ?_
        refine lv_aload_n hx hb dX8_manyBut_24 rfl (lv_at hl 0 rfl) ?_
        refine lv_aload_n hx hb dX8_manyBut_25 rfl (lv_at hl 0 rfl) ?_
        refine va_get (D := D) (ci := 8) (v := .ref (ad 8)) (C := RX8) (T := TX8) (N := 29) hx hb hts u_X8 hown hk.1 hP 0 rfl rfl 24 (by decide) (hts _ q4_36) (fun _ h9 => h9) rfl dX8_manyBut_26 ?_
        refine lv_iload hx hb dX8_manyBut_29 (lv_at hl 4 rfl) ?_
        refine va_lald hx hb hk.1 hP 8 1 (rfl) rfl (vin_c hf.2.2 c15 hn.2) dX8_manyBut_31 ?_
        refine lv_iload_n hx hb dX8_manyBut_32 rfl (lv_at hl 2 rfl) ?_
        refine go_z (ru_V (n := 2) ⟨hx, hb, hml, hown, hts⟩ hk hP (c_X8_fits l D cI cL cZ ad m_w m_h m_c m_s m_le m_un m_he m_ro m_wi m_hi m_hr m_hp m_rn m_rw m_rh m_n m_l m_b m_to m_hs m_ho m_tx m_ik m_wt m_ac m_ap m_pa m_im m_ri hAd (m_ri x4.toNatClampNeg) y2 _ rfl hg) (cwV 2 hts (gV q5_56 q5_58 qs5_2 q1_11 q5_59) rfl rfl rfl hd_X8_fits ⟨Nat.le_of_ble_eq_true rfl, Nat.le_of_ble_eq_true rfl⟩) (va_recv hk.1 hP (ci := 8) (q0 := 0) rfl rfl) rfl hl.1 rfl (Nat.le_of_ble_eq_true rfl) dX8_manyBut_33 ⟨Nat.zero_le _, Nat.zero_le _⟩) hS (fun _ h => h) (fun H locs hz33 hP hS => ?_)
        have hP : va_P D vwCl (mw ad cI cL cZ m_w m_h m_c m_s m_le m_un m_he m_ro m_wi m_hi m_hr m_hp m_rn m_rw m_rh m_n m_l m_b m_to m_hs m_ho m_tx m_ik m_wt m_ac m_ap m_pa m_im m_ri) H := hP
        refine lv_if_eq (tgt := 43) hx hb dX8_manyBut_36 (by decide) (fun c36 => ?_) (fun c36 => ?_)
        · have hr := (if_pos c36).symm.trans hr
          refine lv_iconst (v := 0) hx hb dX8_manyBut_43 (by decide) ?_
          refine lv_iadd hx hb dX8_manyBut_44 ?_
          refine lv_istore_n (lv' := [(3, .int (x3 + 0)), (0, .ref (ad 0)), (1, .int y1), (2, .int y2), (4, .int x4)]) hx hb dX8_manyBut_45 rfl hl (by decide) rfl (fun ls hl => ?_)
          refine lv_iinc (v := x4 + 1) (lv' := [(4, .int (x4 + 1)), (3, .int (x3 + 0)), (0, .ref (ad 0)), (1, .int y1), (2, .int y2)]) hx hb dX8_manyBut_46 hl (k := 4) rfl rfl (by decide) rfl (fun ls hl => ?_)
          refine lv_goto (tgt := 9) hx hb dX8_manyBut_49 (by decide) ?_
          exact ih (x3 + 0) (x4 + 1) _ _ _ (fuU_s hf c15) hr hP hS (lv_sub hl [2, 3, 4, 1, 0] rfl)
        · have hr := (if_neg c36).symm.trans hr
          refine lv_iconst (v := 1) hx hb dX8_manyBut_39 (by decide) ?_
          refine lv_goto (tgt := 44) hx hb dX8_manyBut_40 (by decide) ?_
          refine lv_iadd hx hb dX8_manyBut_44 ?_
          refine lv_istore_n (lv' := [(3, .int (x3 + 1)), (0, .ref (ad 0)), (1, .int y1), (2, .int y2), (4, .int x4)]) hx hb dX8_manyBut_45 rfl hl (by decide) rfl (fun ls hl => ?_)
          refine lv_iinc (v := x4 + 1) (lv' := [(4, .int (x4 + 1)), (3, .int (x3 + 1)), (0, .ref (ad 0)), (1, .int y1), (2, .int y2)]) hx hb dX8_manyBut_46 hl (k := 4) rfl rfl (by decide) rfl (fun ls hl => ?_)
          refine lv_goto (tgt := 9) hx hb dX8_manyBut_49 (by decide) ?_
          exact ih (x3 + 1) (x4 + 1) _ _ _ (fuU_s hf c15) hr hP hS (lv_sub hl [2, 3, 4, 1, 0] rfl)
set_option maxHeartbeats 4000000 in
set_option maxRecDepth 100000 in
theorem c_X8_manyBut (l : Launch) (D : va_G) (cI cL cZ : ClassId) (ad : Nat → Nat) (m_w m_h m_c m_s m_le m_un m_he m_ro m_wi m_hi m_hr m_hp m_rn m_rw m_rh : Int32) (m_n m_l m_b m_to m_hs : Int64) (m_ho m_tx m_ik m_wt : Nat → Int32) (m_ac m_ap m_pa m_im m_ri : Nat → Int64) (hAd : mInj ad) (p1 p2 : Int32) (r : Int32 × Int32 × Int32 × Int32 × (Nat → Int64)) (hr : f_X8_manyBut p1 p2 m_w m_h m_c m_s m_rn m_rw m_rh m_n m_l m_b m_ho m_ac m_ap m_ri = r) (hg : mG m_w m_h m_c m_s) (hR : hRc m_w m_h m_c m_s m_ho m_ap) (hn : 0 ≤ m_rn.toInt ∧ m_rn.toInt ≤ 9400) : MI l yX8_manyBut (Cond.code yX8_manyBut cX8_manyBut 5 (some .int) :: W0) 4 99 D cI cL cZ (mAd ad) [.ref (ad 0), .int p1, .int p2] (mw ad cI cL cZ m_w m_h m_c m_s m_le m_un m_he m_ro m_wi m_hi m_hr m_hp m_rn m_rw m_rh m_n m_l m_b m_to m_hs m_ho m_tx m_ik m_wt m_ac m_ap m_pa m_im m_ri) r.1 (mw ad cI cL cZ m_w m_h m_c m_s m_le m_un m_he m_ro m_wi m_hi m_hr m_hp r.2.1 r.2.2.1 r.2.2.2.1 m_n m_l m_b m_to m_hs m_ho m_tx m_ik m_wt m_ac m_ap m_pa m_im r.2.2.2.2) := by
  refine mk_start (cc := cX8_manyBut) (maxL := 5) (ret := (some .int)) (by decide) rfl (Nat.le_of_ble_eq_true rfl) ?_
  intro p e s m below meth c ls C hP hS hl
  obtain ⟨hx, hb, hml, hrt, hlocks, hown, hts, hk⟩ := C
  have hown : s.vm.findClass RX8 = some m.cls := hown
  have hl : lv_has ls 5 [(0, .ref (ad 0)), (1, .int p1), (2, .int p2)] := hl
  rw [f_X8_manyBut] at hr
  refine lv_aload_n hx hb dX8_manyBut_0 rfl (lv_at hl 0 rfl) ?_
  obtain ⟨u1, hu1⟩ : ∃ z, f_X8_laysRings m_w m_h m_c m_s m_rn m_rw m_rh m_ho m_ap m_ri = z := ⟨_, rfl⟩
  have hr := (bd_eq hu1).symm.trans hr
  refine go_v (ru_V (n := 0) ⟨hx, hb, hml, hown, hts⟩ hk hP (c_X8_laysRings l D cI cL cZ ad m_w m_h m_c m_s m_le m_un m_he m_ro m_wi m_hi m_hr m_hp m_rn m_rw m_rh m_n m_l m_b m_to m_hs m_ho m_tx m_ik m_wt m_ac m_ap m_pa m_im m_ri hAd _ hu1 hg hR) (cwV 0 hts (gV q5_44 q5_46 qs4_15 q1_11 q5_47) rfl rfl rfl hd_X8_laysRings ⟨Nat.le_of_ble_eq_true rfl, Nat.le_of_ble_eq_true rfl⟩) (va_recv hk.1 hP (ci := 8) (q0 := 0) rfl rfl) rfl hl.1 rfl (Nat.le_of_ble_eq_true rfl) dX8_manyBut_1 ⟨Nat.zero_le _, Nat.zero_le _⟩) hS (fun _ h => h) (fun H locs hP hS => ?_)
  have hP : va_P D vwCl (mw ad cI cL cZ m_w m_h m_c m_s m_le m_un m_he m_ro m_wi m_hi m_hr m_hp u1.1 u1.2.1 u1.2.2.1 m_n m_l m_b m_to m_hs m_ho m_tx m_ik m_wt m_ac m_ap m_pa m_im u1.2.2.2) H := hP
  refine lv_iconst (v := 0) hx hb dX8_manyBut_4 (by decide) ?_
  refine lv_istore_n (lv' := [(3, .int 0), (0, .ref (ad 0)), (1, .int p1), (2, .int p2)]) hx hb dX8_manyBut_5 rfl hl (by decide) rfl (fun ls hl => ?_)
  refine lv_iconst (v := 0) hx hb dX8_manyBut_6 (by decide) ?_
  refine lv_istore (lv' := [(4, .int 0), (3, .int 0), (0, .ref (ad 0)), (1, .int p1), (2, .int p2)]) hx hb dX8_manyBut_7 hl (by decide) rfl (fun ls hl => ?_)
  refine lp_X8_manyBut_9 l D cI cL cZ ad m_w m_h m_c m_s m_le m_un m_he m_ro m_wi m_hi m_hr m_hp u1.1 u1.2.1 u1.2.2.1 m_n m_l m_b m_to m_hs m_ho m_tx m_ik m_wt m_ac m_ap m_pa m_im u1.2.2.2 ⟨hx, hb, hml, hrt, hlocks, hown, hts, hk⟩ hAd p1 p2 hg (lays_n hu1 hg hR hn) _ _ (fun z2 H locs ls hr hP hS hl => ?_) (fu u1.1 (0 : Int32)) 0 0 _ _ _ (fuU_0 (by decide)) hr hP hS (lv_sub hl [2, 3, 4, 1, 0] rfl)
  refine lv_iload_n hx hb dX8_manyBut_52 rfl (lv_at hl 0 rfl) ?_
  subst hr
  exact ret_i hx hb hrt hlocks hP hS dX8_manyBut_53
theorem hd_X8_many : yX8_many.cls = RX8 ∧ yX8_many.cls ≠ "java/lang/invoke/MethodHandle" ∧ yX8_many.cls ≠ "java/lang/invoke/VarHandle" ∧ (parseMethodDescriptor yX8_many.desc).map (fun d => d.parameters.length) = some 1 := by decide +kernel
def f_X8_many (p1 : Int32) (m_w : Int32) (m_h : Int32) (m_c : Int32) (m_s : Int32) (m_rn : Int32) (m_rw : Int32) (m_rh : Int32) (m_n : Int64) (m_l : Int64) (m_b : Int64) (m_ho : Nat → Int32) (m_ac : Nat → Int64) (m_ap : Nat → Int64) (m_ri : Nat → Int64) : Int32 × Int32 × Int32 × Int32 × (Nat → Int64) := (if (f_X8_in p1.toInt64 1 10000) = 0 then ((-1), m_rn, m_rw, m_rh, m_ri) else (bd (f_X8_manyBut p1 16 m_w m_h m_c m_s m_rn m_rw m_rh m_n m_l m_b m_ho m_ac m_ap m_ri) (fun u1 => (u1.1, u1.2.1, u1.2.2.1, u1.2.2.2.1, u1.2.2.2.2))))
set_option maxHeartbeats 4000000 in
set_option maxRecDepth 100000 in
theorem c_X8_many (l : Launch) (D : va_G) (cI cL cZ : ClassId) (ad : Nat → Nat) (m_w m_h m_c m_s m_le m_un m_he m_ro m_wi m_hi m_hr m_hp m_rn m_rw m_rh : Int32) (m_n m_l m_b m_to m_hs : Int64) (m_ho m_tx m_ik m_wt : Nat → Int32) (m_ac m_ap m_pa m_im m_ri : Nat → Int64) (hAd : mInj ad) (p1 : Int32) (r : Int32 × Int32 × Int32 × Int32 × (Nat → Int64)) (hr : f_X8_many p1 m_w m_h m_c m_s m_rn m_rw m_rh m_n m_l m_b m_ho m_ac m_ap m_ri = r) (hg : mG m_w m_h m_c m_s) (hR : hRc m_w m_h m_c m_s m_ho m_ap) (hn : 0 ≤ m_rn.toInt ∧ m_rn.toInt ≤ 9400) : MI l yX8_many (Cond.code yX8_many cX8_many 2 (some .int) :: W0) 5 123 D cI cL cZ (mAd ad) [.ref (ad 0), .int p1] (mw ad cI cL cZ m_w m_h m_c m_s m_le m_un m_he m_ro m_wi m_hi m_hr m_hp m_rn m_rw m_rh m_n m_l m_b m_to m_hs m_ho m_tx m_ik m_wt m_ac m_ap m_pa m_im m_ri) r.1 (mw ad cI cL cZ m_w m_h m_c m_s m_le m_un m_he m_ro m_wi m_hi m_hr m_hp r.2.1 r.2.2.1 r.2.2.2.1 m_n m_l m_b m_to m_hs m_ho m_tx m_ik m_wt m_ac m_ap m_pa m_im r.2.2.2.2) := by
  refine mk_start (cc := cX8_many) (maxL := 2) (ret := (some .int)) (by decide) rfl (Nat.le_of_ble_eq_true rfl) ?_
  intro p e s m below meth c ls C hP hS hl
  obtain ⟨hx, hb, hml, hrt, hlocks, hown, hts, hk⟩ := C
  have hown : s.vm.findClass RX8 = some m.cls := hown
  have hl : lv_has ls 2 [(0, .ref (ad 0)), (1, .int p1)] := hl
  rw [f_X8_many] at hr
  refine lv_iload_n hx hb dX8_many_0 rfl (lv_at hl 1 rfl) ?_
  refine lv_i2l hx hb dX8_many_1 rfl ?_
  refine lv_lconst (v := 1) hx hb dX8_many_2 (by decide) ?_
  refine lv_ldc2 hx hb hown (hts _ q5_39) dX8_many_3 ?_
  refine go_z (ru_S (n := 3) ⟨hx, hb, hml, hown, hts⟩ hk hP (c_X8_in l D cI cL cZ (mAd ad) (mw ad cI cL cZ m_w m_h m_c m_s m_le m_un m_he m_ro m_wi m_hi m_hr m_hp m_rn m_rw m_rh m_n m_l m_b m_to m_hs m_ho m_tx m_ik m_wt m_ac m_ap m_pa m_im m_ri) p1.toInt64 1 10000 _ rfl) (va_cwS 3 hts (gS q4_1 q4_2 q1_11 q4_3) rfl rfl rfl hd_X8_in ⟨Nat.le_of_ble_eq_true rfl, Nat.le_of_ble_eq_true rfl⟩) rfl hl.1 rfl (Nat.le_of_ble_eq_true rfl) dX8_many_6 ⟨Nat.zero_le _, Nat.zero_le _⟩) hS (fun _ h => h) (fun H locs hz6 hP hS => ?_)
  have hP : va_P D vwCl (mw ad cI cL cZ m_w m_h m_c m_s m_le m_un m_he m_ro m_wi m_hi m_hr m_hp m_rn m_rw m_rh m_n m_l m_b m_to m_hs m_ho m_tx m_ik m_wt m_ac m_ap m_pa m_im m_ri) H := hP
  refine lv_if_eq (tgt := 22) hx hb dX8_many_9 (by decide) (fun c9 => ?_) (fun c9 => ?_)
  · have hr := (if_pos c9).symm.trans hr
    refine lv_iconst (v := (-1)) hx hb dX8_many_22 (by decide) ?_
    subst hr
    exact ret_i hx hb hrt hlocks hP hS dX8_many_23
  · have hr := (if_neg c9).symm.trans hr
    refine lv_aload_n hx hb dX8_many_12 rfl (lv_at hl 0 rfl) ?_
    refine lv_iload_n hx hb dX8_many_13 rfl (lv_at hl 1 rfl) ?_
    refine lv_bipush (v := 16) hx hb dX8_many_14 (by decide) ?_
    obtain ⟨u1, hu1⟩ : ∃ z, f_X8_manyBut p1 16 m_w m_h m_c m_s m_rn m_rw m_rh m_n m_l m_b m_ho m_ac m_ap m_ri = z := ⟨_, rfl⟩
    have hr := (bd_eq hu1).symm.trans hr
    refine go_i (ru_V (n := 2) ⟨hx, hb, hml, hown, hts⟩ hk hP (c_X8_manyBut l D cI cL cZ ad m_w m_h m_c m_s m_le m_un m_he m_ro m_wi m_hi m_hr m_hp m_rn m_rw m_rh m_n m_l m_b m_to m_hs m_ho m_tx m_ik m_wt m_ac m_ap m_pa m_im m_ri hAd p1 16 _ hu1 hg hR hn) (cwV 2 hts (gV q5_40 q5_42 qs4_14 q1_11 q5_43) rfl rfl rfl hd_X8_manyBut ⟨Nat.le_of_ble_eq_true rfl, Nat.le_of_ble_eq_true rfl⟩) (va_recv hk.1 hP (ci := 8) (q0 := 0) rfl rfl) rfl hl.1 rfl (Nat.le_of_ble_eq_true rfl) dX8_many_16 ⟨Nat.zero_le _, Nat.zero_le _⟩) hS (fun _ h => h) (fun H locs hP hS => ?_)
    have hP : va_P D vwCl (mw ad cI cL cZ m_w m_h m_c m_s m_le m_un m_he m_ro m_wi m_hi m_hr m_hp u1.2.1 u1.2.2.1 u1.2.2.2.1 m_n m_l m_b m_to m_hs m_ho m_tx m_ik m_wt m_ac m_ap m_pa m_im u1.2.2.2.2) H := hP
    refine lv_goto (tgt := 23) hx hb dX8_many_19 (by decide) ?_
    subst hr
    exact ret_i hx hb hrt hlocks hP hS dX8_many_23
theorem hd_X8_loopAt : yX8_loopAt.cls = RX8 ∧ yX8_loopAt.cls ≠ "java/lang/invoke/MethodHandle" ∧ yX8_loopAt.cls ≠ "java/lang/invoke/VarHandle" ∧ (parseMethodDescriptor yX8_loopAt.desc).map (fun d => d.parameters.length) = some 1 := by decide +kernel
def F_X8_loopAt_8 (m_c : Int32) (m_rn : Int32) (m_n : Int64) (m_l : Int64) (m_b : Int64) (m_ac : Nat → Int64) (m_ri : Nat → Int64) {β : Type} (k0 : β) (k1 : Int32 → β) : Nat → Int32 → Int32 → β
  | 0, x2, x3 => k0
  | n + 1, x2, x3 => (if m_rn ≤ x3 then k0 else (if (f_X8_fits (m_ri x3.toNatClampNeg) 16 m_c m_n m_l m_b m_ac) = 0 then F_X8_loopAt_8 m_c m_rn m_n m_l m_b m_ac m_ri k0 k1 n x2 (x3 + 1) else (if x2 = 0 then k1 x3 else F_X8_loopAt_8 m_c m_rn m_n m_l m_b m_ac m_ri k0 k1 n (x2 + (-1)) (x3 + 1))))
def f_X8_loopAt (p1 : Int32) (m_w : Int32) (m_h : Int32) (m_c : Int32) (m_s : Int32) (m_rn : Int32) (m_rw : Int32) (m_rh : Int32) (m_n : Int64) (m_l : Int64) (m_b : Int64) (m_ho : Nat → Int32) (m_ac : Nat → Int64) (m_ap : Nat → Int64) (m_ri : Nat → Int64) : Int64 × Int32 × Int32 × Int32 × (Nat → Int64) := (bd (f_X8_laysRings m_w m_h m_c m_s m_rn m_rw m_rh m_ho m_ap m_ri) (fun u1 => F_X8_loopAt_8 m_c u1.1 m_n m_l m_b m_ac u1.2.2.2 (((-9), u1.1, u1.2.1, u1.2.2.1, u1.2.2.2)) (fun z2 => (u1.2.2.2 z2.toNatClampNeg, u1.1, u1.2.1, u1.2.2.1, u1.2.2.2)) (fu u1.1 (0 : Int32)) p1 0))
set_option maxHeartbeats 4000000 in
set_option maxRecDepth 100000 in
theorem lp_X8_loopAt_8 (l : Launch) (D : va_G) (cI cL cZ : ClassId) (ad : Nat → Nat) (m_w m_h m_c m_s m_le m_un m_he m_ro m_wi m_hi m_hr m_hp m_rn m_rw m_rh : Int32) (m_n m_l m_b m_to m_hs : Int64) (m_ho m_tx m_ik m_wt : Nat → Int32) (m_ac m_ap m_pa m_im m_ri : Nat → Int64) {p : Program} {e : Env} {s : State} {m : MethodId} {args : Array Value} {below : List Frame} {meth : Method} {c : Code} {Q : State → Prop} (C : Cx p s m args meth c cX8_loopAt 4 (some .long) W0 RX8 D cI cL cZ) (hAd : mInj ad) (hg : mG m_w m_h m_c m_s) (hn : 0 ≤ m_rn.toInt ∧ m_rn.toInt ≤ 9400) {β : Type} (k0 : β) (k1 : Int32 → β) (r : β)
    (h0 : ∀ (H : Heap) (locs : List Loc) (ls : Array Slot), k0 = r → va_P D vwCl (mw ad cI cL cZ m_w m_h m_c m_s m_le m_un m_he m_ro m_wi m_hi m_hr m_hp m_rn m_rw m_rh m_n m_l m_b m_to m_hs m_ho m_tx m_ik m_wt m_ac m_ap m_pa m_im m_ri) H → va_S (mAd ad) s.heap H locs → lv_has ls 4 [] → W p l e (rmS 4 99) s m args below meth c H locs 0 0 Q (F0 m 51 ls []))
    (h1 : ∀ (e3 : Int32) (H : Heap) (locs : List Loc) (ls : Array Slot), ¬ m_rn ≤ e3 → 0 ≤ e3.toInt → k1 e3 = r → va_P D vwCl (mw ad cI cL cZ m_w m_h m_c m_s m_le m_un m_he m_ro m_wi m_hi m_hr m_hp m_rn m_rw m_rh m_n m_l m_b m_to m_hs m_ho m_tx m_ik m_wt m_ac m_ap m_pa m_im m_ri) H → va_S (mAd ad) s.heap H locs → lv_has ls 4 [(0, .ref (ad 0)), (3, .int e3)] → W p l e (rmS 4 99) s m args below meth c H locs 0 0 Q (F0 m 35 ls [])) :
    ∀ (n : Nat) (x2 x3 : Int32) (H : Heap) (locs : List Loc) (ls : Array Slot), fuU n m_rn x3 → F_X8_loopAt_8 m_c m_rn m_n m_l m_b m_ac m_ri k0 k1 n x2 x3 = r → va_P D vwCl (mw ad cI cL cZ m_w m_h m_c m_s m_le m_un m_he m_ro m_wi m_hi m_hr m_hp m_rn m_rw m_rh m_n m_l m_b m_to m_hs m_ho m_tx m_ik m_wt m_ac m_ap m_pa m_im m_ri) H → va_S (mAd ad) s.heap H locs → lv_has ls 4 [(0, .ref (ad 0)), (2, .int x2), (3, .int x3)] → W p l e (rmS 4 99) s m args below meth c H locs 0 0 Q (F0 m 8 ls []) := by
  obtain ⟨hx, hb, hml, hrt, hlocks, hown, hts, hk⟩ := C
  intro n
  induction n with
  | zero =>
    intro x2 x3 H locs ls hf
    exact absurd hf.1 (Nat.lt_irrefl 0)
  | succ n ih =>
    intro x2 x3 H locs ls hf hr hP hS hl
    rw [F_X8_loopAt_8] at hr
    refine lv_iload_n hx hb dX8_loopAt_8 rfl (lv_at hl 2 rfl) ?_
    refine lv_aload_n hx hb dX8_loopAt_9 rfl (lv_at hl 0 rfl) ?_
    refine va_get (D := D) (ci := 8) (v := .int m_rn) (C := RX8) (T := TX8) (N := 29) hx hb hts u_X8 hown hk.1 hP 0 rfl rfl 25 (by decide) (hts _ q4_37) (fun _ h9 => h9) rfl dX8_loopAt_10 ?_
    refine lv_icmp_ge (tgt := 51) hx hb dX8_loopAt_13 (by decide) (fun c13 => ?_) (fun c13 => ?_)
    · have hr := (if_pos c13).symm.trans hr
      exact h0 _ _ _ hr hP hS (lv_sub hl [] rfl)
    · have hr := (if_neg c13).symm.trans hr
      refine lv_aload_n hx hb dX8_loopAt_16 rfl (lv_at hl 0 rfl) ?_
      refine lv_aload_n hx hb dX8_loopAt_17 rfl (lv_at hl 0 rfl) ?_
      refine va_get (D := D) (ci := 8) (v := .ref (ad 8)) (C := RX8) (T := TX8) (N := 29) hx hb hts u_X8 hown hk.1 hP 0 rfl rfl 24 (by decide) (hts _ q4_36) (fun _ h9 => h9) rfl dX8_loopAt_18 ?_
      refine lv_iload_n hx hb dX8_loopAt_21 rfl (lv_at hl 2 rfl) ?_
      refine va_lald hx hb hk.1 hP 8 1 (rfl) rfl (vin_c hf.2.2 c13 hn.2) dX8_loopAt_22 ?_
      refine lv_bipush (v := 16) hx hb dX8_loopAt_23 (by decide) ?_
      refine go_z (ru_V (n := 2) ⟨hx, hb, hml, hown, hts⟩ hk hP (c_X8_fits l D cI cL cZ ad m_w m_h m_c m_s m_le m_un m_he m_ro m_wi m_hi m_hr m_hp m_rn m_rw m_rh m_n m_l m_b m_to m_hs m_ho m_tx m_ik m_wt m_ac m_ap m_pa m_im m_ri hAd (m_ri x3.toNatClampNeg) 16 _ rfl hg) (cwV 2 hts (gV q5_56 q5_58 qs5_2 q1_11 q5_59) rfl rfl rfl hd_X8_fits ⟨Nat.le_of_ble_eq_true rfl, Nat.le_of_ble_eq_true rfl⟩) (va_recv hk.1 hP (ci := 8) (q0 := 0) rfl rfl) rfl hl.1 rfl (Nat.le_of_ble_eq_true rfl) dX8_loopAt_25 ⟨Nat.zero_le _, Nat.zero_le _⟩) hS (fun _ h => h) (fun H locs hz25 hP hS => ?_)
      have hP : va_P D vwCl (mw ad cI cL cZ m_w m_h m_c m_s m_le m_un m_he m_ro m_wi m_hi m_hr m_hp m_rn m_rw m_rh m_n m_l m_b m_to m_hs m_ho m_tx m_ik m_wt m_ac m_ap m_pa m_im m_ri) H := hP
      refine lv_if_eq (tgt := 45) hx hb dX8_loopAt_28 (by decide) (fun c28 => ?_) (fun c28 => ?_)
      · have hr := (if_pos c28).symm.trans hr
        refine lv_iinc (v := x3 + 1) (lv' := [(3, .int (x3 + 1)), (0, .ref (ad 0)), (2, .int x2)]) hx hb dX8_loopAt_45 hl (k := 2) rfl rfl (by decide) rfl (fun ls hl => ?_)
        refine lv_goto (tgt := 8) hx hb dX8_loopAt_48 (by decide) ?_
        exact ih x2 (x3 + 1) _ _ _ (fuU_s hf c13) hr hP hS (lv_sub hl [1, 2, 0] rfl)
      · have hr := (if_neg c28).symm.trans hr
        refine lv_iload_n hx hb dX8_loopAt_31 rfl (lv_at hl 1 rfl) ?_
        refine lv_if_ne (tgt := 42) hx hb dX8_loopAt_32 (by decide) (fun c32 => ?_) (fun c32 => ?_)
        · have hr := (if_neg c32).symm.trans hr
          refine lv_iinc (v := x2 + (-1)) (lv' := [(2, .int (x2 + (-1))), (0, .ref (ad 0)), (3, .int x3)]) hx hb dX8_loopAt_42 hl (k := 1) rfl rfl (by decide) rfl (fun ls hl => ?_)
          refine lv_iinc (v := x3 + 1) (lv' := [(3, .int (x3 + 1)), (2, .int (x2 + (-1))), (0, .ref (ad 0))]) hx hb dX8_loopAt_45 hl (k := 2) rfl rfl (by decide) rfl (fun ls hl => ?_)
          refine lv_goto (tgt := 8) hx hb dX8_loopAt_48 (by decide) ?_
          exact ih (x2 + (-1)) (x3 + 1) _ _ _ (fuU_s hf c13) hr hP hS (lv_sub hl [2, 1, 0] rfl)
        · have hr := (if_pos c32).symm.trans hr
          exact h1 x3 _ _ _ c13 hf.2.2 hr hP hS (lv_sub hl [0, 2] rfl)
set_option maxHeartbeats 4000000 in
set_option maxRecDepth 100000 in
theorem c_X8_loopAt (l : Launch) (D : va_G) (cI cL cZ : ClassId) (ad : Nat → Nat) (m_w m_h m_c m_s m_le m_un m_he m_ro m_wi m_hi m_hr m_hp m_rn m_rw m_rh : Int32) (m_n m_l m_b m_to m_hs : Int64) (m_ho m_tx m_ik m_wt : Nat → Int32) (m_ac m_ap m_pa m_im m_ri : Nat → Int64) (hAd : mInj ad) (p1 : Int32) (r : Int64 × Int32 × Int32 × Int32 × (Nat → Int64)) (hr : f_X8_loopAt p1 m_w m_h m_c m_s m_rn m_rw m_rh m_n m_l m_b m_ho m_ac m_ap m_ri = r) (hg : mG m_w m_h m_c m_s) (hR : hRc m_w m_h m_c m_s m_ho m_ap) (hn : 0 ≤ m_rn.toInt ∧ m_rn.toInt ≤ 9400) : ML l yX8_loopAt (Cond.code yX8_loopAt cX8_loopAt 4 (some .long) :: W0) 4 99 D cI cL cZ (mAd ad) [.ref (ad 0), .int p1] (mw ad cI cL cZ m_w m_h m_c m_s m_le m_un m_he m_ro m_wi m_hi m_hr m_hp m_rn m_rw m_rh m_n m_l m_b m_to m_hs m_ho m_tx m_ik m_wt m_ac m_ap m_pa m_im m_ri) r.1 (mw ad cI cL cZ m_w m_h m_c m_s m_le m_un m_he m_ro m_wi m_hi m_hr m_hp r.2.1 r.2.2.1 r.2.2.2.1 m_n m_l m_b m_to m_hs m_ho m_tx m_ik m_wt m_ac m_ap m_pa m_im r.2.2.2.2) := by
  refine mk_start (cc := cX8_loopAt) (maxL := 4) (ret := (some .long)) (by decide) rfl (Nat.le_of_ble_eq_true rfl) ?_
  intro p e s m below meth c ls C hP hS hl
  obtain ⟨hx, hb, hml, hrt, hlocks, hown, hts, hk⟩ := C
  have hown : s.vm.findClass RX8 = some m.cls := hown
  have hl : lv_has ls 4 [(0, .ref (ad 0)), (1, .int p1)] := hl
  rw [f_X8_loopAt] at hr
  refine lv_aload_n hx hb dX8_loopAt_0 rfl (lv_at hl 0 rfl) ?_
  obtain ⟨u1, hu1⟩ : ∃ z, f_X8_laysRings m_w m_h m_c m_s m_rn m_rw m_rh m_ho m_ap m_ri = z := ⟨_, rfl⟩
  have hr := (bd_eq hu1).symm.trans hr
  refine go_v (ru_V (n := 0) ⟨hx, hb, hml, hown, hts⟩ hk hP (c_X8_laysRings l D cI cL cZ ad m_w m_h m_c m_s m_le m_un m_he m_ro m_wi m_hi m_hr m_hp m_rn m_rw m_rh m_n m_l m_b m_to m_hs m_ho m_tx m_ik m_wt m_ac m_ap m_pa m_im m_ri hAd _ hu1 hg hR) (cwV 0 hts (gV q5_44 q5_46 qs4_15 q1_11 q5_47) rfl rfl rfl hd_X8_laysRings ⟨Nat.le_of_ble_eq_true rfl, Nat.le_of_ble_eq_true rfl⟩) (va_recv hk.1 hP (ci := 8) (q0 := 0) rfl rfl) rfl hl.1 rfl (Nat.le_of_ble_eq_true rfl) dX8_loopAt_1 ⟨Nat.zero_le _, Nat.zero_le _⟩) hS (fun _ h => h) (fun H locs hP hS => ?_)
  have hP : va_P D vwCl (mw ad cI cL cZ m_w m_h m_c m_s m_le m_un m_he m_ro m_wi m_hi m_hr m_hp u1.1 u1.2.1 u1.2.2.1 m_n m_l m_b m_to m_hs m_ho m_tx m_ik m_wt m_ac m_ap m_pa m_im u1.2.2.2) H := hP
  refine lv_iload_n hx hb dX8_loopAt_4 rfl (lv_at hl 1 rfl) ?_
  refine lv_istore_n (lv' := [(2, .int p1), (0, .ref (ad 0)), (1, .int p1)]) hx hb dX8_loopAt_5 rfl hl (by decide) rfl (fun ls hl => ?_)
  refine lv_iconst (v := 0) hx hb dX8_loopAt_6 (by decide) ?_
  refine lv_istore_n (lv' := [(3, .int 0), (2, .int p1), (0, .ref (ad 0)), (1, .int p1)]) hx hb dX8_loopAt_7 rfl hl (by decide) rfl (fun ls hl => ?_)
  refine lp_X8_loopAt_8 l D cI cL cZ ad m_w m_h m_c m_s m_le m_un m_he m_ro m_wi m_hi m_hr m_hp u1.1 u1.2.1 u1.2.2.1 m_n m_l m_b m_to m_hs m_ho m_tx m_ik m_wt m_ac m_ap m_pa m_im u1.2.2.2 ⟨hx, hb, hml, hrt, hlocks, hown, hts, hk⟩ hAd hg (lays_n hu1 hg hR hn) _ _ _ (fun H locs ls hr hP hS hl => ?_) (fun z2 H locs ls hy1 hy2 hr hP hS hl => ?_) (fu u1.1 (0 : Int32)) p1 0 _ _ _ (fuU_0 (by decide)) hr hP hS (lv_sub hl [2, 1, 0] rfl)
  · refine lv_ldc2 hx hb hown (hts _ q5_69) dX8_loopAt_51 ?_
    subst hr
    exact ret_l hx hb hrt hlocks hP hS dX8_loopAt_54
  · refine lv_aload_n hx hb dX8_loopAt_35 rfl (lv_at hl 0 rfl) ?_
    refine va_get (D := D) (ci := 8) (v := .ref (ad 8)) (C := RX8) (T := TX8) (N := 29) hx hb hts u_X8 hown hk.1 hP 0 rfl rfl 24 (by decide) (hts _ q4_36) (fun _ h9 => h9) rfl dX8_loopAt_36 ?_
    refine lv_iload_n hx hb dX8_loopAt_39 rfl (lv_at hl 1 rfl) ?_
    refine va_lald hx hb hk.1 hP 8 1 (rfl) rfl (vin_c hy2 hy1 (lays_n hu1 hg hR hn).2) dX8_loopAt_40 ?_
    subst hr
    exact ret_l hx hb hrt hlocks hP hS dX8_loopAt_41
theorem hd_X8_loop : yX8_loop.cls = RX8 ∧ yX8_loop.cls ≠ "java/lang/invoke/MethodHandle" ∧ yX8_loop.cls ≠ "java/lang/invoke/VarHandle" ∧ (parseMethodDescriptor yX8_loop.desc).map (fun d => d.parameters.length) = some 1 := by decide +kernel
def f_X8_loop (p1 : Int32) (m_w : Int32) (m_h : Int32) (m_c : Int32) (m_s : Int32) (m_rn : Int32) (m_rw : Int32) (m_rh : Int32) (m_n : Int64) (m_l : Int64) (m_b : Int64) (m_ho : Nat → Int32) (m_ac : Nat → Int64) (m_ap : Nat → Int64) (m_ri : Nat → Int64) : Int64 × Int32 × Int32 × Int32 × (Nat → Int64) := (if (f_X8_in p1.toInt64 0 9999) = 0 then ((-1), m_rn, m_rw, m_rh, m_ri) else (bd (f_X8_loopAt p1 m_w m_h m_c m_s m_rn m_rw m_rh m_n m_l m_b m_ho m_ac m_ap m_ri) (fun u1 => (u1.1, u1.2.1, u1.2.2.1, u1.2.2.2.1, u1.2.2.2.2))))
set_option maxHeartbeats 4000000 in
set_option maxRecDepth 100000 in
theorem c_X8_loop (l : Launch) (D : va_G) (cI cL cZ : ClassId) (ad : Nat → Nat) (m_w m_h m_c m_s m_le m_un m_he m_ro m_wi m_hi m_hr m_hp m_rn m_rw m_rh : Int32) (m_n m_l m_b m_to m_hs : Int64) (m_ho m_tx m_ik m_wt : Nat → Int32) (m_ac m_ap m_pa m_im m_ri : Nat → Int64) (hAd : mInj ad) (p1 : Int32) (r : Int64 × Int32 × Int32 × Int32 × (Nat → Int64)) (hr : f_X8_loop p1 m_w m_h m_c m_s m_rn m_rw m_rh m_n m_l m_b m_ho m_ac m_ap m_ri = r) (hg : mG m_w m_h m_c m_s) (hR : hRc m_w m_h m_c m_s m_ho m_ap) (hn : 0 ≤ m_rn.toInt ∧ m_rn.toInt ≤ 9400) : ML l yX8_loop (Cond.code yX8_loop cX8_loop 2 (some .long) :: W0) 5 122 D cI cL cZ (mAd ad) [.ref (ad 0), .int p1] (mw ad cI cL cZ m_w m_h m_c m_s m_le m_un m_he m_ro m_wi m_hi m_hr m_hp m_rn m_rw m_rh m_n m_l m_b m_to m_hs m_ho m_tx m_ik m_wt m_ac m_ap m_pa m_im m_ri) r.1 (mw ad cI cL cZ m_w m_h m_c m_s m_le m_un m_he m_ro m_wi m_hi m_hr m_hp r.2.1 r.2.2.1 r.2.2.2.1 m_n m_l m_b m_to m_hs m_ho m_tx m_ik m_wt m_ac m_ap m_pa m_im r.2.2.2.2) := by
  refine mk_start (cc := cX8_loop) (maxL := 2) (ret := (some .long)) (by decide) rfl (Nat.le_of_ble_eq_true rfl) ?_
  intro p e s m below meth c ls C hP hS hl
  obtain ⟨hx, hb, hml, hrt, hlocks, hown, hts, hk⟩ := C
  have hown : s.vm.findClass RX8 = some m.cls := hown
  have hl : lv_has ls 2 [(0, .ref (ad 0)), (1, .int p1)] := hl
  rw [f_X8_loop] at hr
  refine lv_iload_n hx hb dX8_loop_0 rfl (lv_at hl 1 rfl) ?_
  refine lv_i2l hx hb dX8_loop_1 rfl ?_
  refine lv_lconst (v := 0) hx hb dX8_loop_2 (by decide) ?_
  refine lv_ldc2 hx hb hown (hts _ q5_64) dX8_loop_3 ?_
  refine go_z (ru_S (n := 3) ⟨hx, hb, hml, hown, hts⟩ hk hP (c_X8_in l D cI cL cZ (mAd ad) (mw ad cI cL cZ m_w m_h m_c m_s m_le m_un m_he m_ro m_wi m_hi m_hr m_hp m_rn m_rw m_rh m_n m_l m_b m_to m_hs m_ho m_tx m_ik m_wt m_ac m_ap m_pa m_im m_ri) p1.toInt64 0 9999 _ rfl) (va_cwS 3 hts (gS q4_1 q4_2 q1_11 q4_3) rfl rfl rfl hd_X8_in ⟨Nat.le_of_ble_eq_true rfl, Nat.le_of_ble_eq_true rfl⟩) rfl hl.1 rfl (Nat.le_of_ble_eq_true rfl) dX8_loop_6 ⟨Nat.zero_le _, Nat.zero_le _⟩) hS (fun _ h => h) (fun H locs hz6 hP hS => ?_)
  have hP : va_P D vwCl (mw ad cI cL cZ m_w m_h m_c m_s m_le m_un m_he m_ro m_wi m_hi m_hr m_hp m_rn m_rw m_rh m_n m_l m_b m_to m_hs m_ho m_tx m_ik m_wt m_ac m_ap m_pa m_im m_ri) H := hP
  refine lv_if_eq (tgt := 20) hx hb dX8_loop_9 (by decide) (fun c9 => ?_) (fun c9 => ?_)
  · have hr := (if_pos c9).symm.trans hr
    refine lv_ldc2 hx hb hown (hts _ q4_187) dX8_loop_20 ?_
    subst hr
    exact ret_l hx hb hrt hlocks hP hS dX8_loop_23
  · have hr := (if_neg c9).symm.trans hr
    refine lv_aload_n hx hb dX8_loop_12 rfl (lv_at hl 0 rfl) ?_
    refine lv_iload_n hx hb dX8_loop_13 rfl (lv_at hl 1 rfl) ?_
    obtain ⟨u1, hu1⟩ : ∃ z, f_X8_loopAt p1 m_w m_h m_c m_s m_rn m_rw m_rh m_n m_l m_b m_ho m_ac m_ap m_ri = z := ⟨_, rfl⟩
    have hr := (bd_eq hu1).symm.trans hr
    refine go_l (ru_V (n := 1) ⟨hx, hb, hml, hown, hts⟩ hk hP (c_X8_loopAt l D cI cL cZ ad m_w m_h m_c m_s m_le m_un m_he m_ro m_wi m_hi m_hr m_hp m_rn m_rw m_rh m_n m_l m_b m_to m_hs m_ho m_tx m_ik m_wt m_ac m_ap m_pa m_im m_ri hAd p1 _ hu1 hg hR hn) (cwV 1 hts (gV q5_65 q5_67 qs5_3 q1_11 q5_68) rfl rfl rfl hd_X8_loopAt ⟨Nat.le_of_ble_eq_true rfl, Nat.le_of_ble_eq_true rfl⟩) (va_recv hk.1 hP (ci := 8) (q0 := 0) rfl rfl) rfl hl.1 rfl (Nat.le_of_ble_eq_true rfl) dX8_loop_14 ⟨Nat.zero_le _, Nat.zero_le _⟩) hS (fun _ h => h) (fun H locs hP hS => ?_)
    have hP : va_P D vwCl (mw ad cI cL cZ m_w m_h m_c m_s m_le m_un m_he m_ro m_wi m_hi m_hr m_hp u1.2.1 u1.2.2.1 u1.2.2.2.1 m_n m_l m_b m_to m_hs m_ho m_tx m_ik m_wt m_ac m_ap m_pa m_im u1.2.2.2.2) H := hP
    refine lv_goto (tgt := 23) hx hb dX8_loop_17 (by decide) ?_
    subst hr
    exact ret_l hx hb hrt hlocks hP hS dX8_loop_23
theorem hd_X8_forced : yX8_forced.cls = RX8 ∧ yX8_forced.cls ≠ "java/lang/invoke/MethodHandle" ∧ yX8_forced.cls ≠ "java/lang/invoke/VarHandle" ∧ (parseMethodDescriptor yX8_forced.desc).map (fun d => d.parameters.length) = some 1 := by decide +kernel
def F_X8_forced_35 (m_c : Int32) (m_rn : Int32) (m_n : Int64) (m_l : Int64) (m_b : Int64) (m_ac : Nat → Int64) (m_ri : Nat → Int64) {β : Type} (k0 : Int64 → Int64 → Int32 → β) : Nat → Int64 → Int64 → Int32 → Int32 → β
  | 0, x2, x4, x6, x7 => k0 x2 x4 x6
  | n + 1, x2, x4, x6, x7 => (if m_rn ≤ x7 then k0 x2 x4 x6 else (if (f_X8_fits (m_ri x7.toNatClampNeg) 16 m_c m_n m_l m_b m_ac) = 0 then F_X8_forced_35 m_c m_rn m_n m_l m_b m_ac m_ri k0 n x2 x4 x6 (x7 + 1) else F_X8_forced_35 m_c m_rn m_n m_l m_b m_ac m_ri k0 n (x2 &&& (m_ri x7.toNatClampNeg)) (x4 &&& ((m_ri x7.toNatClampNeg) ^^^ ((-1)))) (x6 + 1) (x7 + 1)))
def f_X8_forced (p1 : Int32) (m_w : Int32) (m_h : Int32) (m_c : Int32) (m_s : Int32) (m_rn : Int32) (m_rw : Int32) (m_rh : Int32) (m_n : Int64) (m_l : Int64) (m_b : Int64) (m_ho : Nat → Int32) (m_ac : Nat → Int64) (m_ap : Nat → Int64) (m_ri : Nat → Int64) : Int64 × Int32 × Int32 × Int32 × (Nat → Int64) := (if (f_X8_in p1.toInt64 0 1) = 0 then ((-1), m_rn, m_rw, m_rh, m_ri) else (bd (f_X8_laysRings m_w m_h m_c m_s m_rn m_rw m_rh m_ho m_ap m_ri) (fun u1 => F_X8_forced_35 m_c u1.1 m_n m_l m_b m_ac u1.2.2.2 (fun z2 z3 z4 => (if z4 = 0 then ((-9), u1.1, u1.2.1, u1.2.2.1, u1.2.2.2) else (if p1 = 0 then (z2, u1.1, u1.2.1, u1.2.2.1, u1.2.2.2) else (z3, u1.1, u1.2.1, u1.2.2.1, u1.2.2.2)))) (fu u1.1 (0 : Int32)) (f_X8_all m_s) (f_X8_all m_s) 0 0)))
set_option maxHeartbeats 4000000 in
set_option maxRecDepth 100000 in
theorem lp_X8_forced_35 (l : Launch) (D : va_G) (cI cL cZ : ClassId) (ad : Nat → Nat) (m_w m_h m_c m_s m_le m_un m_he m_ro m_wi m_hi m_hr m_hp m_rn m_rw m_rh : Int32) (m_n m_l m_b m_to m_hs : Int64) (m_ho m_tx m_ik m_wt : Nat → Int32) (m_ac m_ap m_pa m_im m_ri : Nat → Int64) {p : Program} {e : Env} {s : State} {m : MethodId} {args : Array Value} {below : List Frame} {meth : Method} {c : Code} {Q : State → Prop} (C : Cx p s m args meth c cX8_forced 8 (some .long) W0 RX8 D cI cL cZ) (hAd : mInj ad) (y1 : Int32) (hg : mG m_w m_h m_c m_s) (hn : 0 ≤ m_rn.toInt ∧ m_rn.toInt ≤ 9400) {β : Type} (k0 : Int64 → Int64 → Int32 → β) (r : β)
    (h0 : ∀ (e2 e4 : Int64) (e6 : Int32) (H : Heap) (locs : List Loc) (ls : Array Slot), k0 e2 e4 e6 = r → va_P D vwCl (mw ad cI cL cZ m_w m_h m_c m_s m_le m_un m_he m_ro m_wi m_hi m_hr m_hp m_rn m_rw m_rh m_n m_l m_b m_to m_hs m_ho m_tx m_ik m_wt m_ac m_ap m_pa m_im m_ri) H → va_S (mAd ad) s.heap H locs → lv_has ls 8 [(1, .int y1), (2, .long e2), (4, .long e4), (6, .int e6)] → W p l e (rmS 4 99) s m args below meth c H locs 0 0 Q (F0 m 95 ls [])) :
    ∀ (n : Nat) (x2 x4 : Int64) (x6 x7 : Int32) (H : Heap) (locs : List Loc) (ls : Array Slot), fuU n m_rn x7 → F_X8_forced_35 m_c m_rn m_n m_l m_b m_ac m_ri k0 n x2 x4 x6 x7 = r → va_P D vwCl (mw ad cI cL cZ m_w m_h m_c m_s m_le m_un m_he m_ro m_wi m_hi m_hr m_hp m_rn m_rw m_rh m_n m_l m_b m_to m_hs m_ho m_tx m_ik m_wt m_ac m_ap m_pa m_im m_ri) H → va_S (mAd ad) s.heap H locs → lv_has ls 8 [(0, .ref (ad 0)), (1, .int y1), (2, .long x2), (4, .long x4), (6, .int x6), (7, .int x7)] → W p l e (rmS 4 99) s m args below meth c H locs 0 0 Q (F0 m 35 ls []) := by
  obtain ⟨hx, hb, hml, hrt, hlocks, hown, hts, hk⟩ := C
  intro n
  induction n with
  | zero =>
    intro x2 x4 x6 x7 H locs ls hf
    exact absurd hf.1 (Nat.lt_irrefl 0)
  | succ n ih =>
    intro x2 x4 x6 x7 H locs ls hf hr hP hS hl
    rw [F_X8_forced_35] at hr
    refine lv_iload hx hb dX8_forced_35 (lv_at hl 5 rfl) ?_
    refine lv_aload_n hx hb dX8_forced_37 rfl (lv_at hl 0 rfl) ?_
    refine va_get (D := D) (ci := 8) (v := .int m_rn) (C := RX8) (T := TX8) (N := 29) hx hb hts u_X8 hown hk.1 hP 0 rfl rfl 25 (by decide) (hts _ q4_37) (fun _ h9 => h9) rfl dX8_forced_38 ?_
    refine lv_icmp_ge (tgt := 95) hx hb dX8_forced_41 (by decide) (fun c41 => ?_) (fun c41 => ?_)
    · have hr := (if_pos c41).symm.trans hr
      exact h0 x2 x4 x6 _ _ _ hr hP hS (lv_sub hl [1, 2, 3, 4] rfl)
    · have hr := (if_neg c41).symm.trans hr
      refine lv_aload_n hx hb dX8_forced_44 rfl (lv_at hl 0 rfl) ?_
      refine lv_aload_n hx hb dX8_forced_45 rfl (lv_at hl 0 rfl) ?_
      refine va_get (D := D) (ci := 8) (v := .ref (ad 8)) (C := RX8) (T := TX8) (N := 29) hx hb hts u_X8 hown hk.1 hP 0 rfl rfl 24 (by decide) (hts _ q4_36) (fun _ h9 => h9) rfl dX8_forced_46 ?_
      refine lv_iload hx hb dX8_forced_49 (lv_at hl 5 rfl) ?_
      refine va_lald hx hb hk.1 hP 8 1 (rfl) rfl (vin_c hf.2.2 c41 hn.2) dX8_forced_51 ?_
      refine lv_bipush (v := 16) hx hb dX8_forced_52 (by decide) ?_
      refine go_z (ru_V (n := 2) ⟨hx, hb, hml, hown, hts⟩ hk hP (c_X8_fits l D cI cL cZ ad m_w m_h m_c m_s m_le m_un m_he m_ro m_wi m_hi m_hr m_hp m_rn m_rw m_rh m_n m_l m_b m_to m_hs m_ho m_tx m_ik m_wt m_ac m_ap m_pa m_im m_ri hAd (m_ri x7.toNatClampNeg) 16 _ rfl hg) (cwV 2 hts (gV q5_56 q5_58 qs5_2 q1_11 q5_59) rfl rfl rfl hd_X8_fits ⟨Nat.le_of_ble_eq_true rfl, Nat.le_of_ble_eq_true rfl⟩) (va_recv hk.1 hP (ci := 8) (q0 := 0) rfl rfl) rfl hl.1 rfl (Nat.le_of_ble_eq_true rfl) dX8_forced_54 ⟨Nat.zero_le _, Nat.zero_le _⟩) hS (fun _ h => h) (fun H locs hz54 hP hS => ?_)
      have hP : va_P D vwCl (mw ad cI cL cZ m_w m_h m_c m_s m_le m_un m_he m_ro m_wi m_hi m_hr m_hp m_rn m_rw m_rh m_n m_l m_b m_to m_hs m_ho m_tx m_ik m_wt m_ac m_ap m_pa m_im m_ri) H := hP
      refine lv_if_eq (tgt := 89) hx hb dX8_forced_57 (by decide) (fun c57 => ?_) (fun c57 => ?_)
      · have hr := (if_pos c57).symm.trans hr
        refine lv_iinc (v := x7 + 1) (lv' := [(7, .int (x7 + 1)), (0, .ref (ad 0)), (1, .int y1), (2, .long x2), (4, .long x4), (6, .int x6)]) hx hb dX8_forced_89 hl (k := 5) rfl rfl (by decide) rfl (fun ls hl => ?_)
        refine lv_goto (tgt := 35) hx hb dX8_forced_92 (by decide) ?_
        exact ih x2 x4 x6 (x7 + 1) _ _ _ (fuU_s hf c41) hr hP hS (lv_sub hl [1, 2, 3, 4, 5, 0] rfl)
      · have hr := (if_neg c57).symm.trans hr
        refine lv_lload_n hx hb dX8_forced_60 rfl (lv_at hl 2 rfl) ?_
        refine lv_aload_n hx hb dX8_forced_61 rfl (lv_at hl 0 rfl) ?_
        refine va_get (D := D) (ci := 8) (v := .ref (ad 8)) (C := RX8) (T := TX8) (N := 29) hx hb hts u_X8 hown hk.1 hP 0 rfl rfl 24 (by decide) (hts _ q4_36) (fun _ h9 => h9) rfl dX8_forced_62 ?_
        refine lv_iload hx hb dX8_forced_65 (lv_at hl 5 rfl) ?_
        refine va_lald hx hb hk.1 hP 8 1 (rfl) rfl (vin_c hf.2.2 c41 hn.2) dX8_forced_67 ?_
        refine lv_land hx hb dX8_forced_68 ?_
        refine lv_lstore_n (lv' := [(2, .long (x2 &&& (m_ri x7.toNatClampNeg))), (0, .ref (ad 0)), (1, .int y1), (4, .long x4), (6, .int x6), (7, .int x7)]) hx hb dX8_forced_69 rfl hl (by decide) rfl (fun ls hl => ?_)
        refine lv_lload hx hb dX8_forced_70 (lv_at hl 3 rfl) ?_
        refine lv_aload_n hx hb dX8_forced_72 rfl (lv_at hl 1 rfl) ?_
        refine va_get (D := D) (ci := 8) (v := .ref (ad 8)) (C := RX8) (T := TX8) (N := 29) hx hb hts u_X8 hown hk.1 hP 0 rfl rfl 24 (by decide) (hts _ q4_36) (fun _ h9 => h9) rfl dX8_forced_73 ?_
        refine lv_iload hx hb dX8_forced_76 (lv_at hl 5 rfl) ?_
        refine va_lald hx hb hk.1 hP 8 1 (rfl) rfl (vin_c hf.2.2 c41 hn.2) dX8_forced_78 ?_
        refine lv_ldc2 hx hb hown (hts _ q4_187) dX8_forced_79 ?_
        refine lv_lxor hx hb dX8_forced_82 ?_
        refine lv_land hx hb dX8_forced_83 ?_
        refine lv_lstore (lv' := [(4, .long (x4 &&& ((m_ri x7.toNatClampNeg) ^^^ ((-1))))), (2, .long (x2 &&& (m_ri x7.toNatClampNeg))), (0, .ref (ad 0)), (1, .int y1), (6, .int x6), (7, .int x7)]) hx hb dX8_forced_84 hl (by decide) rfl (fun ls hl => ?_)
        refine lv_iinc (v := x6 + 1) (lv' := [(6, .int (x6 + 1)), (4, .long (x4 &&& ((m_ri x7.toNatClampNeg) ^^^ ((-1))))), (2, .long (x2 &&& (m_ri x7.toNatClampNeg))), (0, .ref (ad 0)), (1, .int y1), (7, .int x7)]) hx hb dX8_forced_86 hl (k := 4) rfl rfl (by decide) rfl (fun ls hl => ?_)
        refine lv_iinc (v := x7 + 1) (lv' := [(7, .int (x7 + 1)), (6, .int (x6 + 1)), (4, .long (x4 &&& ((m_ri x7.toNatClampNeg) ^^^ ((-1))))), (2, .long (x2 &&& (m_ri x7.toNatClampNeg))), (0, .ref (ad 0)), (1, .int y1)]) hx hb dX8_forced_89 hl (k := 5) rfl rfl (by decide) rfl (fun ls hl => ?_)
        refine lv_goto (tgt := 35) hx hb dX8_forced_92 (by decide) ?_
        exact ih (x2 &&& (m_ri x7.toNatClampNeg)) (x4 &&& ((m_ri x7.toNatClampNeg) ^^^ ((-1)))) (x6 + 1) (x7 + 1) _ _ _ (fuU_s hf c41) hr hP hS (lv_sub hl [4, 5, 3, 2, 1, 0] rfl)
set_option maxHeartbeats 4000000 in
set_option maxRecDepth 100000 in
theorem c_X8_forced (l : Launch) (D : va_G) (cI cL cZ : ClassId) (ad : Nat → Nat) (m_w m_h m_c m_s m_le m_un m_he m_ro m_wi m_hi m_hr m_hp m_rn m_rw m_rh : Int32) (m_n m_l m_b m_to m_hs : Int64) (m_ho m_tx m_ik m_wt : Nat → Int32) (m_ac m_ap m_pa m_im m_ri : Nat → Int64) (hAd : mInj ad) (p1 : Int32) (r : Int64 × Int32 × Int32 × Int32 × (Nat → Int64)) (hr : f_X8_forced p1 m_w m_h m_c m_s m_rn m_rw m_rh m_n m_l m_b m_ho m_ac m_ap m_ri = r) (hg : mG m_w m_h m_c m_s) (hR : hRc m_w m_h m_c m_s m_ho m_ap) (hn : 0 ≤ m_rn.toInt ∧ m_rn.toInt ≤ 9400) : ML l yX8_forced (Cond.code yX8_forced cX8_forced 8 (some .long) :: W0) 4 99 D cI cL cZ (mAd ad) [.ref (ad 0), .int p1] (mw ad cI cL cZ m_w m_h m_c m_s m_le m_un m_he m_ro m_wi m_hi m_hr m_hp m_rn m_rw m_rh m_n m_l m_b m_to m_hs m_ho m_tx m_ik m_wt m_ac m_ap m_pa m_im m_ri) r.1 (mw ad cI cL cZ m_w m_h m_c m_s m_le m_un m_he m_ro m_wi m_hi m_hr m_hp r.2.1 r.2.2.1 r.2.2.2.1 m_n m_l m_b m_to m_hs m_ho m_tx m_ik m_wt m_ac m_ap m_pa m_im r.2.2.2.2) := by
  refine mk_start (cc := cX8_forced) (maxL := 8) (ret := (some .long)) (by decide) rfl (Nat.le_of_ble_eq_true rfl) ?_
  intro p e s m below meth c ls C hP hS hl
  obtain ⟨hx, hb, hml, hrt, hlocks, hown, hts, hk⟩ := C
  have hown : s.vm.findClass RX8 = some m.cls := hown
  have hl : lv_has ls 8 [(0, .ref (ad 0)), (1, .int p1)] := hl
  rw [f_X8_forced] at hr
  refine lv_iload_n hx hb dX8_forced_0 rfl (lv_at hl 1 rfl) ?_
  refine lv_i2l hx hb dX8_forced_1 rfl ?_
  refine lv_lconst (v := 0) hx hb dX8_forced_2 (by decide) ?_
  refine lv_lconst (v := 1) hx hb dX8_forced_3 (by decide) ?_
  refine go_z (ru_S (n := 3) ⟨hx, hb, hml, hown, hts⟩ hk hP (c_X8_in l D cI cL cZ (mAd ad) (mw ad cI cL cZ m_w m_h m_c m_s m_le m_un m_he m_ro m_wi m_hi m_hr m_hp m_rn m_rw m_rh m_n m_l m_b m_to m_hs m_ho m_tx m_ik m_wt m_ac m_ap m_pa m_im m_ri) p1.toInt64 0 1 _ rfl) (va_cwS 3 hts (gS q4_1 q4_2 q1_11 q4_3) rfl rfl rfl hd_X8_in ⟨Nat.le_of_ble_eq_true rfl, Nat.le_of_ble_eq_true rfl⟩) rfl hl.1 rfl (Nat.le_of_ble_eq_true rfl) dX8_forced_4 ⟨Nat.zero_le _, Nat.zero_le _⟩) hS (fun _ h => h) (fun H locs hz4 hP hS => ?_)
  have hP : va_P D vwCl (mw ad cI cL cZ m_w m_h m_c m_s m_le m_un m_he m_ro m_wi m_hi m_hr m_hp m_rn m_rw m_rh m_n m_l m_b m_to m_hs m_ho m_tx m_ik m_wt m_ac m_ap m_pa m_im m_ri) H := hP
  refine lv_if_ne (tgt := 14) hx hb dX8_forced_7 (by decide) (fun c7 => ?_) (fun c7 => ?_)
  · have hr := (if_neg c7).symm.trans hr
    refine lv_aload_n hx hb dX8_forced_14 rfl (lv_at hl 0 rfl) ?_
    obtain ⟨u1, hu1⟩ : ∃ z, f_X8_laysRings m_w m_h m_c m_s m_rn m_rw m_rh m_ho m_ap m_ri = z := ⟨_, rfl⟩
    have hr := (bd_eq hu1).symm.trans hr
    refine go_v (ru_V (n := 0) ⟨hx, hb, hml, hown, hts⟩ hk hP (c_X8_laysRings l D cI cL cZ ad m_w m_h m_c m_s m_le m_un m_he m_ro m_wi m_hi m_hr m_hp m_rn m_rw m_rh m_n m_l m_b m_to m_hs m_ho m_tx m_ik m_wt m_ac m_ap m_pa m_im m_ri hAd _ hu1 hg hR) (cwV 0 hts (gV q5_44 q5_46 qs4_15 q1_11 q5_47) rfl rfl rfl hd_X8_laysRings ⟨Nat.le_of_ble_eq_true rfl, Nat.le_of_ble_eq_true rfl⟩) (va_recv hk.1 hP (ci := 8) (q0 := 0) rfl rfl) rfl hl.1 rfl (Nat.le_of_ble_eq_true rfl) dX8_forced_15 ⟨Nat.zero_le _, Nat.zero_le _⟩) hS (fun _ h => h) (fun H locs hP hS => ?_)
    have hP : va_P D vwCl (mw ad cI cL cZ m_w m_h m_c m_s m_le m_un m_he m_ro m_wi m_hi m_hr m_hp u1.1 u1.2.1 u1.2.2.1 m_n m_l m_b m_to m_hs m_ho m_tx m_ik m_wt m_ac m_ap m_pa m_im u1.2.2.2) H := hP
    refine lv_aload_n hx hb dX8_forced_18 rfl (lv_at hl 0 rfl) ?_
    refine go_l (ru_V (n := 0) ⟨hx, hb, hml, hown, hts⟩ hk hP (c_X8_all l D cI cL cZ ad m_w m_h m_c m_s m_le m_un m_he m_ro m_wi m_hi m_hr m_hp u1.1 u1.2.1 u1.2.2.1 m_n m_l m_b m_to m_hs m_ho m_tx m_ik m_wt m_ac m_ap m_pa m_im u1.2.2.2 hAd _ rfl) (cwV 0 hts (gV q4_220 q4_222 qs4_5 q1_11 q4_223) rfl rfl rfl hd_X8_all ⟨Nat.le_of_ble_eq_true rfl, Nat.le_of_ble_eq_true rfl⟩) (va_recv hk.1 hP (ci := 8) (q0 := 0) rfl rfl) rfl hl.1 rfl (Nat.le_of_ble_eq_true rfl) dX8_forced_19 ⟨Nat.zero_le _, Nat.zero_le _⟩) hS (fun _ h => h) (fun H locs hP hS => ?_)
    have hP : va_P D vwCl (mw ad cI cL cZ m_w m_h m_c m_s m_le m_un m_he m_ro m_wi m_hi m_hr m_hp u1.1 u1.2.1 u1.2.2.1 m_n m_l m_b m_to m_hs m_ho m_tx m_ik m_wt m_ac m_ap m_pa m_im u1.2.2.2) H := hP
    refine lv_lstore_n (lv' := [(2, .long (f_X8_all m_s)), (0, .ref (ad 0)), (1, .int p1)]) hx hb dX8_forced_22 rfl hl (by decide) rfl (fun ls hl => ?_)
    refine lv_aload_n hx hb dX8_forced_23 rfl (lv_at hl 1 rfl) ?_
    refine go_l (ru_V (n := 0) ⟨hx, hb, hml, hown, hts⟩ hk hP (c_X8_all l D cI cL cZ ad m_w m_h m_c m_s m_le m_un m_he m_ro m_wi m_hi m_hr m_hp u1.1 u1.2.1 u1.2.2.1 m_n m_l m_b m_to m_hs m_ho m_tx m_ik m_wt m_ac m_ap m_pa m_im u1.2.2.2 hAd _ rfl) (cwV 0 hts (gV q4_220 q4_222 qs4_5 q1_11 q4_223) rfl rfl rfl hd_X8_all ⟨Nat.le_of_ble_eq_true rfl, Nat.le_of_ble_eq_true rfl⟩) (va_recv hk.1 hP (ci := 8) (q0 := 0) rfl rfl) rfl hl.1 rfl (Nat.le_of_ble_eq_true rfl) dX8_forced_24 ⟨Nat.zero_le _, Nat.zero_le _⟩) hS (fun _ h => h) (fun H locs hP hS => ?_)
    have hP : va_P D vwCl (mw ad cI cL cZ m_w m_h m_c m_s m_le m_un m_he m_ro m_wi m_hi m_hr m_hp u1.1 u1.2.1 u1.2.2.1 m_n m_l m_b m_to m_hs m_ho m_tx m_ik m_wt m_ac m_ap m_pa m_im u1.2.2.2) H := hP
    refine lv_lstore (lv' := [(4, .long (f_X8_all m_s)), (2, .long (f_X8_all m_s)), (0, .ref (ad 0)), (1, .int p1)]) hx hb dX8_forced_27 hl (by decide) rfl (fun ls hl => ?_)
    refine lv_iconst (v := 0) hx hb dX8_forced_29 (by decide) ?_
    refine lv_istore (lv' := [(6, .int 0), (4, .long (f_X8_all m_s)), (2, .long (f_X8_all m_s)), (0, .ref (ad 0)), (1, .int p1)]) hx hb dX8_forced_30 hl (by decide) rfl (fun ls hl => ?_)
    refine lv_iconst (v := 0) hx hb dX8_forced_32 (by decide) ?_
    refine lv_istore (lv' := [(7, .int 0), (6, .int 0), (4, .long (f_X8_all m_s)), (2, .long (f_X8_all m_s)), (0, .ref (ad 0)), (1, .int p1)]) hx hb dX8_forced_33 hl (by decide) rfl (fun ls hl => ?_)
    refine lp_X8_forced_35 l D cI cL cZ ad m_w m_h m_c m_s m_le m_un m_he m_ro m_wi m_hi m_hr m_hp u1.1 u1.2.1 u1.2.2.1 m_n m_l m_b m_to m_hs m_ho m_tx m_ik m_wt m_ac m_ap m_pa m_im u1.2.2.2 ⟨hx, hb, hml, hrt, hlocks, hown, hts, hk⟩ hAd p1 hg (lays_n hu1 hg hR hn) _ _ (fun z2 z3 z4 H locs ls hr hP hS hl => ?_) (fu u1.1 (0 : Int32)) (f_X8_all m_s) (f_X8_all m_s) 0 0 _ _ _ (fuU_0 (by decide)) hr hP hS (lv_sub hl [4, 5, 3, 2, 1, 0] rfl)
    refine lv_iload hx hb dX8_forced_95 (lv_at hl 3 rfl) ?_
    refine lv_if_ne (tgt := 106) hx hb dX8_forced_97 (by decide) (fun c97 => ?_) (fun c97 => ?_)
    · have hr := (if_neg c97).symm.trans hr
      refine lv_iload_n hx hb dX8_forced_106 rfl (lv_at hl 0 rfl) ?_
      refine lv_if_ne (tgt := 114) hx hb dX8_forced_107 (by decide) (fun c107 => ?_) (fun c107 => ?_)
      · have hr := (if_neg c107).symm.trans hr
        refine lv_lload hx hb dX8_forced_114 (lv_at hl 2 rfl) ?_
        subst hr
        exact ret_l hx hb hrt hlocks hP hS dX8_forced_116
      · have hr := (if_pos c107).symm.trans hr
        refine lv_lload_n hx hb dX8_forced_110 rfl (lv_at hl 1 rfl) ?_
        refine lv_goto (tgt := 116) hx hb dX8_forced_111 (by decide) ?_
        subst hr
        exact ret_l hx hb hrt hlocks hP hS dX8_forced_116
    · have hr := (if_pos c97).symm.trans hr
      refine lv_ldc2 hx hb hown (hts _ q5_69) dX8_forced_100 ?_
      refine lv_goto (tgt := 116) hx hb dX8_forced_103 (by decide) ?_
      subst hr
      exact ret_l hx hb hrt hlocks hP hS dX8_forced_116
  · have hr := (if_pos c7).symm.trans hr
    refine lv_ldc2 hx hb hown (hts _ q4_187) dX8_forced_10 ?_
    subst hr
    exact ret_l hx hb hrt hlocks hP hS dX8_forced_13
theorem hd_X8_inside : yX8_inside.cls = RX8 ∧ yX8_inside.cls ≠ "java/lang/invoke/MethodHandle" ∧ yX8_inside.cls ≠ "java/lang/invoke/VarHandle" ∧ (parseMethodDescriptor yX8_inside.desc).map (fun d => d.parameters.length) = some 1 := by decide +kernel
def F_X8_inside_50 (y2 : Int64) (y5 : Int32) (m_w : Int32) (m_h : Int32) {β : Type} (k0 : Int32 → β) : Nat → Int32 → Int32 → β
  | 0, x6, x7 => k0 x6
  | n + 1, x6, x7 => (if (y5 - y5 / m_w * m_w) < x7 then k0 x6 else (if (f_X8_has y2 (f_X8_standing x7 (y5 / m_w) m_w m_h)) = 0 then F_X8_inside_50 y2 y5 m_w m_h k0 n (x6 + 0) (x7 + 1) else F_X8_inside_50 y2 y5 m_w m_h k0 n (x6 + 1) (x7 + 1)))
def F_X8_inside_35 (y2 : Int64) (m_w : Int32) (m_h : Int32) (m_c : Int32) {β : Type} (k0 : Int32 → β) : Nat → Int32 → Int32 → β
  | 0, x4, x5 => k0 x4
  | n + 1, x4, x5 => (if m_c ≤ x5 then k0 x4 else F_X8_inside_50 y2 x5 m_w m_h (fun z2 => F_X8_inside_35 y2 m_w m_h m_c k0 n (x4 ||| ((z2 - z2 / 2 * 2) <<< (x5 &&& 31))) (x5 + 1)) (fue (x5 - x5 / m_w * m_w) (0 : Int32)) 0 0)
def f_X8_inside (p1 : Int32) (m_w : Int32) (m_h : Int32) (m_c : Int32) (m_s : Int32) (m_rn : Int32) (m_rw : Int32) (m_rh : Int32) (m_n : Int64) (m_l : Int64) (m_b : Int64) (m_ho : Nat → Int32) (m_ac : Nat → Int64) (m_ap : Nat → Int64) (m_ri : Nat → Int64) : Int32 × Int32 × Int32 × Int32 × (Nat → Int64) := (if (f_X8_in p1.toInt64 0 9999) = 0 then ((-1), m_rn, m_rw, m_rh, m_ri) else (bd (f_X8_loopAt p1 m_w m_h m_c m_s m_rn m_rw m_rh m_n m_l m_b m_ho m_ac m_ap m_ri) (fun u1 => (if 0 ≤ (lg_cmp u1.1 0) then F_X8_inside_35 u1.1 m_w m_h m_c (fun z3 => (z3, u1.2.1, u1.2.2.1, u1.2.2.2.1, u1.2.2.2.2)) (fu m_c (0 : Int32)) 0 0 else ((-9), u1.2.1, u1.2.2.1, u1.2.2.2.1, u1.2.2.2.2)))))
set_option maxHeartbeats 4000000 in
set_option maxRecDepth 100000 in
theorem lp_X8_inside_50 (l : Launch) (D : va_G) (cI cL cZ : ClassId) (ad : Nat → Nat) (m_w m_h m_c m_s m_le m_un m_he m_ro m_wi m_hi m_hr m_hp m_rn m_rw m_rh : Int32) (m_n m_l m_b m_to m_hs : Int64) (m_ho m_tx m_ik m_wt : Nat → Int32) (m_ac m_ap m_pa m_im m_ri : Nat → Int64) {p : Program} {e : Env} {s : State} {m : MethodId} {args : Array Value} {below : List Frame} {meth : Method} {c : Code} {Q : State → Prop} (C : Cx p s m args meth c cX8_inside 8 (some .int) W0 RX8 D cI cL cZ) (hAd : mInj ad) (y2 : Int64) (y4 y5 : Int32) (hg : mG m_w m_h m_c m_s) (hy0 : 0 ≤ y5.toInt) (hy : ¬ m_c ≤ y5) {β : Type} (k0 : Int32 → β) (r : β)
    (h0 : ∀ (e6 : Int32) (H : Heap) (locs : List Loc) (ls : Array Slot), k0 e6 = r → va_P D vwCl (mw ad cI cL cZ m_w m_h m_c m_s m_le m_un m_he m_ro m_wi m_hi m_hr m_hp m_rn m_rw m_rh m_n m_l m_b m_to m_hs m_ho m_tx m_ik m_wt m_ac m_ap m_pa m_im m_ri) H → va_S (mAd ad) s.heap H locs → lv_has ls 8 [(0, .ref (ad 0)), (2, .long y2), (4, .int y4), (5, .int y5), (6, .int e6)] → W p l e (rmS 5 122) s m args below meth c H locs 0 0 Q (F0 m 98 ls [])) :
    ∀ (n : Nat) (x6 x7 : Int32) (H : Heap) (locs : List Loc) (ls : Array Slot), fuE n (y5 - y5 / m_w * m_w) x7 → F_X8_inside_50 y2 y5 m_w m_h k0 n x6 x7 = r → va_P D vwCl (mw ad cI cL cZ m_w m_h m_c m_s m_le m_un m_he m_ro m_wi m_hi m_hr m_hp m_rn m_rw m_rh m_n m_l m_b m_to m_hs m_ho m_tx m_ik m_wt m_ac m_ap m_pa m_im m_ri) H → va_S (mAd ad) s.heap H locs → lv_has ls 8 [(0, .ref (ad 0)), (2, .long y2), (4, .int y4), (5, .int y5), (6, .int x6), (7, .int x7)] → W p l e (rmS 5 122) s m args below meth c H locs 0 0 Q (F0 m 50 ls []) := by
  obtain ⟨hx, hb, hml, hrt, hlocks, hown, hts, hk⟩ := C
  intro n
  induction n with
  | zero =>
    intro x6 x7 H locs ls hf
    exact absurd hf.1 (Nat.lt_irrefl 0)
  | succ n ih =>
    intro x6 x7 H locs ls hf hr hP hS hl
    rw [F_X8_inside_50] at hr
    refine lv_iload hx hb dX8_inside_50 (lv_at hl 5 rfl) ?_
    refine lv_iload hx hb dX8_inside_52 (lv_at hl 3 rfl) ?_
    refine lv_aload_n hx hb dX8_inside_54 rfl (lv_at hl 0 rfl) ?_
    refine va_get (D := D) (ci := 8) (v := .int m_w) (C := RX8) (T := TX8) (N := 29) hx hb hts u_X8 hown hk.1 hP 0 rfl rfl 3 (by decide) (hts _ q4_15) (fun _ h9 => h9) rfl dX8_inside_55 ?_
    refine lv_irem hx hb dX8_inside_58 (wh_nums hg.1).2.1 ?_
    refine lv_icmp_gt (tgt := 98) hx hb dX8_inside_59 (by decide) (fun c59 => ?_) (fun c59 => ?_)
    · have hr := (if_pos c59).symm.trans hr
      exact h0 x6 _ _ _ hr hP hS (lv_sub hl [0, 1, 2, 3, 4] rfl)
    · have hr := (if_neg c59).symm.trans hr
      refine lv_iload hx hb dX8_inside_62 (lv_at hl 4 rfl) ?_
      refine lv_lload_n hx hb dX8_inside_64 rfl (lv_at hl 1 rfl) ?_
      refine lv_aload_n hx hb dX8_inside_65 rfl (lv_at hl 0 rfl) ?_
      refine lv_iload hx hb dX8_inside_66 (lv_at hl 5 rfl) ?_
      refine lv_iload hx hb dX8_inside_68 (lv_at hl 3 rfl) ?_
      refine lv_aload_n hx hb dX8_inside_70 rfl (lv_at hl 0 rfl) ?_
      refine va_get (D := D) (ci := 8) (v := .int m_w) (C := RX8) (T := TX8) (N := 29) hx hb hts u_X8 hown hk.1 hP 0 rfl rfl 3 (by decide) (hts _ q4_15) (fun _ h9 => h9) rfl dX8_inside_71 ?_
      refine lv_idiv hx hb dX8_inside_74 (wh_nums hg.1).2.1 ?_
      refine go_i (ru_V (n := 2) ⟨hx, hb, hml, hown, hts⟩ hk hP (c_X8_standing l D cI cL cZ ad m_w m_h m_c m_s m_le m_un m_he m_ro m_wi m_hi m_hr m_hp m_rn m_rw m_rh m_n m_l m_b m_to m_hs m_ho m_tx m_ik m_wt m_ac m_ap m_pa m_im m_ri hAd x7 (y5 / m_w) _ rfl) (cwV 2 hts (gV q4_8 q4_10 qs3_3 q1_11 q4_11) rfl rfl rfl hd_X8_standing ⟨Nat.le_of_ble_eq_true rfl, Nat.le_of_ble_eq_true rfl⟩) (va_recv hk.1 hP (ci := 8) (q0 := 0) rfl rfl) rfl hl.1 rfl (Nat.le_of_ble_eq_true rfl) dX8_inside_75 ⟨Nat.zero_le _, Nat.zero_le _⟩) hS (fun _ h => h) (fun H locs hP hS => ?_)
      have hP : va_P D vwCl (mw ad cI cL cZ m_w m_h m_c m_s m_le m_un m_he m_ro m_wi m_hi m_hr m_hp m_rn m_rw m_rh m_n m_l m_b m_to m_hs m_ho m_tx m_ik m_wt m_ac m_ap m_pa m_im m_ri) H := hP
      refine go_z (ru_S (n := 2) ⟨hx, hb, hml, hown, hts⟩ hk hP (c_X8_has l D cI cL cZ (mAd ad) (mw ad cI cL cZ m_w m_h m_c m_s m_le m_un m_he m_ro m_wi m_hi m_hr m_hp m_rn m_rw m_rh m_n m_l m_b m_to m_hs m_ho m_tx m_ik m_wt m_ac m_ap m_pa m_im m_ri) y2 (f_X8_standing x7 (y5 / m_w) m_w m_h) _ rfl) (va_cwS 2 hts (gS q4_153 q4_154 q1_11 q4_155) rfl rfl rfl hd_X8_has ⟨Nat.le_of_ble_eq_true rfl, Nat.le_of_ble_eq_true rfl⟩) rfl hl.1 rfl (Nat.le_of_ble_eq_true rfl) dX8_inside_78 ⟨Nat.zero_le _, Nat.zero_le _⟩) hS (fun _ h => h) (fun H locs hz78 hP hS => ?_)
      have hP : va_P D vwCl (mw ad cI cL cZ m_w m_h m_c m_s m_le m_un m_he m_ro m_wi m_hi m_hr m_hp m_rn m_rw m_rh m_n m_l m_b m_to m_hs m_ho m_tx m_ik m_wt m_ac m_ap m_pa m_im m_ri) H := hP
      refine lv_if_eq (tgt := 88) hx hb dX8_inside_81 (by decide) (fun c81 => ?_) (fun c81 => ?_)
      · have hr := (if_pos c81).symm.trans hr
        refine lv_iconst (v := 0) hx hb dX8_inside_88 (by decide) ?_
        refine lv_iadd hx hb dX8_inside_89 ?_
        refine lv_istore (lv' := [(6, .int (x6 + 0)), (0, .ref (ad 0)), (2, .long y2), (4, .int y4), (5, .int y5), (7, .int x7)]) hx hb dX8_inside_90 hl (by decide) rfl (fun ls hl => ?_)
        refine lv_iinc (v := x7 + 1) (lv' := [(7, .int (x7 + 1)), (6, .int (x6 + 0)), (0, .ref (ad 0)), (2, .long y2), (4, .int y4), (5, .int y5)]) hx hb dX8_inside_92 hl (k := 5) rfl rfl (by decide) rfl (fun ls hl => ?_)
        refine lv_goto (tgt := 50) hx hb dX8_inside_95 (by decide) ?_
        exact ih (x6 + 0) (x7 + 1) _ _ _ (fuE_s hf c59 (rem_lt hg hy0 hy)) hr hP hS (lv_sub hl [2, 3, 4, 5, 1, 0] rfl)
      · have hr := (if_neg c81).symm.trans hr
        refine lv_iconst (v := 1) hx hb dX8_inside_84 (by decide) ?_
        refine lv_goto (tgt := 89) hx hb dX8_inside_85 (by decide) ?_
        refine lv_iadd hx hb dX8_inside_89 ?_
        refine lv_istore (lv' := [(6, .int (x6 + 1)), (0, .ref (ad 0)), (2, .long y2), (4, .int y4), (5, .int y5), (7, .int x7)]) hx hb dX8_inside_90 hl (by decide) rfl (fun ls hl => ?_)
        refine lv_iinc (v := x7 + 1) (lv' := [(7, .int (x7 + 1)), (6, .int (x6 + 1)), (0, .ref (ad 0)), (2, .long y2), (4, .int y4), (5, .int y5)]) hx hb dX8_inside_92 hl (k := 5) rfl rfl (by decide) rfl (fun ls hl => ?_)
        refine lv_goto (tgt := 50) hx hb dX8_inside_95 (by decide) ?_
        exact ih (x6 + 1) (x7 + 1) _ _ _ (fuE_s hf c59 (rem_lt hg hy0 hy)) hr hP hS (lv_sub hl [2, 3, 4, 5, 1, 0] rfl)
set_option maxHeartbeats 4000000 in
set_option maxRecDepth 100000 in
theorem lp_X8_inside_35 (l : Launch) (D : va_G) (cI cL cZ : ClassId) (ad : Nat → Nat) (m_w m_h m_c m_s m_le m_un m_he m_ro m_wi m_hi m_hr m_hp m_rn m_rw m_rh : Int32) (m_n m_l m_b m_to m_hs : Int64) (m_ho m_tx m_ik m_wt : Nat → Int32) (m_ac m_ap m_pa m_im m_ri : Nat → Int64) {p : Program} {e : Env} {s : State} {m : MethodId} {args : Array Value} {below : List Frame} {meth : Method} {c : Code} {Q : State → Prop} (C : Cx p s m args meth c cX8_inside 8 (some .int) W0 RX8 D cI cL cZ) (hAd : mInj ad) (y2 : Int64) (hg : mG m_w m_h m_c m_s) {β : Type} (k0 : Int32 → β) (r : β)
    (h0 : ∀ (e4 : Int32) (H : Heap) (locs : List Loc) (ls : Array Slot), k0 e4 = r → va_P D vwCl (mw ad cI cL cZ m_w m_h m_c m_s m_le m_un m_he m_ro m_wi m_hi m_hr m_hp m_rn m_rw m_rh m_n m_l m_b m_to m_hs m_ho m_tx m_ik m_wt m_ac m_ap m_pa m_im m_ri) H → va_S (mAd ad) s.heap H locs → lv_has ls 8 [(4, .int e4)] → W p l e (rmS 5 122) s m args below meth c H locs 0 0 Q (F0 m 116 ls [])) :
    ∀ (n : Nat) (x4 x5 : Int32) (H : Heap) (locs : List Loc) (ls : Array Slot), fuU n m_c x5 → F_X8_inside_35 y2 m_w m_h m_c k0 n x4 x5 = r → va_P D vwCl (mw ad cI cL cZ m_w m_h m_c m_s m_le m_un m_he m_ro m_wi m_hi m_hr m_hp m_rn m_rw m_rh m_n m_l m_b m_to m_hs m_ho m_tx m_ik m_wt m_ac m_ap m_pa m_im m_ri) H → va_S (mAd ad) s.heap H locs → lv_has ls 8 [(0, .ref (ad 0)), (2, .long y2), (4, .int x4), (5, .int x5)] → W p l e (rmS 5 122) s m args below meth c H locs 0 0 Q (F0 m 35 ls []) := by
  obtain ⟨hx, hb, hml, hrt, hlocks, hown, hts, hk⟩ := C
  intro n
  induction n with
  | zero =>
    intro x4 x5 H locs ls hf
    exact absurd hf.1 (Nat.lt_irrefl 0)
  | succ n ih =>
    intro x4 x5 H locs ls hf hr hP hS hl
    rw [F_X8_inside_35] at hr
    refine lv_iload hx hb dX8_inside_35 (lv_at hl 3 rfl) ?_
    refine lv_aload_n hx hb dX8_inside_37 rfl (lv_at hl 0 rfl) ?_
    refine va_get (D := D) (ci := 8) (v := .int m_c) (C := RX8) (T := TX8) (N := 29) hx hb hts u_X8 hown hk.1 hP 0 rfl rfl 5 (by decide) (hts _ q4_17) (fun _ h9 => h9) rfl dX8_inside_38 ?_
    refine lv_icmp_ge (tgt := 116) hx hb dX8_inside_41 (by decide) (fun c41 => ?_) (fun c41 => ?_)
    · have hr := (if_pos c41).symm.trans hr
      exact h0 x4 _ _ _ hr hP hS (lv_sub hl [2] rfl)
    · have hr := (if_neg c41).symm.trans hr
      refine lv_iconst (v := 0) hx hb dX8_inside_44 (by decide) ?_
      refine lv_istore (lv' := [(6, .int 0), (0, .ref (ad 0)), (2, .long y2), (4, .int x4), (5, .int x5)]) hx hb dX8_inside_45 hl (by decide) rfl (fun ls hl => ?_)
      refine lv_iconst (v := 0) hx hb dX8_inside_47 (by decide) ?_
      refine lv_istore (lv' := [(7, .int 0), (6, .int 0), (0, .ref (ad 0)), (2, .long y2), (4, .int x4), (5, .int x5)]) hx hb dX8_inside_48 hl (by decide) rfl (fun ls hl => ?_)
      refine lp_X8_inside_50 l D cI cL cZ ad m_w m_h m_c m_s m_le m_un m_he m_ro m_wi m_hi m_hr m_hp m_rn m_rw m_rh m_n m_l m_b m_to m_hs m_ho m_tx m_ik m_wt m_ac m_ap m_pa m_im m_ri ⟨hx, hb, hml, hrt, hlocks, hown, hts, hk⟩ hAd y2 x4 x5 hg hf.2.2 c41 _ _ (fun z2 H locs ls hr hP hS hl => ?_) (fue (x5 - x5 / m_w * m_w) (0 : Int32)) 0 0 _ _ _ (fuE_0 (by decide)) hr hP hS (lv_sub hl [2, 3, 4, 5, 1, 0] rfl)
      refine lv_iload hx hb dX8_inside_98 (lv_at hl 2 rfl) ?_
      refine lv_iload hx hb dX8_inside_100 (lv_at hl 4 rfl) ?_
      refine lv_iconst (v := 2) hx hb dX8_inside_102 (by decide) ?_
      refine lv_irem hx hb dX8_inside_103 (by decide) ?_
      refine lv_iload hx hb dX8_inside_104 (lv_at hl 3 rfl) ?_
      refine lv_ishl hx hb dX8_inside_106 ?_
      refine lv_ior hx hb dX8_inside_107 ?_
      refine lv_istore (lv' := [(4, .int (x4 ||| ((z2 - z2 / 2 * 2) <<< (x5 &&& 31)))), (0, .ref (ad 0)), (2, .long y2), (5, .int x5), (6, .int z2)]) hx hb dX8_inside_108 hl (by decide) rfl (fun ls hl => ?_)
      refine lv_iinc (v := x5 + 1) (lv' := [(5, .int (x5 + 1)), (4, .int (x4 ||| ((z2 - z2 / 2 * 2) <<< (x5 &&& 31)))), (0, .ref (ad 0)), (2, .long y2), (6, .int z2)]) hx hb dX8_inside_110 hl (k := 3) rfl rfl (by decide) rfl (fun ls hl => ?_)
      refine lv_goto (tgt := 35) hx hb dX8_inside_113 (by decide) ?_
      exact ih (x4 ||| ((z2 - z2 / 2 * 2) <<< (x5 &&& 31))) (x5 + 1) _ _ _ (fuU_s hf c41) hr hP hS (lv_sub hl [2, 3, 1, 0] rfl)
set_option maxHeartbeats 4000000 in
set_option maxRecDepth 100000 in
theorem c_X8_inside (l : Launch) (D : va_G) (cI cL cZ : ClassId) (ad : Nat → Nat) (m_w m_h m_c m_s m_le m_un m_he m_ro m_wi m_hi m_hr m_hp m_rn m_rw m_rh : Int32) (m_n m_l m_b m_to m_hs : Int64) (m_ho m_tx m_ik m_wt : Nat → Int32) (m_ac m_ap m_pa m_im m_ri : Nat → Int64) (hAd : mInj ad) (p1 : Int32) (r : Int32 × Int32 × Int32 × Int32 × (Nat → Int64)) (hr : f_X8_inside p1 m_w m_h m_c m_s m_rn m_rw m_rh m_n m_l m_b m_ho m_ac m_ap m_ri = r) (hg : mG m_w m_h m_c m_s) (hR : hRc m_w m_h m_c m_s m_ho m_ap) (hn : 0 ≤ m_rn.toInt ∧ m_rn.toInt ≤ 9400) : MI l yX8_inside (Cond.code yX8_inside cX8_inside 8 (some .int) :: W0) 5 122 D cI cL cZ (mAd ad) [.ref (ad 0), .int p1] (mw ad cI cL cZ m_w m_h m_c m_s m_le m_un m_he m_ro m_wi m_hi m_hr m_hp m_rn m_rw m_rh m_n m_l m_b m_to m_hs m_ho m_tx m_ik m_wt m_ac m_ap m_pa m_im m_ri) r.1 (mw ad cI cL cZ m_w m_h m_c m_s m_le m_un m_he m_ro m_wi m_hi m_hr m_hp r.2.1 r.2.2.1 r.2.2.2.1 m_n m_l m_b m_to m_hs m_ho m_tx m_ik m_wt m_ac m_ap m_pa m_im r.2.2.2.2) := by
  refine mk_start (cc := cX8_inside) (maxL := 8) (ret := (some .int)) (by decide) rfl (Nat.le_of_ble_eq_true rfl) ?_
  intro p e s m below meth c ls C hP hS hl
  obtain ⟨hx, hb, hml, hrt, hlocks, hown, hts, hk⟩ := C
  have hown : s.vm.findClass RX8 = some m.cls := hown
  have hl : lv_has ls 8 [(0, .ref (ad 0)), (1, .int p1)] := hl
  rw [f_X8_inside] at hr
  refine lv_iload_n hx hb dX8_inside_0 rfl (lv_at hl 1 rfl) ?_
  refine lv_i2l hx hb dX8_inside_1 rfl ?_
  refine lv_lconst (v := 0) hx hb dX8_inside_2 (by decide) ?_
  refine lv_ldc2 hx hb hown (hts _ q5_64) dX8_inside_3 ?_
  refine go_z (ru_S (n := 3) ⟨hx, hb, hml, hown, hts⟩ hk hP (c_X8_in l D cI cL cZ (mAd ad) (mw ad cI cL cZ m_w m_h m_c m_s m_le m_un m_he m_ro m_wi m_hi m_hr m_hp m_rn m_rw m_rh m_n m_l m_b m_to m_hs m_ho m_tx m_ik m_wt m_ac m_ap m_pa m_im m_ri) p1.toInt64 0 9999 _ rfl) (va_cwS 3 hts (gS q4_1 q4_2 q1_11 q4_3) rfl rfl rfl hd_X8_in ⟨Nat.le_of_ble_eq_true rfl, Nat.le_of_ble_eq_true rfl⟩) rfl hl.1 rfl (Nat.le_of_ble_eq_true rfl) dX8_inside_6 ⟨Nat.zero_le _, Nat.zero_le _⟩) hS (fun _ h => h) (fun H locs hz6 hP hS => ?_)
  have hP : va_P D vwCl (mw ad cI cL cZ m_w m_h m_c m_s m_le m_un m_he m_ro m_wi m_hi m_hr m_hp m_rn m_rw m_rh m_n m_l m_b m_to m_hs m_ho m_tx m_ik m_wt m_ac m_ap m_pa m_im m_ri) H := hP
  refine lv_if_ne (tgt := 14) hx hb dX8_inside_9 (by decide) (fun c9 => ?_) (fun c9 => ?_)
  · have hr := (if_neg c9).symm.trans hr
    refine lv_aload_n hx hb dX8_inside_14 rfl (lv_at hl 0 rfl) ?_
    refine lv_iload_n hx hb dX8_inside_15 rfl (lv_at hl 1 rfl) ?_
    obtain ⟨u1, hu1⟩ : ∃ z, f_X8_loopAt p1 m_w m_h m_c m_s m_rn m_rw m_rh m_n m_l m_b m_ho m_ac m_ap m_ri = z := ⟨_, rfl⟩
    have hr := (bd_eq hu1).symm.trans hr
    refine go_l (ru_V (n := 1) ⟨hx, hb, hml, hown, hts⟩ hk hP (c_X8_loopAt l D cI cL cZ ad m_w m_h m_c m_s m_le m_un m_he m_ro m_wi m_hi m_hr m_hp m_rn m_rw m_rh m_n m_l m_b m_to m_hs m_ho m_tx m_ik m_wt m_ac m_ap m_pa m_im m_ri hAd p1 _ hu1 hg hR hn) (cwV 1 hts (gV q5_65 q5_67 qs5_3 q1_11 q5_68) rfl rfl rfl hd_X8_loopAt ⟨Nat.le_of_ble_eq_true rfl, Nat.le_of_ble_eq_true rfl⟩) (va_recv hk.1 hP (ci := 8) (q0 := 0) rfl rfl) rfl hl.1 rfl (Nat.le_of_ble_eq_true rfl) dX8_inside_16 ⟨Nat.zero_le _, Nat.zero_le _⟩) hS (fun _ h => h) (fun H locs hP hS => ?_)
    have hP : va_P D vwCl (mw ad cI cL cZ m_w m_h m_c m_s m_le m_un m_he m_ro m_wi m_hi m_hr m_hp u1.2.1 u1.2.2.1 u1.2.2.2.1 m_n m_l m_b m_to m_hs m_ho m_tx m_ik m_wt m_ac m_ap m_pa m_im u1.2.2.2.2) H := hP
    refine lv_lstore_n (lv' := [(2, .long u1.1), (0, .ref (ad 0)), (1, .int p1)]) hx hb dX8_inside_19 rfl hl (by decide) rfl (fun ls hl => ?_)
    refine lv_lload_n hx hb dX8_inside_20 rfl (lv_at hl 0 rfl) ?_
    refine lv_lconst (v := 0) hx hb dX8_inside_21 (by decide) ?_
    refine W.lcmp hx hb dX8_inside_22 ?_
    refine lv_if_ge (tgt := 29) hx hb dX8_inside_23 (by decide) (fun c23 => ?_) (fun c23 => ?_)
    · have hr := (if_pos c23).symm.trans hr
      refine lv_iconst (v := 0) hx hb dX8_inside_29 (by decide) ?_
      refine lv_istore (lv' := [(4, .int 0), (2, .long u1.1), (0, .ref (ad 0)), (1, .int p1)]) hx hb dX8_inside_30 hl (by decide) rfl (fun ls hl => ?_)
      refine lv_iconst (v := 0) hx hb dX8_inside_32 (by decide) ?_
      refine lv_istore (lv' := [(5, .int 0), (4, .int 0), (2, .long u1.1), (0, .ref (ad 0)), (1, .int p1)]) hx hb dX8_inside_33 hl (by decide) rfl (fun ls hl => ?_)
      refine lp_X8_inside_35 l D cI cL cZ ad m_w m_h m_c m_s m_le m_un m_he m_ro m_wi m_hi m_hr m_hp u1.2.1 u1.2.2.1 u1.2.2.2.1 m_n m_l m_b m_to m_hs m_ho m_tx m_ik m_wt m_ac m_ap m_pa m_im u1.2.2.2.2 ⟨hx, hb, hml, hrt, hlocks, hown, hts, hk⟩ hAd u1.1 hg _ _ (fun z3 H locs ls hr hP hS hl => ?_) (fu m_c (0 : Int32)) 0 0 _ _ _ (fuU_0 (by decide)) hr hP hS (lv_sub hl [3, 2, 1, 0] rfl)
      refine lv_iload hx hb dX8_inside_116 (lv_at hl 0 rfl) ?_
      subst hr
      exact ret_i hx hb hrt hlocks hP hS dX8_inside_118
    · have hr := (if_neg c23).symm.trans hr
      refine lv_bipush (v := (-9)) hx hb dX8_inside_26 (by decide) ?_
      subst hr
      exact ret_i hx hb hrt hlocks hP hS dX8_inside_28
  · have hr := (if_pos c9).symm.trans hr
    refine lv_iconst (v := (-1)) hx hb dX8_inside_12 (by decide) ?_
    subst hr
    exact ret_i hx hb hrt hlocks hP hS dX8_inside_13
