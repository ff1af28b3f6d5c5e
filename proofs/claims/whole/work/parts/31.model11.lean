theorem rcnt_z {w h s : Int32} : True := trivial
def rcnt (w h s : Int32) (ho : Nat → Int32) (ap : Nat → Int64) : Nat → Nat
  | 0 => 0
  | k + 1 => if k = 0 then 0 else rcnt w h s ho ap k + (if f_X8_isRing (f_X8_around (nI k) s ho) w h ap = 0 then 0 else 1)
abbrev hRc (w h c s : Int32) (ho : Nat → Int32) (ap : Nat → Int64) : Prop := ∀ k : Nat, (k : Int) ≤ ((1 : Int32) <<< (c &&& 31)).toInt → rcnt w h s ho ap k ≤ 9400
abbrev laC (n : Nat) (w h c s : Int32) (ho : Nat → Int32) (ap : Nat → Int64) (x rn : Int32) : Prop := fuU n ((1 : Int32) <<< (c &&& 31)) x ∧ rn = nI (rcnt w h s ho ap x.toInt.toNat) ∧ 1 ≤ x.toInt ∧ x.toInt ≤ ((1 : Int32) <<< (c &&& 31)).toInt
theorem pow_num : ∀ a b : Fin 5, 1 ≤ a.val → 1 ≤ b.val → 1 ≤ ((1 : Int32) <<< ((nI a.val * nI b.val) &&& 31)).toInt ∧ ((1 : Int32) <<< ((nI a.val * nI b.val) &&& 31)).toInt ≤ 65536 := by decide +kernel
theorem pow_nums {w h c s : Int32} (hg : mG w h c s) : 1 ≤ ((1 : Int32) <<< (c &&& 31)).toInt ∧ ((1 : Int32) <<< (c &&& 31)).toInt ≤ 65536 := by
  rw [hg.2.1]
  obtain ⟨a, b, ha, hb, e1, e2⟩ := wh_of hg.1
  rw [e1, e2]
  exact pow_num a b ha hb
theorem la_0 {w h c s : Int32} {ho : Nat → Int32} {ap : Nat → Int64} (hg : mG w h c s) : laC (fu ((1 : Int32) <<< (c &&& 31)) (1 : Int32)) w h c s ho ap 1 0 := ⟨fuU_0 (by decide), rfl, by decide, (pow_nums hg).1⟩
theorem la_e {n : Nat} {w h c s : Int32} {ho : Nat → Int32} {ap : Nat → Int64} {x rn : Int32} (hf : laC (n + 1) w h c s ho ap x rn) (hc : ¬ ((1 : Int32) <<< (c &&& 31)) ≤ x) : rcnt w h s ho ap (x + 1).toInt.toNat = rcnt w h s ho ap x.toInt.toNat + (if f_X8_isRing (f_X8_around x s ho) w h ap = 0 then 0 else 1) ∧ (x + 1).toInt ≤ ((1 : Int32) <<< (c &&& 31)).toInt ∧ 1 ≤ (x + 1).toInt := by
  obtain ⟨h1, h2, h3, h4⟩ := hf
  have h5 := lt_tt hc
  have e := i32_inc (i32_lt hc)
  have e2 : x = nI x.toInt.toNat := by
    apply Int32.toInt_inj.mp
    rw [nI_toInt (by have := x.toInt_lt; omega)]
    omega
  rw [e]
  refine ⟨?_, by omega, by omega⟩
  rw [show (x.toInt + 1).toNat = x.toInt.toNat + 1 by omega, rcnt, if_neg (by omega), ← e2]
theorem la_s0 {n : Nat} {w h c s : Int32} {ho : Nat → Int32} {ap : Nat → Int64} {x rn : Int32} (hf : laC (n + 1) w h c s ho ap x rn) (hc : ¬ ((1 : Int32) <<< (c &&& 31)) ≤ x) (hr : f_X8_isRing (f_X8_around x s ho) w h ap = 0) : laC n w h c s ho ap (x + 1) rn := by
  obtain ⟨e1, e2, e3⟩ := la_e hf hc
  rw [if_pos hr] at e1
  exact ⟨fuU_s hf.1 hc, by rw [e1]; exact hf.2.1, e3, e2⟩
theorem la_s1 {n : Nat} {w h c s : Int32} {ho : Nat → Int32} {ap : Nat → Int64} {x rn : Int32} (hf : laC (n + 1) w h c s ho ap x rn) (hc : ¬ ((1 : Int32) <<< (c &&& 31)) ≤ x) (hr : ¬ f_X8_isRing (f_X8_around x s ho) w h ap = 0) : laC n w h c s ho ap (x + 1) (rn + 1) := by
  obtain ⟨e1, e2, e3⟩ := la_e hf hc
  rw [if_neg hr] at e1
  exact ⟨fuU_s hf.1 hc, by rw [e1, nI_succ, hf.2.1], e3, e2⟩
theorem la_i {n : Nat} {w h c s : Int32} {ho : Nat → Int32} {ap : Nat → Int64} {x rn : Int32} (hR : hRc w h c s ho ap) (hf : laC (n + 1) w h c s ho ap x rn) (hc : ¬ ((1 : Int32) <<< (c &&& 31)) ≤ x) (hr : ¬ f_X8_isRing (f_X8_around x s ho) w h ap = 0) : vp_in rn 9400 := by
  obtain ⟨e1, e2, e3⟩ := la_e hf hc
  rw [if_neg hr] at e1
  have h1 := hR (x + 1).toInt.toNat (by omega)
  rw [hf.2.1]
  exact vp_in_nI (by omega) (by decide)
theorem la_x {n : Nat} {w h c s : Int32} {ho : Nat → Int32} {ap : Nat → Int64} {x rn : Int32} (hR : hRc w h c s ho ap) (hf : laC n w h c s ho ap x rn) : 0 ≤ rn.toInt ∧ rn.toInt ≤ 9400 := by
  obtain ⟨h1, h2, h3, h4⟩ := hf
  have h5 := hR x.toInt.toNat (by omega)
  rw [h2, nI_toInt (by omega)]
  omega
theorem div2 {x : Int32} (h : 0 ≤ x.toInt) : (x / 2).toInt = x.toInt / 2 := by
  rw [Int32.toInt_div, show (2 : Int32).toInt = 2 from rfl]
  have h2 := x.toInt_lt
  rw [Int.tdiv_eq_ediv_of_nonneg h, Int.bmod_eq_of_le (by omega) (by omega)]
abbrev gaC (n : Nat) (x : Int32) : Prop := 0 < n ∧ x.toInt < (n : Int) ∧ 0 ≤ x.toInt
theorem ga_s {n : Nat} {x : Int32} (hf : gaC (n + 1) x) (hc : ¬ x ≤ 0) : gaC n (x / 2) := by
  obtain ⟨h1, h2, h3⟩ := hf
  rw [Int32.le_iff_toInt_le, Int32.toInt_zero] at hc
  rw [gaC, div2 h3]
  omega
theorem ga_p {x : Int32} (hc : ¬ x ≤ 0) : 0 < x.toInt := by
  rw [Int32.le_iff_toInt_le, Int32.toInt_zero] at hc; omega
abbrev aaC (n : Nat) (x : Int32) : Prop := 0 < n ∧ x.toInt < (n : Int) ∧ 0 ≤ x.toInt ∧ x.toInt < 9400
theorem aa_0 {x : Int32} (h0 : 0 ≤ x.toInt) (h1 : x.toInt < 9400) : aaC (x.toInt.toNat + 1) x := ⟨by omega, by omega, h0, h1⟩
theorem aa_d {n : Nat} {x y : Int32} (hf : aaC n x) (hy : 0 < y.toInt) (hc : ¬ x < y) : (x - y).toInt = x.toInt - y.toInt ∧ 0 ≤ x.toInt - y.toInt ∧ x.toInt - y.toInt < x.toInt := by
  rw [Int32.lt_iff_toInt_lt] at hc
  obtain ⟨h1, h2, h3, h4⟩ := hf
  refine ⟨subT (by omega) (by omega), by omega, by omega⟩
theorem aa_s {n : Nat} {x y : Int32} (hf : aaC (n + 1) x) (hy : 0 < y.toInt) (hc : ¬ x < y) : aaC n (x - y) := by
  obtain ⟨e1, e2, e3⟩ := aa_d hf hy hc
  obtain ⟨h1, h2, h3, h4⟩ := hf
  rw [aaC, e1]
  omega
theorem aa_v {n : Nat} {x y : Int32} (hf : aaC n x) (hy : 0 < y.toInt) (hc : ¬ x < y) : vp_in (x - y) 9400 := by
  obtain ⟨e1, e2, e3⟩ := aa_d hf hy hc
  obtain ⟨h1, h2, h3, h4⟩ := hf
  exact vin (by omega) (by omega)
theorem rn_lt {x rn : Int32} (h : ¬ rn ≤ x) (hn : 0 ≤ rn.toInt ∧ rn.toInt ≤ 9400) : x.toInt < 9400 := by
  have := lt_tt h; omega
theorem hd_X8_laysRings : yX8_laysRings.cls = RX8 ∧ yX8_laysRings.cls ≠ "java/lang/invoke/MethodHandle" ∧ yX8_laysRings.cls ≠ "java/lang/invoke/VarHandle" ∧ (parseMethodDescriptor yX8_laysRings.desc).map (fun d => d.parameters.length) = some 0 := by decide +kernel
def F_X8_laysRings_46 (m_w : Int32) (m_h : Int32) (m_c : Int32) (m_s : Int32) (m_ho : Nat → Int32) (m_ap : Nat → Int64) {β : Type} (k0 : Int32 → (Nat → Int64) → β) : Nat → Int32 → Int32 → (Nat → Int64) → β
  | 0, x1, m_rn, m_ri => k0 m_rn m_ri
  | n + 1, x1, m_rn, m_ri => (if (1 <<< (m_c &&& 31)) ≤ x1 then k0 m_rn m_ri else (if (f_X8_isRing (f_X8_around x1 m_s m_ho) m_w m_h m_ap) = 0 then F_X8_laysRings_46 m_w m_h m_c m_s m_ho m_ap k0 n (x1 + 1) m_rn m_ri else F_X8_laysRings_46 m_w m_h m_c m_s m_ho m_ap k0 n (x1 + 1) (m_rn + 1) (vp_updL m_ri m_rn.toNatClampNeg (f_X8_around x1 m_s m_ho))))
def F_X8_laysRings_124 (y1 : Int32) (y3 : Int64) {β : Type} (k0 : Int32 → (Nat → Int64) → β) : Nat → Int32 → (Nat → Int64) → β
  | 0, x5, m_ri => k0 x5 m_ri
  | n + 1, x5, m_ri => (if x5 < y1 then k0 x5 m_ri else (if (lg_cmp (m_ri (x5 - y1).toNatClampNeg) y3) ≤ 0 then k0 x5 m_ri else F_X8_laysRings_124 y1 y3 k0 n (x5 - y1) (vp_updL m_ri x5.toNatClampNeg (m_ri (x5 - y1).toNatClampNeg))))
def F_X8_laysRings_106 (y1 : Int32) (m_rn : Int32) {β : Type} (k0 : (Nat → Int64) → β) : Nat → Int32 → (Nat → Int64) → β
  | 0, x2, m_ri => k0 m_ri
  | n + 1, x2, m_ri => (if m_rn ≤ x2 then k0 m_ri else F_X8_laysRings_124 y1 (m_ri x2.toNatClampNeg) (fun z3 z4 => F_X8_laysRings_106 y1 m_rn k0 n (x2 + 1) (vp_updL z4 z3.toNatClampNeg (m_ri x2.toNatClampNeg))) (x2.toInt.toNat + 1) x2 m_ri)
def F_X8_laysRings_100 (m_rn : Int32) {β : Type} (k0 : (Nat → Int64) → β) : Nat → Int32 → (Nat → Int64) → β
  | 0, x1, m_ri => k0 m_ri
  | n + 1, x1, m_ri => (if x1 ≤ 0 then k0 m_ri else F_X8_laysRings_106 x1 m_rn (fun z5 => F_X8_laysRings_100 m_rn k0 n (x1 / 2) z5) (fu m_rn x1) x1 m_ri)
def f_X8_laysRings (m_w : Int32) (m_h : Int32) (m_c : Int32) (m_s : Int32) (m_rn : Int32) (m_rw : Int32) (m_rh : Int32) (m_ho : Nat → Int32) (m_ap : Nat → Int64) (m_ri : Nat → Int64) : Int32 × Int32 × Int32 × (Nat → Int64) := (if m_rw = m_w then (if m_rh = m_h then (m_rn, m_rw, m_rh, m_ri) else F_X8_laysRings_46 m_w m_h m_c m_s m_ho m_ap (fun z7 z8 => F_X8_laysRings_100 z7 (fun z9 => (z7, m_w, m_h, z9)) ((4096 : Int32).toInt.toNat + 1) 4096 z8) (fu (1 <<< (m_c &&& 31)) (1 : Int32)) 1 0 m_ri) else F_X8_laysRings_46 m_w m_h m_c m_s m_ho m_ap (fun z1 z2 => F_X8_laysRings_100 z1 (fun z6 => (z1, m_w, m_h, z6)) ((4096 : Int32).toInt.toNat + 1) 4096 z2) (fu (1 <<< (m_c &&& 31)) (1 : Int32)) 1 0 m_ri)
set_option maxHeartbeats 4000000 in
set_option maxRecDepth 100000 in
theorem lp_X8_laysRings_46 (l : Launch) (D : va_G) (cI cL cZ : ClassId) (ad : Nat → Nat) (m_w m_h m_c m_s m_le m_un m_he m_ro m_wi m_hi m_hr m_hp m_rw m_rh : Int32) (m_n m_l m_b m_to m_hs : Int64) (m_ho m_tx m_ik m_wt : Nat → Int32) (m_ac m_ap m_pa m_im : Nat → Int64) {p : Program} {e : Env} {s : State} {m : MethodId} {args : Array Value} {below : List Frame} {meth : Method} {c : Code} {Q : State → Prop} (C : Cx p s m args meth c cX8_laysRings 6 none W0 RX8 D cI cL cZ) (hAd : mInj ad) (hg : mG m_w m_h m_c m_s) (hR : hRc m_w m_h m_c m_s m_ho m_ap) {β : Type} (k0 : Int32 → (Nat → Int64) → β) (r : β)
    (h0 : ∀ (m_rn : Int32) (m_ri : Nat → Int64) (H : Heap) (locs : List Loc) (ls : Array Slot), 0 ≤ m_rn.toInt ∧ m_rn.toInt ≤ 9400 → k0 m_rn m_ri = r → va_P D vwCl (mw ad cI cL cZ m_w m_h m_c m_s m_le m_un m_he m_ro m_wi m_hi m_hr m_hp m_rn m_rw m_rh m_n m_l m_b m_to m_hs m_ho m_tx m_ik m_wt m_ac m_ap m_pa m_im m_ri) H → va_S (mAd ad) s.heap H locs → lv_has ls 6 [(0, .ref (ad 0))] → W p l e (rmS 3 74) s m args below meth c H locs 0 0 Q (F0 m 96 ls [])) :
    ∀ (n : Nat) (x1 m_rn : Int32) (m_ri : Nat → Int64) (H : Heap) (locs : List Loc) (ls : Array Slot), laC n m_w m_h m_c m_s m_ho m_ap x1 m_rn → F_X8_laysRings_46 m_w m_h m_c m_s m_ho m_ap k0 n x1 m_rn m_ri = r → va_P D vwCl (mw ad cI cL cZ m_w m_h m_c m_s m_le m_un m_he m_ro m_wi m_hi m_hr m_hp m_rn m_rw m_rh m_n m_l m_b m_to m_hs m_ho m_tx m_ik m_wt m_ac m_ap m_pa m_im m_ri) H → va_S (mAd ad) s.heap H locs → lv_has ls 6 [(0, .ref (ad 0)), (1, .int x1)] → W p l e (rmS 3 74) s m args below meth c H locs 0 0 Q (F0 m 46 ls []) := by
  obtain ⟨hx, hb, hml, hrt, hlocks, hown, hts, hk⟩ := C
  intro n
  induction n with
  | zero =>
    intro x1 m_rn m_ri H locs ls hf
    exact absurd hf.1.1 (Nat.lt_irrefl 0)
  | succ n ih =>
    intro x1 m_rn m_ri H locs ls hf hr hP hS hl
    rw [F_X8_laysRings_46] at hr
    refine lv_iload_n hx hb dX8_laysRings_46 rfl (lv_at hl 1 rfl) ?_
    refine lv_iconst (v := 1) hx hb dX8_laysRings_47 (by decide) ?_
    refine lv_aload_n hx hb dX8_laysRings_48 rfl (lv_at hl 0 rfl) ?_
    refine va_get (D := D) (ci := 8) (v := .int m_c) (C := RX8) (T := TX8) (N := 29) hx hb hts u_X8 hown hk.1 hP 0 rfl rfl 5 (by decide) (hts _ q4_17) (fun _ h9 => h9) rfl dX8_laysRings_49 ?_
    refine lv_ishl hx hb dX8_laysRings_52 ?_
    refine lv_icmp_ge (tgt := 96) hx hb dX8_laysRings_53 (by decide) (fun c53 => ?_) (fun c53 => ?_)
    · have hr := (if_pos c53).symm.trans hr
      exact h0 m_rn m_ri _ _ _ (la_x hR hf) hr hP hS (lv_sub hl [0] rfl)
    · have hr := (if_neg c53).symm.trans hr
      refine lv_aload_n hx hb dX8_laysRings_56 rfl (lv_at hl 0 rfl) ?_
      refine lv_iload_n hx hb dX8_laysRings_57 rfl (lv_at hl 1 rfl) ?_
      refine go_l (ru_V (n := 1) ⟨hx, hb, hml, hown, hts⟩ hk hP (c_X8_around l D cI cL cZ ad m_w m_h m_c m_s m_le m_un m_he m_ro m_wi m_hi m_hr m_hp m_rn m_rw m_rh m_n m_l m_b m_to m_hs m_ho m_tx m_ik m_wt m_ac m_ap m_pa m_im m_ri hAd x1 _ rfl hg) (cwV 1 hts (gV q5_48 q5_50 qs5_0 q1_11 q5_51) rfl rfl rfl hd_X8_around ⟨Nat.le_of_ble_eq_true rfl, Nat.le_of_ble_eq_true rfl⟩) (va_recv hk.1 hP (ci := 8) (q0 := 0) rfl rfl) rfl hl.1 rfl (Nat.le_of_ble_eq_true rfl) dX8_laysRings_58 ⟨Nat.zero_le _, Nat.zero_le _⟩) hS (fun _ h => h) (fun H locs hP hS => ?_)
      have hP : va_P D vwCl (mw ad cI cL cZ m_w m_h m_c m_s m_le m_un m_he m_ro m_wi m_hi m_hr m_hp m_rn m_rw m_rh m_n m_l m_b m_to m_hs m_ho m_tx m_ik m_wt m_ac m_ap m_pa m_im m_ri) H := hP
      refine lv_lstore_n (lv' := [(2, .long (f_X8_around x1 m_s m_ho)), (0, .ref (ad 0)), (1, .int x1)]) hx hb dX8_laysRings_61 rfl hl (by decide) rfl (fun ls hl => ?_)
      refine lv_aload_n hx hb dX8_laysRings_62 rfl (lv_at hl 1 rfl) ?_
      refine lv_lload_n hx hb dX8_laysRings_63 rfl (lv_at hl 0 rfl) ?_
      refine go_z (ru_V (n := 1) ⟨hx, hb, hml, hown, hts⟩ hk hP (c_X8_isRing l D cI cL cZ ad m_w m_h m_c m_s m_le m_un m_he m_ro m_wi m_hi m_hr m_hp m_rn m_rw m_rh m_n m_l m_b m_to m_hs m_ho m_tx m_ik m_wt m_ac m_ap m_pa m_im m_ri hAd (f_X8_around x1 m_s m_ho) _ rfl hg) (cwV 1 hts (gV q5_52 q5_54 qs5_1 q1_11 q5_55) rfl rfl rfl hd_X8_isRing ⟨Nat.le_of_ble_eq_true rfl, Nat.le_of_ble_eq_true rfl⟩) (va_recv hk.1 hP (ci := 8) (q0 := 0) rfl rfl) rfl hl.1 rfl (Nat.le_of_ble_eq_true rfl) dX8_laysRings_64 ⟨Nat.zero_le _, Nat.zero_le _⟩) hS (fun _ h => h) (fun H locs hz64 hP hS => ?_)
      have hP : va_P D vwCl (mw ad cI cL cZ m_w m_h m_c m_s m_le m_un m_he m_ro m_wi m_hi m_hr m_hp m_rn m_rw m_rh m_n m_l m_b m_to m_hs m_ho m_tx m_ik m_wt m_ac m_ap m_pa m_im m_ri) H := hP
      refine lv_if_eq (tgt := 90) hx hb dX8_laysRings_67 (by decide) (fun c67 => ?_) (fun c67 => ?_)
      · have hr := (if_pos c67).symm.trans hr
        refine lv_iinc (v := x1 + 1) (lv' := [(1, .int (x1 + 1)), (2, .long (f_X8_around x1 m_s m_ho)), (0, .ref (ad 0))]) hx hb dX8_laysRings_90 hl (k := 2) rfl rfl (by decide) rfl (fun ls hl => ?_)
        refine lv_goto (tgt := 46) hx hb dX8_laysRings_93 (by decide) ?_
        exact ih (x1 + 1) m_rn m_ri _ _ _ (by first | exact la_s0 hf c53 c67 | exact la_s1 hf c53 c67) hr hP hS (lv_sub hl [2, 0] rfl)
      · have hr := (if_neg c67).symm.trans hr
        refine lv_aload_n hx hb dX8_laysRings_70 rfl (lv_at hl 1 rfl) ?_
        refine va_get (D := D) (ci := 8) (v := .ref (ad 8)) (C := RX8) (T := TX8) (N := 29) hx hb hts u_X8 hown hk.1 hP 0 rfl rfl 24 (by decide) (hts _ q4_36) (fun _ h9 => h9) rfl dX8_laysRings_71 ?_
        refine lv_aload_n hx hb dX8_laysRings_74 rfl (lv_at hl 1 rfl) ?_
        refine va_get (D := D) (ci := 8) (v := .int m_rn) (C := RX8) (T := TX8) (N := 29) hx hb hts u_X8 hown hk.1 hP 0 rfl rfl 25 (by decide) (hts _ q4_37) (fun _ h9 => h9) rfl dX8_laysRings_75 ?_
        refine lv_lload_n hx hb dX8_laysRings_78 rfl (lv_at hl 0 rfl) ?_
        refine va_last hx hb hk.1 hP (mw_D hAd) hS 8 1 (rfl) rfl (la_i hR hf c53 c67) dX8_laysRings_79 (fun H locs hP _ hS => ?_)
        have hP : va_P D vwCl (mw ad cI cL cZ m_w m_h m_c m_s m_le m_un m_he m_ro m_wi m_hi m_hr m_hp m_rn m_rw m_rh m_n m_l m_b m_to m_hs m_ho m_tx m_ik m_wt m_ac m_ap m_pa m_im (vp_updL m_ri m_rn.toNatClampNeg (f_X8_around x1 m_s m_ho))) H := hP
        refine lv_aload_n hx hb dX8_laysRings_80 rfl (lv_at hl 1 rfl) ?_
        refine lv_dup hx hb dX8_laysRings_81 rfl ?_
        refine va_get (D := D) (ci := 8) (v := .int m_rn) (C := RX8) (T := TX8) (N := 29) hx hb hts u_X8 hown hk.1 hP 0 rfl rfl 25 (by decide) (hts _ q4_37) (fun _ h9 => h9) rfl dX8_laysRings_82 ?_
        refine lv_iconst (v := 1) hx hb dX8_laysRings_85 (by decide) ?_
        refine lv_iadd hx hb dX8_laysRings_86 ?_
        refine va_put (D := D) (ci := 8) (v := .int (m_rn + 1)) (ty := .int) (C := RX8) (T := TX8) (N := 29) hx hb hts u_X8 tyX8 tyX8_ok nmX8 hown hk.1 hP (mw_D hAd) hS 0 rfl rfl 25 (by decide) (hts _ q4_37) (fun _ h9 => h9) rfl (tyX8_ok 25 (by decide)) rfl rfl (Nat.le_of_ble_eq_true rfl) dX8_laysRings_87 (fun H locs hP _ hS => ?_)
        have hP : va_P D vwCl (mw ad cI cL cZ m_w m_h m_c m_s m_le m_un m_he m_ro m_wi m_hi m_hr m_hp (m_rn + 1) m_rw m_rh m_n m_l m_b m_to m_hs m_ho m_tx m_ik m_wt m_ac m_ap m_pa m_im (vp_updL m_ri m_rn.toNatClampNeg (f_X8_around x1 m_s m_ho))) H := hP
        refine lv_iinc (v := x1 + 1) (lv' := [(1, .int (x1 + 1)), (2, .long (f_X8_around x1 m_s m_ho)), (0, .ref (ad 0))]) hx hb dX8_laysRings_90 hl (k := 2) rfl rfl (by decide) rfl (fun ls hl => ?_)
        refine lv_goto (tgt := 46) hx hb dX8_laysRings_93 (by decide) ?_
        exact ih (x1 + 1) (m_rn + 1) (vp_updL m_ri m_rn.toNatClampNeg (f_X8_around x1 m_s m_ho)) _ _ _ (by first | exact la_s0 hf c53 c67 | exact la_s1 hf c53 c67) hr hP hS (lv_sub hl [2, 0] rfl)
set_option maxHeartbeats 4000000 in
set_option maxRecDepth 100000 in
theorem lp_X8_laysRings_124 (l : Launch) (D : va_G) (cI cL cZ : ClassId) (ad : Nat → Nat) (m_w m_h m_c m_s m_le m_un m_he m_ro m_wi m_hi m_hr m_hp m_rn m_rw m_rh : Int32) (m_n m_l m_b m_to m_hs : Int64) (m_ho m_tx m_ik m_wt : Nat → Int32) (m_ac m_ap m_pa m_im : Nat → Int64) {p : Program} {e : Env} {s : State} {m : MethodId} {args : Array Value} {below : List Frame} {meth : Method} {c : Code} {Q : State → Prop} (C : Cx p s m args meth c cX8_laysRings 6 none W0 RX8 D cI cL cZ) (hAd : mInj ad) (y1 y2 : Int32) (y3 : Int64) (hy : 0 < y1.toInt) {β : Type} (k0 : Int32 → (Nat → Int64) → β) (r : β)
    (h0 : ∀ (e5 : Int32) (m_ri : Nat → Int64) (H : Heap) (locs : List Loc) (ls : Array Slot), 0 ≤ e5.toInt ∧ e5.toInt < 9400 → k0 e5 m_ri = r → va_P D vwCl (mw ad cI cL cZ m_w m_h m_c m_s m_le m_un m_he m_ro m_wi m_hi m_hr m_hp m_rn m_rw m_rh m_n m_l m_b m_to m_hs m_ho m_tx m_ik m_wt m_ac m_ap m_pa m_im m_ri) H → va_S (mAd ad) s.heap H locs → lv_has ls 6 [(0, .ref (ad 0)), (1, .int y1), (2, .int y2), (3, .long y3), (5, .int e5)] → W p l e (rmS 3 74) s m args below meth c H locs 0 0 Q (F0 m 169 ls [])) :
    ∀ (n : Nat) (x5 : Int32) (m_ri : Nat → Int64) (H : Heap) (locs : List Loc) (ls : Array Slot), aaC n x5 → F_X8_laysRings_124 y1 y3 k0 n x5 m_ri = r → va_P D vwCl (mw ad cI cL cZ m_w m_h m_c m_s m_le m_un m_he m_ro m_wi m_hi m_hr m_hp m_rn m_rw m_rh m_n m_l m_b m_to m_hs m_ho m_tx m_ik m_wt m_ac m_ap m_pa m_im m_ri) H → va_S (mAd ad) s.heap H locs → lv_has ls 6 [(0, .ref (ad 0)), (1, .int y1), (2, .int y2), (3, .long y3), (5, .int x5)] → W p l e (rmS 3 74) s m args below meth c H locs 0 0 Q (F0 m 124 ls []) := by
  obtain ⟨hx, hb, hml, hrt, hlocks, hown, hts, hk⟩ := C
  intro n
  induction n with
  | zero =>
    intro x5 m_ri H locs ls hf
    exact absurd hf.1 (Nat.lt_irrefl 0)
  | succ n ih =>
    intro x5 m_ri H locs ls hf hr hP hS hl
    rw [F_X8_laysRings_124] at hr
    refine lv_iload hx hb dX8_laysRings_124 (lv_at hl 4 rfl) ?_
    refine lv_iload_n hx hb dX8_laysRings_126 rfl (lv_at hl 1 rfl) ?_
    refine lv_icmp_lt (tgt := 169) hx hb dX8_laysRings_127 (by decide) (fun c127 => ?_) (fun c127 => ?_)
    · have hr := (if_pos c127).symm.trans hr
      exact h0 x5 m_ri _ _ _ hf.2.2 hr hP hS (lv_sub hl [0, 1, 2, 3, 4] rfl)
    · have hr := (if_neg c127).symm.trans hr
      refine lv_aload_n hx hb dX8_laysRings_130 rfl (lv_at hl 0 rfl) ?_
      refine va_get (D := D) (ci := 8) (v := .ref (ad 8)) (C := RX8) (T := TX8) (N := 29) hx hb hts u_X8 hown hk.1 hP 0 rfl rfl 24 (by decide) (hts _ q4_36) (fun _ h9 => h9) rfl dX8_laysRings_131 ?_
      refine lv_iload hx hb dX8_laysRings_134 (lv_at hl 4 rfl) ?_
      refine lv_iload_n hx hb dX8_laysRings_136 rfl (lv_at hl 1 rfl) ?_
      refine lv_isub hx hb dX8_laysRings_137 ?_
      refine va_lald hx hb hk.1 hP 8 1 (rfl) rfl (aa_v hf hy c127) dX8_laysRings_138 ?_
      refine lv_lload_n hx hb dX8_laysRings_139 rfl (lv_at hl 3 rfl) ?_
      refine W.lcmp hx hb dX8_laysRings_140 ?_
      refine lv_if_le (tgt := 169) hx hb dX8_laysRings_141 (by decide) (fun c141 => ?_) (fun c141 => ?_)
      · have hr := (if_pos c141).symm.trans hr
        exact h0 x5 m_ri _ _ _ hf.2.2 hr hP hS (lv_sub hl [0, 1, 2, 3, 4] rfl)
      · have hr := (if_neg c141).symm.trans hr
        refine lv_aload_n hx hb dX8_laysRings_144 rfl (lv_at hl 0 rfl) ?_
        refine va_get (D := D) (ci := 8) (v := .ref (ad 8)) (C := RX8) (T := TX8) (N := 29) hx hb hts u_X8 hown hk.1 hP 0 rfl rfl 24 (by decide) (hts _ q4_36) (fun _ h9 => h9) rfl dX8_laysRings_145 ?_
        refine lv_iload hx hb dX8_laysRings_148 (lv_at hl 4 rfl) ?_
        refine lv_aload_n hx hb dX8_laysRings_150 rfl (lv_at hl 0 rfl) ?_
        refine va_get (D := D) (ci := 8) (v := .ref (ad 8)) (C := RX8) (T := TX8) (N := 29) hx hb hts u_X8 hown hk.1 hP 0 rfl rfl 24 (by decide) (hts _ q4_36) (fun _ h9 => h9) rfl dX8_laysRings_151 ?_
        refine lv_iload hx hb dX8_laysRings_154 (lv_at hl 4 rfl) ?_
        refine lv_iload_n hx hb dX8_laysRings_156 rfl (lv_at hl 1 rfl) ?_
        refine lv_isub hx hb dX8_laysRings_157 ?_
        refine va_lald hx hb hk.1 hP 8 1 (rfl) rfl (aa_v hf hy c127) dX8_laysRings_158 ?_
        refine va_last hx hb hk.1 hP (mw_D hAd) hS 8 1 (rfl) rfl (vin hf.2.2.1 hf.2.2.2) dX8_laysRings_159 (fun H locs hP _ hS => ?_)
        have hP : va_P D vwCl (mw ad cI cL cZ m_w m_h m_c m_s m_le m_un m_he m_ro m_wi m_hi m_hr m_hp m_rn m_rw m_rh m_n m_l m_b m_to m_hs m_ho m_tx m_ik m_wt m_ac m_ap m_pa m_im (vp_updL m_ri x5.toNatClampNeg (m_ri (x5 - y1).toNatClampNeg))) H := hP
        refine lv_iload hx hb dX8_laysRings_160 (lv_at hl 4 rfl) ?_
        refine lv_iload_n hx hb dX8_laysRings_162 rfl (lv_at hl 1 rfl) ?_
        refine lv_isub hx hb dX8_laysRings_163 ?_
        refine lv_istore (lv' := [(5, .int (x5 - y1)), (0, .ref (ad 0)), (1, .int y1), (2, .int y2), (3, .long y3)]) hx hb dX8_laysRings_164 hl (by decide) rfl (fun ls hl => ?_)
        refine lv_goto (tgt := 124) hx hb dX8_laysRings_166 (by decide) ?_
        exact ih (x5 - y1) (vp_updL m_ri x5.toNatClampNeg (m_ri (x5 - y1).toNatClampNeg)) _ _ _ (aa_s hf hy c127) hr hP hS (lv_sub hl [1, 2, 3, 4, 0] rfl)
set_option maxHeartbeats 4000000 in
set_option maxRecDepth 100000 in
theorem lp_X8_laysRings_106 (l : Launch) (D : va_G) (cI cL cZ : ClassId) (ad : Nat → Nat) (m_w m_h m_c m_s m_le m_un m_he m_ro m_wi m_hi m_hr m_hp m_rn m_rw m_rh : Int32) (m_n m_l m_b m_to m_hs : Int64) (m_ho m_tx m_ik m_wt : Nat → Int32) (m_ac m_ap m_pa m_im : Nat → Int64) {p : Program} {e : Env} {s : State} {m : MethodId} {args : Array Value} {below : List Frame} {meth : Method} {c : Code} {Q : State → Prop} (C : Cx p s m args meth c cX8_laysRings 6 none W0 RX8 D cI cL cZ) (hAd : mInj ad) (y1 : Int32) (hn : 0 ≤ m_rn.toInt ∧ m_rn.toInt ≤ 9400) (hy : 0 < y1.toInt) {β : Type} (k0 : (Nat → Int64) → β) (r : β)
    (h0 : ∀ (m_ri : Nat → Int64) (H : Heap) (locs : List Loc) (ls : Array Slot), k0 m_ri = r → va_P D vwCl (mw ad cI cL cZ m_w m_h m_c m_s m_le m_un m_he m_ro m_wi m_hi m_hr m_hp m_rn m_rw m_rh m_n m_l m_b m_to m_hs m_ho m_tx m_ik m_wt m_ac m_ap m_pa m_im m_ri) H → va_S (mAd ad) s.heap H locs → lv_has ls 6 [(0, .ref (ad 0)), (1, .int y1)] → W p l e (rmS 3 74) s m args below meth c H locs 0 0 Q (F0 m 183 ls [])) :
    ∀ (n : Nat) (x2 : Int32) (m_ri : Nat → Int64) (H : Heap) (locs : List Loc) (ls : Array Slot), fuU n m_rn x2 → F_X8_laysRings_106 y1 m_rn k0 n x2 m_ri = r → va_P D vwCl (mw ad cI cL cZ m_w m_h m_c m_s m_le m_un m_he m_ro m_wi m_hi m_hr m_hp m_rn m_rw m_rh m_n m_l m_b m_to m_hs m_ho m_tx m_ik m_wt m_ac m_ap m_pa m_im m_ri) H → va_S (mAd ad) s.heap H locs → lv_has ls 6 [(0, .ref (ad 0)), (1, .int y1), (2, .int x2)] → W p l e (rmS 3 74) s m args below meth c H locs 0 0 Q (F0 m 106 ls []) := by
  obtain ⟨hx, hb, hml, hrt, hlocks, hown, hts, hk⟩ := C
  intro n
  induction n with
  | zero =>
    intro x2 m_ri H locs ls hf
    exact absurd hf.1 (Nat.lt_irrefl 0)
  | succ n ih =>
    intro x2 m_ri H locs ls hf hr hP hS hl
    rw [F_X8_laysRings_106] at hr
    refine lv_iload_n hx hb dX8_laysRings_106 rfl (lv_at hl 2 rfl) ?_
    refine lv_aload_n hx hb dX8_laysRings_107 rfl (lv_at hl 0 rfl) ?_
    refine va_get (D := D) (ci := 8) (v := .int m_rn) (C := RX8) (T := TX8) (N := 29) hx hb hts u_X8 hown hk.1 hP 0 rfl rfl 25 (by decide) (hts _ q4_37) (fun _ h9 => h9) rfl dX8_laysRings_108 ?_
    refine lv_icmp_ge (tgt := 183) hx hb dX8_laysRings_111 (by decide) (fun c111 => ?_) (fun c111 => ?_)
    · have hr := (if_pos c111).symm.trans hr
      exact h0 m_ri _ _ _ hr hP hS (lv_sub hl [0, 1] rfl)
    · have hr := (if_neg c111).symm.trans hr
      refine lv_aload_n hx hb dX8_laysRings_114 rfl (lv_at hl 0 rfl) ?_
      refine va_get (D := D) (ci := 8) (v := .ref (ad 8)) (C := RX8) (T := TX8) (N := 29) hx hb hts u_X8 hown hk.1 hP 0 rfl rfl 24 (by decide) (hts _ q4_36) (fun _ h9 => h9) rfl dX8_laysRings_115 ?_
      refine lv_iload_n hx hb dX8_laysRings_118 rfl (lv_at hl 2 rfl) ?_
      refine va_lald hx hb hk.1 hP 8 1 (rfl) rfl (vin_c hf.2.2 c111 hn.2) dX8_laysRings_119 ?_
      refine lv_lstore_n (lv' := [(3, .long (m_ri x2.toNatClampNeg)), (0, .ref (ad 0)), (1, .int y1), (2, .int x2)]) hx hb dX8_laysRings_120 rfl hl (by decide) rfl (fun ls hl => ?_)
      refine lv_iload_n hx hb dX8_laysRings_121 rfl (lv_at hl 3 rfl) ?_
      refine lv_istore (lv' := [(5, .int x2), (3, .long (m_ri x2.toNatClampNeg)), (0, .ref (ad 0)), (1, .int y1), (2, .int x2)]) hx hb dX8_laysRings_122 hl (by decide) rfl (fun ls hl => ?_)
      refine lp_X8_laysRings_124 l D cI cL cZ ad m_w m_h m_c m_s m_le m_un m_he m_ro m_wi m_hi m_hr m_hp m_rn m_rw m_rh m_n m_l m_b m_to m_hs m_ho m_tx m_ik m_wt m_ac m_ap m_pa m_im ⟨hx, hb, hml, hrt, hlocks, hown, hts, hk⟩ hAd y1 x2 (m_ri x2.toNatClampNeg) hy _ _ (fun z3 z4 H locs ls hz5 hr hP hS hl => ?_) (x2.toInt.toNat + 1) x2 m_ri _ _ _ (aa_0 hf.2.2 (rn_lt c111 hn)) hr hP hS (lv_sub hl [2, 3, 4, 1, 0] rfl)
      refine lv_aload_n hx hb dX8_laysRings_169 rfl (lv_at hl 0 rfl) ?_
      refine va_get (D := D) (ci := 8) (v := .ref (ad 8)) (C := RX8) (T := TX8) (N := 29) hx hb hts u_X8 hown hk.1 hP 0 rfl rfl 24 (by decide) (hts _ q4_36) (fun _ h9 => h9) rfl dX8_laysRings_170 ?_
      refine lv_iload hx hb dX8_laysRings_173 (lv_at hl 4 rfl) ?_
      refine lv_lload_n hx hb dX8_laysRings_175 rfl (lv_at hl 3 rfl) ?_
      refine va_last hx hb hk.1 hP (mw_D hAd) hS 8 1 (rfl) rfl (vin hz5.1 hz5.2) dX8_laysRings_176 (fun H locs hP _ hS => ?_)
      have hP : va_P D vwCl (mw ad cI cL cZ m_w m_h m_c m_s m_le m_un m_he m_ro m_wi m_hi m_hr m_hp m_rn m_rw m_rh m_n m_l m_b m_to m_hs m_ho m_tx m_ik m_wt m_ac m_ap m_pa m_im (vp_updL z4 z3.toNatClampNeg (m_ri x2.toNatClampNeg))) H := hP
      refine lv_iinc (v := x2 + 1) (lv' := [(2, .int (x2 + 1)), (0, .ref (ad 0)), (1, .int y1), (3, .long (m_ri x2.toNatClampNeg)), (5, .int z3)]) hx hb dX8_laysRings_177 hl (k := 2) rfl rfl (by decide) rfl (fun ls hl => ?_)
      refine lv_goto (tgt := 106) hx hb dX8_laysRings_180 (by decide) ?_
      exact ih (x2 + 1) (vp_updL z4 z3.toNatClampNeg (m_ri x2.toNatClampNeg)) _ _ _ (fuU_s hf c111) hr hP hS (lv_sub hl [1, 2, 0] rfl)
set_option maxHeartbeats 4000000 in
set_option maxRecDepth 100000 in
theorem lp_X8_laysRings_100 (l : Launch) (D : va_G) (cI cL cZ : ClassId) (ad : Nat → Nat) (m_w m_h m_c m_s m_le m_un m_he m_ro m_wi m_hi m_hr m_hp m_rn m_rw m_rh : Int32) (m_n m_l m_b m_to m_hs : Int64) (m_ho m_tx m_ik m_wt : Nat → Int32) (m_ac m_ap m_pa m_im : Nat → Int64) {p : Program} {e : Env} {s : State} {m : MethodId} {args : Array Value} {below : List Frame} {meth : Method} {c : Code} {Q : State → Prop} (C : Cx p s m args meth c cX8_laysRings 6 none W0 RX8 D cI cL cZ) (hAd : mInj ad) (hn : 0 ≤ m_rn.toInt ∧ m_rn.toInt ≤ 9400) {β : Type} (k0 : (Nat → Int64) → β) (r : β)
    (h0 : ∀ (m_ri : Nat → Int64) (H : Heap) (locs : List Loc) (ls : Array Slot), k0 m_ri = r → va_P D vwCl (mw ad cI cL cZ m_w m_h m_c m_s m_le m_un m_he m_ro m_wi m_hi m_hr m_hp m_rn m_rw m_rh m_n m_l m_b m_to m_hs m_ho m_tx m_ik m_wt m_ac m_ap m_pa m_im m_ri) H → va_S (mAd ad) s.heap H locs → lv_has ls 6 [] → W p l e (rmS 3 74) s m args below meth c H locs 0 0 Q (F0 m 190 ls [])) :
    ∀ (n : Nat) (x1 : Int32) (m_ri : Nat → Int64) (H : Heap) (locs : List Loc) (ls : Array Slot), gaC n x1 → F_X8_laysRings_100 m_rn k0 n x1 m_ri = r → va_P D vwCl (mw ad cI cL cZ m_w m_h m_c m_s m_le m_un m_he m_ro m_wi m_hi m_hr m_hp m_rn m_rw m_rh m_n m_l m_b m_to m_hs m_ho m_tx m_ik m_wt m_ac m_ap m_pa m_im m_ri) H → va_S (mAd ad) s.heap H locs → lv_has ls 6 [(0, .ref (ad 0)), (1, .int x1)] → W p l e (rmS 3 74) s m args below meth c H locs 0 0 Q (F0 m 100 ls []) := by
  obtain ⟨hx, hb, hml, hrt, hlocks, hown, hts, hk⟩ := C
  intro n
  induction n with
  | zero =>
    intro x1 m_ri H locs ls hf
    exact absurd hf.1 (Nat.lt_irrefl 0)
  | succ n ih =>
    intro x1 m_ri H locs ls hf hr hP hS hl
    rw [F_X8_laysRings_100] at hr
    refine lv_iload_n hx hb dX8_laysRings_100 rfl (lv_at hl 1 rfl) ?_
    refine lv_if_le (tgt := 190) hx hb dX8_laysRings_101 (by decide) (fun c101 => ?_) (fun c101 => ?_)
    · have hr := (if_pos c101).symm.trans hr
      exact h0 m_ri _ _ _ hr hP hS (lv_sub hl [] rfl)
    · have hr := (if_neg c101).symm.trans hr
      refine lv_iload_n hx hb dX8_laysRings_104 rfl (lv_at hl 1 rfl) ?_
      refine lv_istore_n (lv' := [(2, .int x1), (0, .ref (ad 0)), (1, .int x1)]) hx hb dX8_laysRings_105 rfl hl (by decide) rfl (fun ls hl => ?_)
      refine lp_X8_laysRings_106 l D cI cL cZ ad m_w m_h m_c m_s m_le m_un m_he m_ro m_wi m_hi m_hr m_hp m_rn m_rw m_rh m_n m_l m_b m_to m_hs m_ho m_tx m_ik m_wt m_ac m_ap m_pa m_im ⟨hx, hb, hml, hrt, hlocks, hown, hts, hk⟩ hAd x1 hn (ga_p c101) _ _ (fun z5 H locs ls hr hP hS hl => ?_) (fu m_rn x1) x1 m_ri _ _ _ (fuU_0 (Int.le_of_lt (ga_p c101))) hr hP hS (lv_sub hl [1, 2, 0] rfl)
      refine lv_iload_n hx hb dX8_laysRings_183 rfl (lv_at hl 1 rfl) ?_
      refine lv_iconst (v := 2) hx hb dX8_laysRings_184 (by decide) ?_
      refine lv_idiv hx hb dX8_laysRings_185 (by decide) ?_
      refine lv_istore_n (lv' := [(1, .int (x1 / 2)), (0, .ref (ad 0))]) hx hb dX8_laysRings_186 rfl hl (by decide) rfl (fun ls hl => ?_)
      refine lv_goto (tgt := 100) hx hb dX8_laysRings_187 (by decide) ?_
      exact ih (x1 / 2) z5 _ _ _ (ga_s hf c101) hr hP hS (lv_sub hl [1, 0] rfl)
set_option maxHeartbeats 4000000 in
set_option maxRecDepth 100000 in
theorem c_X8_laysRings (l : Launch) (D : va_G) (cI cL cZ : ClassId) (ad : Nat → Nat) (m_w m_h m_c m_s m_le m_un m_he m_ro m_wi m_hi m_hr m_hp m_rn m_rw m_rh : Int32) (m_n m_l m_b m_to m_hs : Int64) (m_ho m_tx m_ik m_wt : Nat → Int32) (m_ac m_ap m_pa m_im m_ri : Nat → Int64) (hAd : mInj ad) (r : Int32 × Int32 × Int32 × (Nat → Int64)) (hr : f_X8_laysRings m_w m_h m_c m_s m_rn m_rw m_rh m_ho m_ap m_ri = r) (hg : mG m_w m_h m_c m_s) (hR : hRc m_w m_h m_c m_s m_ho m_ap) : MV l yX8_laysRings (Cond.code yX8_laysRings cX8_laysRings 6 none :: W0) 3 74 D cI cL cZ (mAd ad) [.ref (ad 0)] (mw ad cI cL cZ m_w m_h m_c m_s m_le m_un m_he m_ro m_wi m_hi m_hr m_hp m_rn m_rw m_rh m_n m_l m_b m_to m_hs m_ho m_tx m_ik m_wt m_ac m_ap m_pa m_im m_ri) (mw ad cI cL cZ m_w m_h m_c m_s m_le m_un m_he m_ro m_wi m_hi m_hr m_hp r.1 r.2.1 r.2.2.1 m_n m_l m_b m_to m_hs m_ho m_tx m_ik m_wt m_ac m_ap m_pa m_im r.2.2.2) := by
  refine mk_start (cc := cX8_laysRings) (maxL := 6) (ret := none) (by decide) rfl (Nat.le_of_ble_eq_true rfl) ?_
  intro p e s m below meth c ls C hP hS hl
  obtain ⟨hx, hb, hml, hrt, hlocks, hown, hts, hk⟩ := C
  have hown : s.vm.findClass RX8 = some m.cls := hown
  have hl : lv_has ls 6 [(0, .ref (ad 0))] := hl
  rw [f_X8_laysRings] at hr
  refine lv_aload_n hx hb dX8_laysRings_0 rfl (lv_at hl 0 rfl) ?_
  refine va_get (D := D) (ci := 8) (v := .int m_rw) (C := RX8) (T := TX8) (N := 29) hx hb hts u_X8 hown hk.1 hP 0 rfl rfl 26 (by decide) (hts _ q4_38) (fun _ h9 => h9) rfl dX8_laysRings_1 ?_
  refine lv_aload_n hx hb dX8_laysRings_4 rfl (lv_at hl 0 rfl) ?_
  refine va_get (D := D) (ci := 8) (v := .int m_w) (C := RX8) (T := TX8) (N := 29) hx hb hts u_X8 hown hk.1 hP 0 rfl rfl 3 (by decide) (hts _ q4_15) (fun _ h9 => h9) rfl dX8_laysRings_5 ?_
  refine lv_icmp_ne (tgt := 23) hx hb dX8_laysRings_8 (by decide) (fun c8 => ?_) (fun c8 => ?_)
  · have hr := (if_neg c8).symm.trans hr
    refine lv_aload_n hx hb dX8_laysRings_23 rfl (lv_at hl 0 rfl) ?_
    refine lv_aload_n hx hb dX8_laysRings_24 rfl (lv_at hl 0 rfl) ?_
    refine va_get (D := D) (ci := 8) (v := .int m_w) (C := RX8) (T := TX8) (N := 29) hx hb hts u_X8 hown hk.1 hP 0 rfl rfl 3 (by decide) (hts _ q4_15) (fun _ h9 => h9) rfl dX8_laysRings_25 ?_
    refine va_put (D := D) (ci := 8) (v := .int m_w) (ty := .int) (C := RX8) (T := TX8) (N := 29) hx hb hts u_X8 tyX8 tyX8_ok nmX8 hown hk.1 hP (mw_D hAd) hS 0 rfl rfl 26 (by decide) (hts _ q4_38) (fun _ h9 => h9) rfl (tyX8_ok 26 (by decide)) rfl rfl (Nat.le_of_ble_eq_true rfl) dX8_laysRings_28 (fun H locs hP _ hS => ?_)
    have hP : va_P D vwCl (mw ad cI cL cZ m_w m_h m_c m_s m_le m_un m_he m_ro m_wi m_hi m_hr m_hp m_rn m_w m_rh m_n m_l m_b m_to m_hs m_ho m_tx m_ik m_wt m_ac m_ap m_pa m_im m_ri) H := hP
    refine lv_aload_n hx hb dX8_laysRings_31 rfl (lv_at hl 0 rfl) ?_
    refine lv_aload_n hx hb dX8_laysRings_32 rfl (lv_at hl 0 rfl) ?_
    refine va_get (D := D) (ci := 8) (v := .int m_h) (C := RX8) (T := TX8) (N := 29) hx hb hts u_X8 hown hk.1 hP 0 rfl rfl 4 (by decide) (hts _ q4_16) (fun _ h9 => h9) rfl dX8_laysRings_33 ?_
    refine va_put (D := D) (ci := 8) (v := .int m_h) (ty := .int) (C := RX8) (T := TX8) (N := 29) hx hb hts u_X8 tyX8 tyX8_ok nmX8 hown hk.1 hP (mw_D hAd) hS 0 rfl rfl 27 (by decide) (hts _ q4_39) (fun _ h9 => h9) rfl (tyX8_ok 27 (by decide)) rfl rfl (Nat.le_of_ble_eq_true rfl) dX8_laysRings_36 (fun H locs hP _ hS => ?_)
    have hP : va_P D vwCl (mw ad cI cL cZ m_w m_h m_c m_s m_le m_un m_he m_ro m_wi m_hi m_hr m_hp m_rn m_w m_h m_n m_l m_b m_to m_hs m_ho m_tx m_ik m_wt m_ac m_ap m_pa m_im m_ri) H := hP
    refine lv_aload_n hx hb dX8_laysRings_39 rfl (lv_at hl 0 rfl) ?_
    refine lv_iconst (v := 0) hx hb dX8_laysRings_40 (by decide) ?_
    refine va_put (D := D) (ci := 8) (v := .int 0) (ty := .int) (C := RX8) (T := TX8) (N := 29) hx hb hts u_X8 tyX8 tyX8_ok nmX8 hown hk.1 hP (mw_D hAd) hS 0 rfl rfl 25 (by decide) (hts _ q4_37) (fun _ h9 => h9) rfl (tyX8_ok 25 (by decide)) rfl rfl (Nat.le_of_ble_eq_true rfl) dX8_laysRings_41 (fun H locs hP _ hS => ?_)
    have hP : va_P D vwCl (mw ad cI cL cZ m_w m_h m_c m_s m_le m_un m_he m_ro m_wi m_hi m_hr m_hp 0 m_w m_h m_n m_l m_b m_to m_hs m_ho m_tx m_ik m_wt m_ac m_ap m_pa m_im m_ri) H := hP
    refine lv_iconst (v := 1) hx hb dX8_laysRings_44 (by decide) ?_
    refine lv_istore_n (lv' := [(1, .int 1), (0, .ref (ad 0))]) hx hb dX8_laysRings_45 rfl hl (by decide) rfl (fun ls hl => ?_)
    refine lp_X8_laysRings_46 l D cI cL cZ ad m_w m_h m_c m_s m_le m_un m_he m_ro m_wi m_hi m_hr m_hp m_w m_h m_n m_l m_b m_to m_hs m_ho m_tx m_ik m_wt m_ac m_ap m_pa m_im ⟨hx, hb, hml, hrt, hlocks, hown, hts, hk⟩ hAd hg hR _ _ (fun z1 z2 H locs ls hn hr hP hS hl => ?_) (fu (1 <<< (m_c &&& 31)) (1 : Int32)) 1 0 m_ri _ _ _ (la_0 hg) hr hP hS (lv_sub hl [1, 0] rfl)
    refine lv_sipush (v := 4096) hx hb dX8_laysRings_96 (by decide) ?_
    refine lv_istore_n (lv' := [(1, .int 4096), (0, .ref (ad 0))]) hx hb dX8_laysRings_99 rfl hl (by decide) rfl (fun ls hl => ?_)
    refine lp_X8_laysRings_100 l D cI cL cZ ad m_w m_h m_c m_s m_le m_un m_he m_ro m_wi m_hi m_hr m_hp z1 m_w m_h m_n m_l m_b m_to m_hs m_ho m_tx m_ik m_wt m_ac m_ap m_pa m_im ⟨hx, hb, hml, hrt, hlocks, hown, hts, hk⟩ hAd hn _ _ (fun z6 H locs ls hr hP hS hl => ?_) ((4096 : Int32).toInt.toNat + 1) 4096 z2 _ _ _ ⟨by decide, by decide, by decide⟩ hr hP hS (lv_sub hl [1, 0] rfl)
    subst hr
    exact ret_v hx hb hrt hlocks hP hS dX8_laysRings_190
  · have hr := (if_pos c8).symm.trans hr
    refine lv_aload_n hx hb dX8_laysRings_11 rfl (lv_at hl 0 rfl) ?_
    refine va_get (D := D) (ci := 8) (v := .int m_rh) (C := RX8) (T := TX8) (N := 29) hx hb hts u_X8 hown hk.1 hP 0 rfl rfl 27 (by decide) (hts _ q4_39) (fun _ h9 => h9) rfl dX8_laysRings_12 ?_
    refine lv_aload_n hx hb dX8_laysRings_15 rfl (lv_at hl 0 rfl) ?_
    refine va_get (D := D) (ci := 8) (v := .int m_h) (C := RX8) (T := TX8) (N := 29) hx hb hts u_X8 hown hk.1 hP 0 rfl rfl 4 (by decide) (hts _ q4_16) (fun _ h9 => h9) rfl dX8_laysRings_16 ?_
    refine lv_icmp_ne (tgt := 23) hx hb dX8_laysRings_19 (by decide) (fun c19 => ?_) (fun c19 => ?_)
    · have hr := (if_neg c19).symm.trans hr
      refine lv_aload_n hx hb dX8_laysRings_23 rfl (lv_at hl 0 rfl) ?_
      refine lv_aload_n hx hb dX8_laysRings_24 rfl (lv_at hl 0 rfl) ?_
      refine va_get (D := D) (ci := 8) (v := .int m_w) (C := RX8) (T := TX8) (N := 29) hx hb hts u_X8 hown hk.1 hP 0 rfl rfl 3 (by decide) (hts _ q4_15) (fun _ h9 => h9) rfl dX8_laysRings_25 ?_
      refine va_put (D := D) (ci := 8) (v := .int m_w) (ty := .int) (C := RX8) (T := TX8) (N := 29) hx hb hts u_X8 tyX8 tyX8_ok nmX8 hown hk.1 hP (mw_D hAd) hS 0 rfl rfl 26 (by decide) (hts _ q4_38) (fun _ h9 => h9) rfl (tyX8_ok 26 (by decide)) rfl rfl (Nat.le_of_ble_eq_true rfl) dX8_laysRings_28 (fun H locs hP _ hS => ?_)
      have hP : va_P D vwCl (mw ad cI cL cZ m_w m_h m_c m_s m_le m_un m_he m_ro m_wi m_hi m_hr m_hp m_rn m_w m_rh m_n m_l m_b m_to m_hs m_ho m_tx m_ik m_wt m_ac m_ap m_pa m_im m_ri) H := hP
      refine lv_aload_n hx hb dX8_laysRings_31 rfl (lv_at hl 0 rfl) ?_
      refine lv_aload_n hx hb dX8_laysRings_32 rfl (lv_at hl 0 rfl) ?_
      refine va_get (D := D) (ci := 8) (v := .int m_h) (C := RX8) (T := TX8) (N := 29) hx hb hts u_X8 hown hk.1 hP 0 rfl rfl 4 (by decide) (hts _ q4_16) (fun _ h9 => h9) rfl dX8_laysRings_33 ?_
      refine va_put (D := D) (ci := 8) (v := .int m_h) (ty := .int) (C := RX8) (T := TX8) (N := 29) hx hb hts u_X8 tyX8 tyX8_ok nmX8 hown hk.1 hP (mw_D hAd) hS 0 rfl rfl 27 (by decide) (hts _ q4_39) (fun _ h9 => h9) rfl (tyX8_ok 27 (by decide)) rfl rfl (Nat.le_of_ble_eq_true rfl) dX8_laysRings_36 (fun H locs hP _ hS => ?_)
      have hP : va_P D vwCl (mw ad cI cL cZ m_w m_h m_c m_s m_le m_un m_he m_ro m_wi m_hi m_hr m_hp m_rn m_w m_h m_n m_l m_b m_to m_hs m_ho m_tx m_ik m_wt m_ac m_ap m_pa m_im m_ri) H := hP
      refine lv_aload_n hx hb dX8_laysRings_39 rfl (lv_at hl 0 rfl) ?_
      refine lv_iconst (v := 0) hx hb dX8_laysRings_40 (by decide) ?_
      refine va_put (D := D) (ci := 8) (v := .int 0) (ty := .int) (C := RX8) (T := TX8) (N := 29) hx hb hts u_X8 tyX8 tyX8_ok nmX8 hown hk.1 hP (mw_D hAd) hS 0 rfl rfl 25 (by decide) (hts _ q4_37) (fun _ h9 => h9) rfl (tyX8_ok 25 (by decide)) rfl rfl (Nat.le_of_ble_eq_true rfl) dX8_laysRings_41 (fun H locs hP _ hS => ?_)
      have hP : va_P D vwCl (mw ad cI cL cZ m_w m_h m_c m_s m_le m_un m_he m_ro m_wi m_hi m_hr m_hp 0 m_w m_h m_n m_l m_b m_to m_hs m_ho m_tx m_ik m_wt m_ac m_ap m_pa m_im m_ri) H := hP
      refine lv_iconst (v := 1) hx hb dX8_laysRings_44 (by decide) ?_
      refine lv_istore_n (lv' := [(1, .int 1), (0, .ref (ad 0))]) hx hb dX8_laysRings_45 rfl hl (by decide) rfl (fun ls hl => ?_)
      refine lp_X8_laysRings_46 l D cI cL cZ ad m_w m_h m_c m_s m_le m_un m_he m_ro m_wi m_hi m_hr m_hp m_w m_h m_n m_l m_b m_to m_hs m_ho m_tx m_ik m_wt m_ac m_ap m_pa m_im ⟨hx, hb, hml, hrt, hlocks, hown, hts, hk⟩ hAd hg hR _ _ (fun z7 z8 H locs ls hn hr hP hS hl => ?_) (fu (1 <<< (m_c &&& 31)) (1 : Int32)) 1 0 m_ri _ _ _ (la_0 hg) hr hP hS (lv_sub hl [1, 0] rfl)
      refine lv_sipush (v := 4096) hx hb dX8_laysRings_96 (by decide) ?_
      refine lv_istore_n (lv' := [(1, .int 4096), (0, .ref (ad 0))]) hx hb dX8_laysRings_99 rfl hl (by decide) rfl (fun ls hl => ?_)
      refine lp_X8_laysRings_100 l D cI cL cZ ad m_w m_h m_c m_s m_le m_un m_he m_ro m_wi m_hi m_hr m_hp z7 m_w m_h m_n m_l m_b m_to m_hs m_ho m_tx m_ik m_wt m_ac m_ap m_pa m_im ⟨hx, hb, hml, hrt, hlocks, hown, hts, hk⟩ hAd hn _ _ (fun z9 H locs ls hr hP hS hl => ?_) ((4096 : Int32).toInt.toNat + 1) 4096 z8 _ _ _ ⟨by decide, by decide, by decide⟩ hr hP hS (lv_sub hl [1, 0] rfl)
      subst hr
      exact ret_v hx hb hrt hlocks hP hS dX8_laysRings_190
    · have hr := (if_pos c19).symm.trans hr
      subst hr
      exact ret_v hx hb hrt hlocks hP hS dX8_laysRings_22
