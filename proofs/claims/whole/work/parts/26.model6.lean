theorem F_readsRow_ex (m_le m_ro m_wi : Int32) (m_tx : Nat → Int32) {β : Type} (k : Int32 → Int32 → Int64 → β) : ∀ (n : Nat) (x he : Int32) (to : Int64), ∃ (x' he' : Int32) (to' : Int64), (0 ≤ he.toInt → 0 ≤ he'.toInt) ∧ F_X8_readsRow_2 m_le m_ro m_wi m_tx k n x he to = k x' he' to' := by
  intro n
  induction n with
  | zero => intro x he to; exact ⟨x, he, to, id, rfl⟩
  | succ n ih =>
    intro x he to
    rw [F_X8_readsRow_2, bd]
    have key : ∀ (x2 : Int32) (to2 : Int64), ¬ (f_X8_isSign m_le he m_tx).1 = 0 → ∃ (x' he' : Int32) (to' : Int64), (0 ≤ he.toInt → 0 ≤ he'.toInt) ∧ F_X8_readsRow_2 m_le m_ro m_wi m_tx k n x2 ((f_X8_isSign m_le he m_tx).2 + 1) to2 = k x' he' to' := by
      intro x2 to2 hc
      obtain ⟨a, b, c, h1, h2⟩ := ih x2 ((f_X8_isSign m_le he m_tx).2 + 1) to2
      exact ⟨a, b, c, fun h0 => h1 (inc_nn (isSign_nn rfl h0) (isSign_lt rfl hc)), h2⟩
    split
    · exact ⟨_, _, _, fun h0 => isSign_nn rfl h0, rfl⟩
    · rename_i hc
      repeat' split
      all_goals first | exact key _ _ hc | exact ⟨_, _, _, fun h0 => isSign_nn rfl h0, rfl⟩
theorem readsRow_sp {m_le m_he m_ro m_wi : Int32} {m_to : Int64} {m_tx : Nat → Int32} {u : Int32 × Int32 × Int32 × Int32 × Int64} (h : f_X8_readsRow m_le m_he m_ro m_wi m_to m_tx = u) (h0 : 0 ≤ m_he.toInt) : 0 ≤ u.2.1.toInt ∧ (u.1 = 0 → u.2.2.1 = m_ro) ∧ (¬ u.1 = 0 → u.2.2.1 = m_ro + 1) := by
  rw [← h, f_X8_readsRow]
  obtain ⟨x', he', to', h1, e⟩ := F_readsRow_ex m_le m_ro m_wi m_tx (fun z2 z3 z4 => (bd (f_X8_isMore m_le z3 m_tx) (fun u5 => (if u5.1 = 0 then ((0 : Int32), u5.2, m_ro, m_wi, z4) else (if (m_tx u5.2.toNatClampNeg) = 59 then (if z2 ≤ 0 then (0, u5.2, m_ro, m_wi, z4) else (if m_ro = 0 then (1, u5.2 + 1, m_ro + 1, z2, z4) else (if z2 = m_wi then (1, u5.2 + 1, m_ro + 1, z2, z4) else (0, u5.2, m_ro, m_wi, z4)))) else (0, u5.2, m_ro, m_wi, z4)))))) (fu (rb m_ro m_wi) 0) 0 m_he m_to
  rw [e, bd]
  have g1 := isMore_nn (rfl : f_X8_isMore m_le he' m_tx = _) (h1 h0)
  split
  · exact ⟨g1, fun _ => rfl, fun q => absurd rfl q⟩
  · rename_i hc
    have g2 := inc_nn g1 (isMore_lt rfl hc)
    repeat' split
    all_goals first | exact ⟨g1, fun _ => rfl, fun q => absurd rfl q⟩ | exact ⟨g2, fun q => absurd (show (1 : Int32) = 0 from q) (by decide), fun _ => rfl⟩
abbrev rdC (n : Nat) (x ro he : Int32) : Prop := 0 < n ∧ (x = 0 ∨ 6 ≤ ro.toInt + (n : Int)) ∧ (0 ≤ ro.toInt ∧ ro.toInt ≤ 4) ∧ 0 ≤ he.toInt ∧ bz x
theorem rd_0 {n : Nat} {x ro ro' he he' : Int32} (hf : rdC (n + 1) x ro he) (hx : ¬ x = 0) (e : ro' = ro) (h : 0 ≤ he'.toInt) : rdC n 0 ro' he' := by
  subst e
  obtain ⟨-, h2, h3, -, -⟩ := hf
  rcases h2 with h2 | h2
  · exact absurd h2 hx
  · exact ⟨by omega, Or.inl rfl, h3, h, bz_0⟩
theorem rd_1 {n : Nat} {x ro ro' he he' : Int32} (hf : rdC (n + 1) x ro he) (hx : ¬ x = 0) (hr : ¬ (4 : Int32) ≤ ro) (e : ro' = ro + 1) (h : 0 ≤ he'.toInt) : rdC n 1 ro' he' := by
  obtain ⟨-, h2, h3, -, -⟩ := hf
  have h4 := lt_tt hr
  rw [show (4 : Int32).toInt = 4 from rfl] at h4
  have h5 : ro'.toInt = ro.toInt + 1 := by rw [e, i32_inc (i32_lt hr)]
  rcases h2 with h2 | h2
  · exact absurd h2 hx
  · exact ⟨by omega, Or.inr (by omega), by omega, h, bz_1⟩
theorem hd_X8_reads : yX8_reads.cls = RX8 ∧ yX8_reads.cls ≠ "java/lang/invoke/MethodHandle" ∧ yX8_reads.cls ≠ "java/lang/invoke/VarHandle" ∧ (parseMethodDescriptor yX8_reads.desc).map (fun d => d.parameters.length) = some 0 := by decide +kernel
def F_X8_reads_25 (m_le : Int32) (m_tx : Nat → Int32) {β : Type} (k0 : Int32 → Int32 → Int32 → Int32 → Int64 → β) : Nat → Int32 → Int32 → Int32 → Int32 → Int64 → β
  | 0, x1, m_he, m_ro, m_wi, m_to => k0 x1 m_he m_ro m_wi m_to
  | n + 1, x1, m_he, m_ro, m_wi, m_to => (if x1 = 0 then k0 x1 m_he m_ro m_wi m_to else (bd (f_X8_isMore m_le m_he m_tx) (fun u2 => (if u2.1 = 0 then k0 x1 u2.2 m_ro m_wi m_to else (if 4 ≤ m_ro then F_X8_reads_25 m_le m_tx k0 n 0 u2.2 m_ro m_wi m_to else (bd (f_X8_readsRow m_le u2.2 m_ro m_wi m_to m_tx) (fun u3 => (if u3.1 = 0 then F_X8_reads_25 m_le m_tx k0 n 0 u3.2.1 u3.2.2.1 u3.2.2.2.1 u3.2.2.2.2 else F_X8_reads_25 m_le m_tx k0 n 1 u3.2.1 u3.2.2.1 u3.2.2.2.1 u3.2.2.2.2))))))))
def f_X8_reads (m_le : Int32) (m_tx : Nat → Int32) : Int32 × Int32 × Int32 × Int32 × Int64 := (bd (f_X8_isMore m_le 0 m_tx) (fun u1 => F_X8_reads_25 m_le m_tx (fun z4 z5 z6 z7 z8 => (z4, z5, z6, z7, z8)) (6) u1.1 u1.2 0 0 0))
set_option maxHeartbeats 4000000 in
set_option maxRecDepth 100000 in
theorem lp_X8_reads_25 (l : Launch) (D : va_G) (cI cL cZ : ClassId) (ad : Nat → Nat) (m_w m_h m_c m_s m_le m_un m_hi m_hr m_hp m_rn m_rw m_rh : Int32) (m_n m_l m_b m_hs : Int64) (m_ho m_tx m_ik m_wt : Nat → Int32) (m_ac m_ap m_pa m_im m_ri : Nat → Int64) {p : Program} {e : Env} {s : State} {m : MethodId} {args : Array Value} {below : List Frame} {meth : Method} {c : Code} {Q : State → Prop} (C : Cx p s m args meth c cX8_reads 2 (some .boolean) W0 RX8 D cI cL cZ) (hAd : mInj ad) (hlen : m_le.toInt ≤ 40) {β : Type} (k0 : Int32 → Int32 → Int32 → Int32 → Int64 → β) (r : β)
    (h0 : ∀ (e1 m_he m_ro m_wi : Int32) (m_to : Int64) (H : Heap) (locs : List Loc) (ls : Array Slot), bz e1 → k0 e1 m_he m_ro m_wi m_to = r → va_P D vwCl (mw ad cI cL cZ m_w m_h m_c m_s m_le m_un m_he m_ro m_wi m_hi m_hr m_hp m_rn m_rw m_rh m_n m_l m_b m_to m_hs m_ho m_tx m_ik m_wt m_ac m_ap m_pa m_im m_ri) H → va_S (mAd ad) s.heap H locs → lv_has ls 2 [(1, .int e1)] → W p l e (rmS 3 68) s m args below meth c H locs 0 0 Q (F0 m 60 ls [])) :
    ∀ (n : Nat) (x1 m_he m_ro m_wi : Int32) (m_to : Int64) (H : Heap) (locs : List Loc) (ls : Array Slot), rdC n x1 m_ro m_he → F_X8_reads_25 m_le m_tx k0 n x1 m_he m_ro m_wi m_to = r → va_P D vwCl (mw ad cI cL cZ m_w m_h m_c m_s m_le m_un m_he m_ro m_wi m_hi m_hr m_hp m_rn m_rw m_rh m_n m_l m_b m_to m_hs m_ho m_tx m_ik m_wt m_ac m_ap m_pa m_im m_ri) H → va_S (mAd ad) s.heap H locs → lv_has ls 2 [(0, .ref (ad 0)), (1, .int x1)] → W p l e (rmS 3 68) s m args below meth c H locs 0 0 Q (F0 m 25 ls []) := by
  obtain ⟨hx, hb, hml, hrt, hlocks, hown, hts, hk⟩ := C
  intro n
  induction n with
  | zero =>
    intro x1 m_he m_ro m_wi m_to H locs ls hf
    exact absurd hf.1 (Nat.lt_irrefl 0)
  | succ n ih =>
    intro x1 m_he m_ro m_wi m_to H locs ls hf hr hP hS hl
    rw [F_X8_reads_25] at hr
    refine lv_iload_n hx hb dX8_reads_25 rfl (lv_at hl 1 rfl) ?_
    refine lv_if_eq (tgt := 60) hx hb dX8_reads_26 (by decide) (fun c26 => ?_) (fun c26 => ?_)
    · have hr := (if_pos c26).symm.trans hr
      exact h0 x1 m_he m_ro m_wi m_to _ _ _ hf.2.2.2.2 hr hP hS (lv_sub hl [1] rfl)
    · have hr := (if_neg c26).symm.trans hr
      refine lv_aload_n hx hb dX8_reads_29 rfl (lv_at hl 0 rfl) ?_
      obtain ⟨u2, hu2⟩ : ∃ z, f_X8_isMore m_le m_he m_tx = z := ⟨_, rfl⟩
      have hr := (bd_eq hu2).symm.trans hr
      refine go_z (ru_V (n := 0) ⟨hx, hb, hml, hown, hts⟩ hk hP (c_X8_isMore l D cI cL cZ ad m_w m_h m_c m_s m_le m_un m_he m_ro m_wi m_hi m_hr m_hp m_rn m_rw m_rh m_n m_l m_b m_to m_hs m_ho m_tx m_ik m_wt m_ac m_ap m_pa m_im m_ri hAd _ hu2 hf.2.2.2.1 hlen) (cwV 0 hts (gV q4_118 q4_120 qs3_5 q1_11 q4_121) rfl rfl rfl hd_X8_isMore ⟨Nat.le_of_ble_eq_true rfl, Nat.le_of_ble_eq_true rfl⟩) (va_recv hk.1 hP (ci := 8) (q0 := 0) rfl rfl) rfl hl.1 rfl (Nat.le_of_ble_eq_true rfl) dX8_reads_30 ⟨Nat.zero_le _, Nat.zero_le _⟩) hS (fun _ h => h) (fun H locs hz30 hP hS => ?_)
      have hP : va_P D vwCl (mw ad cI cL cZ m_w m_h m_c m_s m_le m_un u2.2 m_ro m_wi m_hi m_hr m_hp m_rn m_rw m_rh m_n m_l m_b m_to m_hs m_ho m_tx m_ik m_wt m_ac m_ap m_pa m_im m_ri) H := hP
      refine lv_if_eq (tgt := 60) hx hb dX8_reads_33 (by decide) (fun c33 => ?_) (fun c33 => ?_)
      · have hr := (if_pos c33).symm.trans hr
        exact h0 x1 u2.2 m_ro m_wi m_to _ _ _ hf.2.2.2.2 hr hP hS (lv_sub hl [1] rfl)
      · have hr := (if_neg c33).symm.trans hr
        refine lv_aload_n hx hb dX8_reads_36 rfl (lv_at hl 0 rfl) ?_
        refine va_get (D := D) (ci := 8) (v := .int m_ro) (C := RX8) (T := TX8) (N := 29) hx hb hts u_X8 hown hk.1 hP 0 rfl rfl 17 (by decide) (hts _ q4_29) (fun _ h9 => h9) rfl dX8_reads_37 ?_
        refine lv_iconst (v := 4) hx hb dX8_reads_40 (by decide) ?_
        refine lv_icmp_ge (tgt := 55) hx hb dX8_reads_41 (by decide) (fun c41 => ?_) (fun c41 => ?_)
        · have hr := (if_pos c41).symm.trans hr
          refine lv_iconst (v := 0) hx hb dX8_reads_55 (by decide) ?_
          refine lv_istore_n (lv' := [(1, .int 0), (0, .ref (ad 0))]) hx hb dX8_reads_56 rfl hl (by decide) rfl (fun ls hl => ?_)
          refine lv_goto (tgt := 25) hx hb dX8_reads_57 (by decide) ?_
          exact ih 0 u2.2 m_ro m_wi m_to _ _ _ (by first | exact rd_0 hf c26 rfl (isMore_nn hu2 hf.2.2.2.1) | exact rd_0 hf c26 ((readsRow_sp hu3 (isMore_nn hu2 hf.2.2.2.1)).2.1 c48) (readsRow_sp hu3 (isMore_nn hu2 hf.2.2.2.1)).1 | exact rd_1 hf c26 c41 ((readsRow_sp hu3 (isMore_nn hu2 hf.2.2.2.1)).2.2 c48) (readsRow_sp hu3 (isMore_nn hu2 hf.2.2.2.1)).1) hr hP hS (lv_sub hl [1, 0] rfl)
        · have hr := (if_neg c41).symm.trans hr
          refine lv_aload_n hx hb dX8_reads_44 rfl (lv_at hl 0 rfl) ?_
          obtain ⟨u3, hu3⟩ : ∃ z, f_X8_readsRow m_le u2.2 m_ro m_wi m_to m_tx = z := ⟨_, rfl⟩
          have hr := (bd_eq hu3).symm.trans hr
          refine go_z (ru_V (n := 0) ⟨hx, hb, hml, hown, hts⟩ hk hP (c_X8_readsRow l D cI cL cZ ad m_w m_h m_c m_s m_le m_un u2.2 m_ro m_wi m_hi m_hr m_hp m_rn m_rw m_rh m_n m_l m_b m_to m_hs m_ho m_tx m_ik m_wt m_ac m_ap m_pa m_im m_ri hAd _ hu3 (isMore_nn hu2 hf.2.2.2.1) hlen) (cwV 0 hts (gV q4_122 q4_124 qs3_6 q1_11 q4_125) rfl rfl rfl hd_X8_readsRow ⟨Nat.le_of_ble_eq_true rfl, Nat.le_of_ble_eq_true rfl⟩) (va_recv hk.1 hP (ci := 8) (q0 := 0) rfl rfl) rfl hl.1 rfl (Nat.le_of_ble_eq_true rfl) dX8_reads_45 ⟨Nat.zero_le _, Nat.zero_le _⟩) hS (fun _ h => h) (fun H locs hz45 hP hS => ?_)
          have hP : va_P D vwCl (mw ad cI cL cZ m_w m_h m_c m_s m_le m_un u3.2.1 u3.2.2.1 u3.2.2.2.1 m_hi m_hr m_hp m_rn m_rw m_rh m_n m_l m_b u3.2.2.2.2 m_hs m_ho m_tx m_ik m_wt m_ac m_ap m_pa m_im m_ri) H := hP
          refine lv_if_eq (tgt := 55) hx hb dX8_reads_48 (by decide) (fun c48 => ?_) (fun c48 => ?_)
          · have hr := (if_pos c48).symm.trans hr
            refine lv_iconst (v := 0) hx hb dX8_reads_55 (by decide) ?_
            refine lv_istore_n (lv' := [(1, .int 0), (0, .ref (ad 0))]) hx hb dX8_reads_56 rfl hl (by decide) rfl (fun ls hl => ?_)
            refine lv_goto (tgt := 25) hx hb dX8_reads_57 (by decide) ?_
            exact ih 0 u3.2.1 u3.2.2.1 u3.2.2.2.1 u3.2.2.2.2 _ _ _ (by first | exact rd_0 hf c26 rfl (isMore_nn hu2 hf.2.2.2.1) | exact rd_0 hf c26 ((readsRow_sp hu3 (isMore_nn hu2 hf.2.2.2.1)).2.1 c48) (readsRow_sp hu3 (isMore_nn hu2 hf.2.2.2.1)).1 | exact rd_1 hf c26 c41 ((readsRow_sp hu3 (isMore_nn hu2 hf.2.2.2.1)).2.2 c48) (readsRow_sp hu3 (isMore_nn hu2 hf.2.2.2.1)).1) hr hP hS (lv_sub hl [1, 0] rfl)
          · have hr := (if_neg c48).symm.trans hr
            refine lv_iconst (v := 1) hx hb dX8_reads_51 (by decide) ?_
            refine lv_goto (tgt := 56) hx hb dX8_reads_52 (by decide) ?_
            refine lv_istore_n (lv' := [(1, .int 1), (0, .ref (ad 0))]) hx hb dX8_reads_56 rfl hl (by decide) rfl (fun ls hl => ?_)
            refine lv_goto (tgt := 25) hx hb dX8_reads_57 (by decide) ?_
            exact ih 1 u3.2.1 u3.2.2.1 u3.2.2.2.1 u3.2.2.2.2 _ _ _ (by first | exact rd_0 hf c26 rfl (isMore_nn hu2 hf.2.2.2.1) | exact rd_0 hf c26 ((readsRow_sp hu3 (isMore_nn hu2 hf.2.2.2.1)).2.1 c48) (readsRow_sp hu3 (isMore_nn hu2 hf.2.2.2.1)).1 | exact rd_1 hf c26 c41 ((readsRow_sp hu3 (isMore_nn hu2 hf.2.2.2.1)).2.2 c48) (readsRow_sp hu3 (isMore_nn hu2 hf.2.2.2.1)).1) hr hP hS (lv_sub hl [1, 0] rfl)
set_option maxHeartbeats 4000000 in
set_option maxRecDepth 100000 in
theorem c_X8_reads (l : Launch) (D : va_G) (cI cL cZ : ClassId) (ad : Nat → Nat) (m_w m_h m_c m_s m_le m_un m_he m_ro m_wi m_hi m_hr m_hp m_rn m_rw m_rh : Int32) (m_n m_l m_b m_to m_hs : Int64) (m_ho m_tx m_ik m_wt : Nat → Int32) (m_ac m_ap m_pa m_im m_ri : Nat → Int64) (hAd : mInj ad) (r : Int32 × Int32 × Int32 × Int32 × Int64) (hr : f_X8_reads m_le m_tx = r) (hlen : m_le.toInt ≤ 40) : MZ l yX8_reads (Cond.code yX8_reads cX8_reads 2 (some .boolean) :: W0) 3 68 D cI cL cZ (mAd ad) [.ref (ad 0)] (mw ad cI cL cZ m_w m_h m_c m_s m_le m_un m_he m_ro m_wi m_hi m_hr m_hp m_rn m_rw m_rh m_n m_l m_b m_to m_hs m_ho m_tx m_ik m_wt m_ac m_ap m_pa m_im m_ri) r.1 (mw ad cI cL cZ m_w m_h m_c m_s m_le m_un r.2.1 r.2.2.1 r.2.2.2.1 m_hi m_hr m_hp m_rn m_rw m_rh m_n m_l m_b r.2.2.2.2 m_hs m_ho m_tx m_ik m_wt m_ac m_ap m_pa m_im m_ri) := by
  refine mk_start (cc := cX8_reads) (maxL := 2) (ret := (some .boolean)) (by decide) rfl (Nat.le_of_ble_eq_true rfl) ?_
  intro p e s m below meth c ls C hP hS hl
  obtain ⟨hx, hb, hml, hrt, hlocks, hown, hts, hk⟩ := C
  have hown : s.vm.findClass RX8 = some m.cls := hown
  have hl : lv_has ls 2 [(0, .ref (ad 0))] := hl
  rw [f_X8_reads] at hr
  refine lv_aload_n hx hb dX8_reads_0 rfl (lv_at hl 0 rfl) ?_
  refine lv_iconst (v := 0) hx hb dX8_reads_1 (by decide) ?_
  refine va_put (D := D) (ci := 8) (v := .int 0) (ty := .int) (C := RX8) (T := TX8) (N := 29) hx hb hts u_X8 tyX8 tyX8_ok nmX8 hown hk.1 hP (mw_D hAd) hS 0 rfl rfl 16 (by decide) (hts _ q4_28) (fun _ h9 => h9) rfl (tyX8_ok 16 (by decide)) rfl rfl (Nat.le_of_ble_eq_true rfl) dX8_reads_2 (fun H locs hP _ hS => ?_)
  have hP : va_P D vwCl (mw ad cI cL cZ m_w m_h m_c m_s m_le m_un 0 m_ro m_wi m_hi m_hr m_hp m_rn m_rw m_rh m_n m_l m_b m_to m_hs m_ho m_tx m_ik m_wt m_ac m_ap m_pa m_im m_ri) H := hP
  refine lv_aload_n hx hb dX8_reads_5 rfl (lv_at hl 0 rfl) ?_
  refine lv_iconst (v := 0) hx hb dX8_reads_6 (by decide) ?_
  refine va_put (D := D) (ci := 8) (v := .int 0) (ty := .int) (C := RX8) (T := TX8) (N := 29) hx hb hts u_X8 tyX8 tyX8_ok nmX8 hown hk.1 hP (mw_D hAd) hS 0 rfl rfl 17 (by decide) (hts _ q4_29) (fun _ h9 => h9) rfl (tyX8_ok 17 (by decide)) rfl rfl (Nat.le_of_ble_eq_true rfl) dX8_reads_7 (fun H locs hP _ hS => ?_)
  have hP : va_P D vwCl (mw ad cI cL cZ m_w m_h m_c m_s m_le m_un 0 0 m_wi m_hi m_hr m_hp m_rn m_rw m_rh m_n m_l m_b m_to m_hs m_ho m_tx m_ik m_wt m_ac m_ap m_pa m_im m_ri) H := hP
  refine lv_aload_n hx hb dX8_reads_10 rfl (lv_at hl 0 rfl) ?_
  refine lv_iconst (v := 0) hx hb dX8_reads_11 (by decide) ?_
  refine va_put (D := D) (ci := 8) (v := .int 0) (ty := .int) (C := RX8) (T := TX8) (N := 29) hx hb hts u_X8 tyX8 tyX8_ok nmX8 hown hk.1 hP (mw_D hAd) hS 0 rfl rfl 18 (by decide) (hts _ q4_30) (fun _ h9 => h9) rfl (tyX8_ok 18 (by decide)) rfl rfl (Nat.le_of_ble_eq_true rfl) dX8_reads_12 (fun H locs hP _ hS => ?_)
  have hP : va_P D vwCl (mw ad cI cL cZ m_w m_h m_c m_s m_le m_un 0 0 0 m_hi m_hr m_hp m_rn m_rw m_rh m_n m_l m_b m_to m_hs m_ho m_tx m_ik m_wt m_ac m_ap m_pa m_im m_ri) H := hP
  refine lv_aload_n hx hb dX8_reads_15 rfl (lv_at hl 0 rfl) ?_
  refine lv_lconst (v := 0) hx hb dX8_reads_16 (by decide) ?_
  refine va_put (D := D) (ci := 8) (v := .long 0) (ty := .long) (C := RX8) (T := TX8) (N := 29) hx hb hts u_X8 tyX8 tyX8_ok nmX8 hown hk.1 hP (mw_D hAd) hS 0 rfl rfl 19 (by decide) (hts _ q4_31) (fun _ h9 => h9) rfl (tyX8_ok 19 (by decide)) rfl rfl (Nat.le_of_ble_eq_true rfl) dX8_reads_17 (fun H locs hP _ hS => ?_)
  have hP : va_P D vwCl (mw ad cI cL cZ m_w m_h m_c m_s m_le m_un 0 0 0 m_hi m_hr m_hp m_rn m_rw m_rh m_n m_l m_b 0 m_hs m_ho m_tx m_ik m_wt m_ac m_ap m_pa m_im m_ri) H := hP
  refine lv_aload_n hx hb dX8_reads_20 rfl (lv_at hl 0 rfl) ?_
  obtain ⟨u1, hu1⟩ : ∃ z, f_X8_isMore m_le 0 m_tx = z := ⟨_, rfl⟩
  have hr := (bd_eq hu1).symm.trans hr
  refine go_z (ru_V (n := 0) ⟨hx, hb, hml, hown, hts⟩ hk hP (c_X8_isMore l D cI cL cZ ad m_w m_h m_c m_s m_le m_un 0 0 0 m_hi m_hr m_hp m_rn m_rw m_rh m_n m_l m_b 0 m_hs m_ho m_tx m_ik m_wt m_ac m_ap m_pa m_im m_ri hAd _ hu1 (by decide) hlen) (cwV 0 hts (gV q4_118 q4_120 qs3_5 q1_11 q4_121) rfl rfl rfl hd_X8_isMore ⟨Nat.le_of_ble_eq_true rfl, Nat.le_of_ble_eq_true rfl⟩) (va_recv hk.1 hP (ci := 8) (q0 := 0) rfl rfl) rfl hl.1 rfl (Nat.le_of_ble_eq_true rfl) dX8_reads_21 ⟨Nat.zero_le _, Nat.zero_le _⟩) hS (fun _ h => h) (fun H locs hz21 hP hS => ?_)
  have hP : va_P D vwCl (mw ad cI cL cZ m_w m_h m_c m_s m_le m_un u1.2 0 0 m_hi m_hr m_hp m_rn m_rw m_rh m_n m_l m_b 0 m_hs m_ho m_tx m_ik m_wt m_ac m_ap m_pa m_im m_ri) H := hP
  refine lv_istore_n (lv' := [(1, .int u1.1), (0, .ref (ad 0))]) hx hb dX8_reads_24 rfl hl (by decide) rfl (fun ls hl => ?_)
  refine lp_X8_reads_25 l D cI cL cZ ad m_w m_h m_c m_s m_le m_un m_hi m_hr m_hp m_rn m_rw m_rh m_n m_l m_b m_hs m_ho m_tx m_ik m_wt m_ac m_ap m_pa m_im m_ri ⟨hx, hb, hml, hrt, hlocks, hown, hts, hk⟩ hAd hlen _ _ (fun z4 z5 z6 z7 z8 H locs ls hz60 hr hP hS hl => ?_) (6) u1.1 u1.2 0 0 0 _ _ _ ⟨by decide, Or.inr (by decide), by decide, isMore_nn hu1 (by decide), hz21⟩ hr hP hS (lv_sub hl [1, 0] rfl)
  refine lv_iload_n hx hb dX8_reads_60 rfl (lv_at hl 0 rfl) ?_
  subst hr
  exact ret_z hx hb hrt hlocks (by first | assumption | exact bz_ok (by assumption)) hP hS dX8_reads_61
