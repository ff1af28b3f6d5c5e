theorem vin {i : Int32} {n : Nat} (h0 : 0 ≤ i.toInt) (h1 : i.toInt < n) : vp_in i n := vp_in_iff.mpr ⟨h0, h1⟩
theorem addT {a b : Int32} (h1 : -2147483648 ≤ a.toInt + b.toInt) (h2 : a.toInt + b.toInt < 2147483648) : (a + b).toInt = a.toInt + b.toInt := by
  rw [Int32.toInt_add, Int.bmod_eq_of_le (by omega) (by omega)]
theorem subT {a b : Int32} (h1 : -2147483648 ≤ a.toInt - b.toInt) (h2 : a.toInt - b.toInt < 2147483648) : (a - b).toInt = a.toInt - b.toInt := by
  rw [Int32.toInt_sub, Int.bmod_eq_of_le (by omega) (by omega)]
theorem mulT {a b : Int32} (h1 : -2147483648 ≤ a.toInt * b.toInt) (h2 : a.toInt * b.toInt < 2147483648) : (a * b).toInt = a.toInt * b.toInt := by
  rw [Int32.toInt_mul, Int.bmod_eq_of_le (by omega) (by omega)]
theorem lgz {x : Int64} (h : ¬ lg_cmp x 0 = 0) : x ≠ 0 := by
  intro q
  subst q
  exact h (by decide)
theorem on_s {n : Nat} {x : Int64} (h : 0 < n + 1 ∧ x.toBitVec.toNat < n + 1) (hc : ¬ lg_cmp x 0 = 0) : 0 < n ∧ (x &&& (x - 1)).toBitVec.toNat < n := by
  have hx := lgz hc
  have h0 : x.toBitVec.toNat ≠ 0 := by
    intro q
    apply hx
    have q2 : x.toBitVec = 0#64 := BitVec.eq_of_toNat_eq (by simpa using q)
    exact Int64.toBitVec_inj.mp (by simpa using q2)
  have h1 : (x - 1).toBitVec.toNat = x.toBitVec.toNat - 1 := by
    have hl := x.toBitVec.isLt
    rw [Int64.toBitVec_sub, BitVec.toNat_sub]
    show (2 ^ 64 - 1 + x.toBitVec.toNat) % 2 ^ 64 = _
    omega
  have h2 : (x &&& (x - 1)).toBitVec.toNat ≤ (x - 1).toBitVec.toNat := by
    rw [Int64.toBitVec_and, BitVec.toNat_and]
    exact Nat.and_le_right
  omega
abbrev wh (w h : Int32) : Prop := (1 ≤ w.toInt ∧ w.toInt ≤ 4) ∧ 1 ≤ h.toInt ∧ h.toInt ≤ 4
theorem i32_of {x : Int32} {n : Nat} (h0 : 0 ≤ x.toInt) (h1 : x.toInt ≤ n) (hn : n < 2 ^ 31) : ∃ j : Nat, j ≤ n ∧ x = nI j := by
  refine ⟨x.toInt.toNat, by omega, ?_⟩
  apply Int32.toInt_inj.mp
  rw [nI_toInt (by omega)]
  omega
theorem wh_of {w h : Int32} (hg : wh w h) : ∃ a b : Fin 5, 1 ≤ a.val ∧ 1 ≤ b.val ∧ w = nI a.val ∧ h = nI b.val := by
  obtain ⟨⟨h1, h2⟩, h3, h4⟩ := hg
  obtain ⟨a, ha, rfl⟩ := i32_of (n := 4) (by omega) h2 (by decide)
  obtain ⟨b, hb, rfl⟩ := i32_of (n := 4) (by omega) h4 (by decide)
  rw [nI_toInt (by omega)] at h1 h3
  exact ⟨⟨a, by omega⟩, ⟨b, by omega⟩, by simp only; omega, by simp only; omega, rfl, rfl⟩
theorem hd_X8_in : yX8_in.cls ≠ "java/lang/invoke/MethodHandle" ∧ yX8_in.cls ≠ "java/lang/invoke/VarHandle" ∧ (parseMethodDescriptor yX8_in.desc).map (fun d => d.parameters.length) = some 3 := by decide +kernel
def f_X8_in (p0 : Int64) (p2 : Int64) (p4 : Int64) : Int32 := (if (lg_cmp p0 p2) < 0 then 0 else (if 0 < (lg_cmp p0 p4) then 0 else 1))
set_option maxHeartbeats 4000000 in
set_option maxRecDepth 100000 in
theorem c_X8_in (l : Launch) (D : va_G) (cI cL cZ : ClassId) (A : Nat → Prop) (ws : va_W) (p0 p2 p4 : Int64) (r : Int32) (hr : f_X8_in p0 p2 p4 = r) : MZ l yX8_in (Cond.code yX8_in cX8_in 6 (some .boolean) :: W0) 0 0 D cI cL cZ A [.long p0, .long p2, .long p4] ws r ws := by
  refine mk_start (cc := cX8_in) (maxL := 6) (ret := (some .boolean)) (by decide) rfl (Nat.le_of_ble_eq_true rfl) ?_
  intro p e s m below meth c ls C hP hS hl
  obtain ⟨hx, hb, hml, hrt, hlocks, hown, hts, hk⟩ := C
  have hown : s.vm.findClass RX8 = some m.cls := hown
  have hl : lv_has ls 6 [(0, .long p0), (2, .long p2), (4, .long p4)] := hl
  rw [f_X8_in] at hr
  refine lv_lload_n hx hb dX8_in_0 rfl (lv_at hl 0 rfl) ?_
  refine lv_lload_n hx hb dX8_in_1 rfl (lv_at hl 1 rfl) ?_
  refine W.lcmp hx hb dX8_in_2 ?_
  refine lv_if_lt (tgt := 17) hx hb dX8_in_3 (by decide) (fun c3 => ?_) (fun c3 => ?_)
  · have hr := (if_pos c3).symm.trans hr
    refine lv_iconst (v := 0) hx hb dX8_in_17 (by decide) ?_
    subst hr
    exact ret_z hx hb hrt hlocks bz_0 hP hS dX8_in_18
  · have hr := (if_neg c3).symm.trans hr
    refine lv_lload_n hx hb dX8_in_6 rfl (lv_at hl 0 rfl) ?_
    refine lv_lload hx hb dX8_in_7 (lv_at hl 2 rfl) ?_
    refine W.lcmp hx hb dX8_in_9 ?_
    refine lv_if_gt (tgt := 17) hx hb dX8_in_10 (by decide) (fun c10 => ?_) (fun c10 => ?_)
    · have hr := (if_pos c10).symm.trans hr
      refine lv_iconst (v := 0) hx hb dX8_in_17 (by decide) ?_
      subst hr
      exact ret_z hx hb hrt hlocks bz_0 hP hS dX8_in_18
    · have hr := (if_neg c10).symm.trans hr
      refine lv_iconst (v := 1) hx hb dX8_in_13 (by decide) ?_
      refine lv_goto (tgt := 18) hx hb dX8_in_14 (by decide) ?_
      subst hr
      exact ret_z hx hb hrt hlocks bz_1 hP hS dX8_in_18
theorem hd_X8_has : yX8_has.cls ≠ "java/lang/invoke/MethodHandle" ∧ yX8_has.cls ≠ "java/lang/invoke/VarHandle" ∧ (parseMethodDescriptor yX8_has.desc).map (fun d => d.parameters.length) = some 2 := by decide +kernel
def f_X8_has (p0 : Int64) (p2 : Int32) : Int32 := (if (lg_cmp ((shrL p0 p2) &&& 1) 1) = 0 then 1 else 0)
set_option maxHeartbeats 4000000 in
set_option maxRecDepth 100000 in
theorem c_X8_has (l : Launch) (D : va_G) (cI cL cZ : ClassId) (A : Nat → Prop) (ws : va_W) (p0 : Int64) (p2 : Int32) (r : Int32) (hr : f_X8_has p0 p2 = r) : MZ l yX8_has (Cond.code yX8_has cX8_has 3 (some .boolean) :: W0) 0 0 D cI cL cZ A [.long p0, .int p2] ws r ws := by
  refine mk_start (cc := cX8_has) (maxL := 3) (ret := (some .boolean)) (by decide) rfl (Nat.le_of_ble_eq_true rfl) ?_
  intro p e s m below meth c ls C hP hS hl
  obtain ⟨hx, hb, hml, hrt, hlocks, hown, hts, hk⟩ := C
  have hown : s.vm.findClass RX8 = some m.cls := hown
  have hl : lv_has ls 3 [(0, .long p0), (2, .int p2)] := hl
  rw [f_X8_has] at hr
  refine lv_lload_n hx hb dX8_has_0 rfl (lv_at hl 0 rfl) ?_
  refine lv_iload_n hx hb dX8_has_1 rfl (lv_at hl 1 rfl) ?_
  refine lv_lshr (v := shrL p0 p2) hx hb dX8_has_2 rfl ?_
  refine lv_lconst (v := 1) hx hb dX8_has_3 (by decide) ?_
  refine lv_land hx hb dX8_has_4 ?_
  refine lv_lconst (v := 1) hx hb dX8_has_5 (by decide) ?_
  refine W.lcmp hx hb dX8_has_6 ?_
  refine lv_if_ne (tgt := 14) hx hb dX8_has_7 (by decide) (fun c7 => ?_) (fun c7 => ?_)
  · have hr := (if_neg c7).symm.trans hr
    refine lv_iconst (v := 0) hx hb dX8_has_14 (by decide) ?_
    subst hr
    exact ret_z hx hb hrt hlocks bz_0 hP hS dX8_has_15
  · have hr := (if_pos c7).symm.trans hr
    refine lv_iconst (v := 1) hx hb dX8_has_10 (by decide) ?_
    refine lv_goto (tgt := 15) hx hb dX8_has_11 (by decide) ?_
    subst hr
    exact ret_z hx hb hrt hlocks bz_1 hP hS dX8_has_15
theorem hd_X8_ones : yX8_ones.cls ≠ "java/lang/invoke/MethodHandle" ∧ yX8_ones.cls ≠ "java/lang/invoke/VarHandle" ∧ (parseMethodDescriptor yX8_ones.desc).map (fun d => d.parameters.length) = some 1 := by decide +kernel
def F_X8_ones_4 {β : Type} (k0 : Int32 → β) : Nat → Int32 → Int64 → β
  | 0, x2, x3 => k0 x2
  | n + 1, x2, x3 => (if (lg_cmp x3 0) = 0 then k0 x2 else F_X8_ones_4 k0 n (x2 + 1) (x3 &&& (x3 - 1)))
def f_X8_ones (p0 : Int64) : Int32 := F_X8_ones_4 (fun z1 => z1) (p0.toBitVec.toNat + 1) 0 p0
set_option maxHeartbeats 4000000 in
set_option maxRecDepth 100000 in
theorem lp_X8_ones_4 (l : Launch) (D : va_G) (cI cL cZ : ClassId) (A : Nat → Prop) (ws : va_W) {p : Program} {e : Env} {s : State} {m : MethodId} {args : Array Value} {below : List Frame} {meth : Method} {c : Code} {Q : State → Prop} (C : Cx p s m args meth c cX8_ones 5 (some .int) W0 RX8 D cI cL cZ) {β : Type} (k0 : Int32 → β) (r : β)
    (h0 : ∀ (e2 : Int32) (H : Heap) (locs : List Loc) (ls : Array Slot), k0 e2 = r → va_P D vwCl ws H → va_S A s.heap H locs → lv_has ls 5 [(2, .int e2)] → W p l e (rmS 0 0) s m args below meth c H locs 0 0 Q (F0 m 22 ls [])) :
    ∀ (n : Nat) (x2 : Int32) (x3 : Int64) (H : Heap) (locs : List Loc) (ls : Array Slot), 0 < n ∧ x3.toBitVec.toNat < n → F_X8_ones_4 k0 n x2 x3 = r → va_P D vwCl ws H → va_S A s.heap H locs → lv_has ls 5 [(2, .int x2), (3, .long x3)] → W p l e (rmS 0 0) s m args below meth c H locs 0 0 Q (F0 m 4 ls []) := by
  obtain ⟨hx, hb, hml, hrt, hlocks, hown, hts, hk⟩ := C
  intro n
  induction n with
  | zero =>
    intro x2 x3 H locs ls hf
    exact absurd hf.1 (Nat.lt_irrefl 0)
  | succ n ih =>
    intro x2 x3 H locs ls hf hr hP hS hl
    rw [F_X8_ones_4] at hr
    refine lv_lload_n hx hb dX8_ones_4 rfl (lv_at hl 1 rfl) ?_
    refine lv_lconst (v := 0) hx hb dX8_ones_5 (by decide) ?_
    refine W.lcmp hx hb dX8_ones_6 ?_
    refine lv_if_eq (tgt := 22) hx hb dX8_ones_7 (by decide) (fun c7 => ?_) (fun c7 => ?_)
    · have hr := (if_pos c7).symm.trans hr
      exact h0 x2 _ _ _ hr hP hS (lv_sub hl [0] rfl)
    · have hr := (if_neg c7).symm.trans hr
      refine lv_iinc (v := x2 + 1) (lv' := [(2, .int (x2 + 1)), (3, .long x3)]) hx hb dX8_ones_10 hl (k := 0) rfl rfl (by decide) rfl (fun ls hl => ?_)
      refine lv_lload_n hx hb dX8_ones_13 rfl (lv_at hl 1 rfl) ?_
      refine lv_lload_n hx hb dX8_ones_14 rfl (lv_at hl 1 rfl) ?_
      refine lv_lconst (v := 1) hx hb dX8_ones_15 (by decide) ?_
      refine lv_lsub hx hb dX8_ones_16 ?_
      refine lv_land hx hb dX8_ones_17 ?_
      refine lv_lstore_n (lv' := [(3, .long (x3 &&& (x3 - 1))), (2, .int (x2 + 1))]) hx hb dX8_ones_18 rfl hl (by decide) rfl (fun ls hl => ?_)
      refine lv_goto (tgt := 4) hx hb dX8_ones_19 (by decide) ?_
      exact ih (x2 + 1) (x3 &&& (x3 - 1)) _ _ _ (on_s hf c7) hr hP hS (lv_sub hl [1, 0] rfl)
set_option maxHeartbeats 4000000 in
set_option maxRecDepth 100000 in
theorem c_X8_ones (l : Launch) (D : va_G) (cI cL cZ : ClassId) (A : Nat → Prop) (ws : va_W) (p0 : Int64) (r : Int32) (hr : f_X8_ones p0 = r) : MI l yX8_ones (Cond.code yX8_ones cX8_ones 5 (some .int) :: W0) 0 0 D cI cL cZ A [.long p0] ws r ws := by
  refine mk_start (cc := cX8_ones) (maxL := 5) (ret := (some .int)) (by decide) rfl (Nat.le_of_ble_eq_true rfl) ?_
  intro p e s m below meth c ls C hP hS hl
  obtain ⟨hx, hb, hml, hrt, hlocks, hown, hts, hk⟩ := C
  have hown : s.vm.findClass RX8 = some m.cls := hown
  have hl : lv_has ls 5 [(0, .long p0)] := hl
  rw [f_X8_ones] at hr
  refine lv_iconst (v := 0) hx hb dX8_ones_0 (by decide) ?_
  refine lv_istore_n (lv' := [(2, .int 0), (0, .long p0)]) hx hb dX8_ones_1 rfl hl (by decide) rfl (fun ls hl => ?_)
  refine lv_lload_n hx hb dX8_ones_2 rfl (lv_at hl 1 rfl) ?_
  refine lv_lstore_n (lv' := [(3, .long p0), (2, .int 0), (0, .long p0)]) hx hb dX8_ones_3 rfl hl (by decide) rfl (fun ls hl => ?_)
  refine lp_X8_ones_4 l D cI cL cZ A ws ⟨hx, hb, hml, hrt, hlocks, hown, hts, hk⟩ _ _ (fun z1 H locs ls hr hP hS hl => ?_) (p0.toBitVec.toNat + 1) 0 p0 _ _ _ ⟨Nat.succ_pos _, Nat.lt_succ_self _⟩ hr hP hS (lv_sub hl [1, 0] rfl)
  refine lv_iload_n hx hb dX8_ones_22 rfl (lv_at hl 0 rfl) ?_
  subst hr
  exact ret_i hx hb hrt hlocks hP hS dX8_ones_23
theorem hd_X8_goes : yX8_goes.cls ≠ "java/lang/invoke/MethodHandle" ∧ yX8_goes.cls ≠ "java/lang/invoke/VarHandle" ∧ (parseMethodDescriptor yX8_goes.desc).map (fun d => d.parameters.length) = some 4 := by decide +kernel
def f_X8_goes (p0 : Int64) (p2 : Int32) (p3 : Int32) (p4 : Int32) : Int64 := (if (f_X8_has p0 p2) = 0 then (if (f_X8_has p0 (p2 + 17)) = 0 then 0 ||| 0 else (if p4 = 0 then 0 ||| (shlL 1 (p3 + 17)) else 0 ||| (shlL 1 p3))) else (if p4 = 0 then (if (f_X8_has p0 (p2 + 17)) = 0 then (shlL 1 p3) ||| 0 else (if p4 = 0 then (shlL 1 p3) ||| (shlL 1 (p3 + 17)) else (shlL 1 p3) ||| (shlL 1 p3))) else (if (f_X8_has p0 (p2 + 17)) = 0 then (shlL 1 (p3 + 17)) ||| 0 else (if p4 = 0 then (shlL 1 (p3 + 17)) ||| (shlL 1 (p3 + 17)) else (shlL 1 (p3 + 17)) ||| (shlL 1 p3)))))
set_option maxHeartbeats 4000000 in
set_option maxRecDepth 100000 in
theorem c_X8_goes (l : Launch) (D : va_G) (cI cL cZ : ClassId) (A : Nat → Prop) (ws : va_W) (p0 : Int64) (p2 p3 p4 : Int32) (r : Int64) (hr : f_X8_goes p0 p2 p3 p4 = r) : ML l yX8_goes (Cond.code yX8_goes cX8_goes 7 (some .long) :: W0) 1 22 D cI cL cZ A [.long p0, .int p2, .int p3, .int p4] ws r ws := by
  refine mk_start (cc := cX8_goes) (maxL := 7) (ret := (some .long)) (by decide) rfl (Nat.le_of_ble_eq_true rfl) ?_
  intro p e s m below meth c ls C hP hS hl
  obtain ⟨hx, hb, hml, hrt, hlocks, hown, hts, hk⟩ := C
  have hown : s.vm.findClass RX8 = some m.cls := hown
  have hl : lv_has ls 7 [(0, .long p0), (2, .int p2), (3, .int p3), (4, .int p4)] := hl
  rw [f_X8_goes] at hr
  refine lv_lload_n hx hb dX8_goes_0 rfl (lv_at hl 0 rfl) ?_
  refine lv_iload_n hx hb dX8_goes_1 rfl (lv_at hl 1 rfl) ?_
  refine go_z (ru_S (n := 2) ⟨hx, hb, hml, hown, hts⟩ hk hP (c_X8_has l D cI cL cZ A ws p0 p2 _ rfl) (va_cwS 2 hts (gS q4_153 q4_154 q1_11 q4_155) rfl rfl rfl hd_X8_has ⟨Nat.le_of_ble_eq_true rfl, Nat.le_of_ble_eq_true rfl⟩) rfl hl.1 rfl (Nat.le_of_ble_eq_true rfl) dX8_goes_2 ⟨Nat.zero_le _, Nat.zero_le _⟩) hS (fun _ h => h) (fun H locs hz2 hP hS => ?_)
  have hP : va_P D vwCl ws H := hP
  refine lv_if_eq (tgt := 26) hx hb dX8_goes_5 (by decide) (fun c5 => ?_) (fun c5 => ?_)
  · have hr := (if_pos c5).symm.trans hr
    refine lv_lconst (v := 0) hx hb dX8_goes_26 (by decide) ?_
    refine lv_lstore (lv' := [(5, .long 0), (0, .long p0), (2, .int p2), (3, .int p3), (4, .int p4)]) hx hb dX8_goes_27 hl (by decide) rfl (fun ls hl => ?_)
    refine lv_lload hx hb dX8_goes_29 (lv_at hl 0 rfl) ?_
    refine lv_lload_n hx hb dX8_goes_31 rfl (lv_at hl 1 rfl) ?_
    refine lv_iload_n hx hb dX8_goes_32 rfl (lv_at hl 2 rfl) ?_
    refine lv_bipush (v := 17) hx hb dX8_goes_33 (by decide) ?_
    refine lv_iadd hx hb dX8_goes_35 ?_
    refine go_z (ru_S (n := 2) ⟨hx, hb, hml, hown, hts⟩ hk hP (c_X8_has l D cI cL cZ A ws p0 (p2 + 17) _ rfl) (va_cwS 2 hts (gS q4_153 q4_154 q1_11 q4_155) rfl rfl rfl hd_X8_has ⟨Nat.le_of_ble_eq_true rfl, Nat.le_of_ble_eq_true rfl⟩) rfl hl.1 rfl (Nat.le_of_ble_eq_true rfl) dX8_goes_36 ⟨Nat.zero_le _, Nat.zero_le _⟩) hS (fun _ h => h) (fun H locs hz36 hP hS => ?_)
    have hP : va_P D vwCl ws H := hP
    refine lv_if_eq (tgt := 60) hx hb dX8_goes_39 (by decide) (fun c39 => ?_) (fun c39 => ?_)
    · have hr := (if_pos c39).symm.trans hr
      refine lv_lconst (v := 0) hx hb dX8_goes_60 (by decide) ?_
      refine lv_lor hx hb dX8_goes_61 ?_
      subst hr
      exact ret_l hx hb hrt hlocks hP hS dX8_goes_62
    · have hr := (if_neg c39).symm.trans hr
      refine lv_lconst (v := 1) hx hb dX8_goes_42 (by decide) ?_
      refine lv_iload hx hb dX8_goes_43 (lv_at hl 4 rfl) ?_
      refine lv_if_eq (tgt := 52) hx hb dX8_goes_45 (by decide) (fun c45 => ?_) (fun c45 => ?_)
      · have hr := (if_pos c45).symm.trans hr
        refine lv_iload_n hx hb dX8_goes_52 rfl (lv_at hl 3 rfl) ?_
        refine lv_bipush (v := 17) hx hb dX8_goes_53 (by decide) ?_
        refine lv_iadd hx hb dX8_goes_55 ?_
        refine lv_lshl (v := shlL 1 (p3 + 17)) hx hb dX8_goes_56 rfl ?_
        refine lv_goto (tgt := 61) hx hb dX8_goes_57 (by decide) ?_
        refine lv_lor hx hb dX8_goes_61 ?_
        subst hr
        exact ret_l hx hb hrt hlocks hP hS dX8_goes_62
      · have hr := (if_neg c45).symm.trans hr
        refine lv_iload_n hx hb dX8_goes_48 rfl (lv_at hl 3 rfl) ?_
        refine lv_goto (tgt := 56) hx hb dX8_goes_49 (by decide) ?_
        refine lv_lshl (v := shlL 1 p3) hx hb dX8_goes_56 rfl ?_
        refine lv_goto (tgt := 61) hx hb dX8_goes_57 (by decide) ?_
        refine lv_lor hx hb dX8_goes_61 ?_
        subst hr
        exact ret_l hx hb hrt hlocks hP hS dX8_goes_62
  · have hr := (if_neg c5).symm.trans hr
    refine lv_lconst (v := 1) hx hb dX8_goes_8 (by decide) ?_
    refine lv_iload hx hb dX8_goes_9 (lv_at hl 3 rfl) ?_
    refine lv_if_eq (tgt := 21) hx hb dX8_goes_11 (by decide) (fun c11 => ?_) (fun c11 => ?_)
    · have hr := (if_pos c11).symm.trans hr
      refine lv_iload_n hx hb dX8_goes_21 rfl (lv_at hl 2 rfl) ?_
      refine lv_lshl (v := shlL 1 p3) hx hb dX8_goes_22 rfl ?_
      refine lv_goto (tgt := 27) hx hb dX8_goes_23 (by decide) ?_
      refine lv_lstore (lv' := [(5, .long (shlL 1 p3)), (0, .long p0), (2, .int p2), (3, .int p3), (4, .int p4)]) hx hb dX8_goes_27 hl (by decide) rfl (fun ls hl => ?_)
      refine lv_lload hx hb dX8_goes_29 (lv_at hl 0 rfl) ?_
      refine lv_lload_n hx hb dX8_goes_31 rfl (lv_at hl 1 rfl) ?_
      refine lv_iload_n hx hb dX8_goes_32 rfl (lv_at hl 2 rfl) ?_
      refine lv_bipush (v := 17) hx hb dX8_goes_33 (by decide) ?_
      refine lv_iadd hx hb dX8_goes_35 ?_
      refine go_z (ru_S (n := 2) ⟨hx, hb, hml, hown, hts⟩ hk hP (c_X8_has l D cI cL cZ A ws p0 (p2 + 17) _ rfl) (va_cwS 2 hts (gS q4_153 q4_154 q1_11 q4_155) rfl rfl rfl hd_X8_has ⟨Nat.le_of_ble_eq_true rfl, Nat.le_of_ble_eq_true rfl⟩) rfl hl.1 rfl (Nat.le_of_ble_eq_true rfl) dX8_goes_36 ⟨Nat.zero_le _, Nat.zero_le _⟩) hS (fun _ h => h) (fun H locs hz36 hP hS => ?_)
      have hP : va_P D vwCl ws H := hP
      refine lv_if_eq (tgt := 60) hx hb dX8_goes_39 (by decide) (fun c39 => ?_) (fun c39 => ?_)
      · have hr := (if_pos c39).symm.trans hr
        refine lv_lconst (v := 0) hx hb dX8_goes_60 (by decide) ?_
        refine lv_lor hx hb dX8_goes_61 ?_
        subst hr
        exact ret_l hx hb hrt hlocks hP hS dX8_goes_62
      · have hr := (if_neg c39).symm.trans hr
        refine lv_lconst (v := 1) hx hb dX8_goes_42 (by decide) ?_
        refine lv_iload hx hb dX8_goes_43 (lv_at hl 4 rfl) ?_
        refine lv_if_eq (tgt := 52) hx hb dX8_goes_45 (by decide) (fun c45 => ?_) (fun c45 => ?_)
        · have hr := (if_pos c45).symm.trans hr
          refine lv_iload_n hx hb dX8_goes_52 rfl (lv_at hl 3 rfl) ?_
          refine lv_bipush (v := 17) hx hb dX8_goes_53 (by decide) ?_
          refine lv_iadd hx hb dX8_goes_55 ?_
          refine lv_lshl (v := shlL 1 (p3 + 17)) hx hb dX8_goes_56 rfl ?_
          refine lv_goto (tgt := 61) hx hb dX8_goes_57 (by decide) ?_
          refine lv_lor hx hb dX8_goes_61 ?_
          subst hr
          exact ret_l hx hb hrt hlocks hP hS dX8_goes_62
        · have hr := (if_neg c45).symm.trans hr
          refine lv_iload_n hx hb dX8_goes_48 rfl (lv_at hl 3 rfl) ?_
          refine lv_goto (tgt := 56) hx hb dX8_goes_49 (by decide) ?_
          refine lv_lshl (v := shlL 1 p3) hx hb dX8_goes_56 rfl ?_
          refine lv_goto (tgt := 61) hx hb dX8_goes_57 (by decide) ?_
          refine lv_lor hx hb dX8_goes_61 ?_
          subst hr
          exact ret_l hx hb hrt hlocks hP hS dX8_goes_62
    · have hr := (if_neg c11).symm.trans hr
      refine lv_iload_n hx hb dX8_goes_14 rfl (lv_at hl 2 rfl) ?_
      refine lv_bipush (v := 17) hx hb dX8_goes_15 (by decide) ?_
      refine lv_iadd hx hb dX8_goes_17 ?_
      refine lv_goto (tgt := 22) hx hb dX8_goes_18 (by decide) ?_
      refine lv_lshl (v := shlL 1 (p3 + 17)) hx hb dX8_goes_22 rfl ?_
      refine lv_goto (tgt := 27) hx hb dX8_goes_23 (by decide) ?_
      refine lv_lstore (lv' := [(5, .long (shlL 1 (p3 + 17))), (0, .long p0), (2, .int p2), (3, .int p3), (4, .int p4)]) hx hb dX8_goes_27 hl (by decide) rfl (fun ls hl => ?_)
      refine lv_lload hx hb dX8_goes_29 (lv_at hl 0 rfl) ?_
      refine lv_lload_n hx hb dX8_goes_31 rfl (lv_at hl 1 rfl) ?_
      refine lv_iload_n hx hb dX8_goes_32 rfl (lv_at hl 2 rfl) ?_
      refine lv_bipush (v := 17) hx hb dX8_goes_33 (by decide) ?_
      refine lv_iadd hx hb dX8_goes_35 ?_
      refine go_z (ru_S (n := 2) ⟨hx, hb, hml, hown, hts⟩ hk hP (c_X8_has l D cI cL cZ A ws p0 (p2 + 17) _ rfl) (va_cwS 2 hts (gS q4_153 q4_154 q1_11 q4_155) rfl rfl rfl hd_X8_has ⟨Nat.le_of_ble_eq_true rfl, Nat.le_of_ble_eq_true rfl⟩) rfl hl.1 rfl (Nat.le_of_ble_eq_true rfl) dX8_goes_36 ⟨Nat.zero_le _, Nat.zero_le _⟩) hS (fun _ h => h) (fun H locs hz36 hP hS => ?_)
      have hP : va_P D vwCl ws H := hP
      refine lv_if_eq (tgt := 60) hx hb dX8_goes_39 (by decide) (fun c39 => ?_) (fun c39 => ?_)
      · have hr := (if_pos c39).symm.trans hr
        refine lv_lconst (v := 0) hx hb dX8_goes_60 (by decide) ?_
        refine lv_lor hx hb dX8_goes_61 ?_
        subst hr
        exact ret_l hx hb hrt hlocks hP hS dX8_goes_62
      · have hr := (if_neg c39).symm.trans hr
        refine lv_lconst (v := 1) hx hb dX8_goes_42 (by decide) ?_
        refine lv_iload hx hb dX8_goes_43 (lv_at hl 4 rfl) ?_
        refine lv_if_eq (tgt := 52) hx hb dX8_goes_45 (by decide) (fun c45 => ?_) (fun c45 => ?_)
        · have hr := (if_pos c45).symm.trans hr
          refine lv_iload_n hx hb dX8_goes_52 rfl (lv_at hl 3 rfl) ?_
          refine lv_bipush (v := 17) hx hb dX8_goes_53 (by decide) ?_
          refine lv_iadd hx hb dX8_goes_55 ?_
          refine lv_lshl (v := shlL 1 (p3 + 17)) hx hb dX8_goes_56 rfl ?_
          refine lv_goto (tgt := 61) hx hb dX8_goes_57 (by decide) ?_
          refine lv_lor hx hb dX8_goes_61 ?_
          subst hr
          exact ret_l hx hb hrt hlocks hP hS dX8_goes_62
        · have hr := (if_neg c45).symm.trans hr
          refine lv_iload_n hx hb dX8_goes_48 rfl (lv_at hl 3 rfl) ?_
          refine lv_goto (tgt := 56) hx hb dX8_goes_49 (by decide) ?_
          refine lv_lshl (v := shlL 1 p3) hx hb dX8_goes_56 rfl ?_
          refine lv_goto (tgt := 61) hx hb dX8_goes_57 (by decide) ?_
          refine lv_lor hx hb dX8_goes_61 ?_
          subst hr
          exact ret_l hx hb hrt hlocks hP hS dX8_goes_62
theorem hd_X8_points : yX8_points.cls = RX8 ∧ yX8_points.cls ≠ "java/lang/invoke/MethodHandle" ∧ yX8_points.cls ≠ "java/lang/invoke/VarHandle" ∧ (parseMethodDescriptor yX8_points.desc).map (fun d => d.parameters.length) = some 0 := by decide +kernel
def f_X8_points (m_w : Int32) (m_h : Int32) : Int32 := (m_w + 1) * (m_h + 1)
set_option maxHeartbeats 4000000 in
set_option maxRecDepth 100000 in
theorem c_X8_points (l : Launch) (D : va_G) (cI cL cZ : ClassId) (ad : Nat → Nat) (m_w m_h m_c m_s m_le m_un m_he m_ro m_wi m_hi m_hr m_hp m_rn m_rw m_rh : Int32) (m_n m_l m_b m_to m_hs : Int64) (m_ho m_tx m_ik m_wt : Nat → Int32) (m_ac m_ap m_pa m_im m_ri : Nat → Int64) (hAd : mInj ad) (r : Int32) (hr : f_X8_points m_w m_h = r) : MI l yX8_points (Cond.code yX8_points cX8_points 1 (some .int) :: W0) 0 0 D cI cL cZ (mAd ad) [.ref (ad 0)] (mw ad cI cL cZ m_w m_h m_c m_s m_le m_un m_he m_ro m_wi m_hi m_hr m_hp m_rn m_rw m_rh m_n m_l m_b m_to m_hs m_ho m_tx m_ik m_wt m_ac m_ap m_pa m_im m_ri) r (mw ad cI cL cZ m_w m_h m_c m_s m_le m_un m_he m_ro m_wi m_hi m_hr m_hp m_rn m_rw m_rh m_n m_l m_b m_to m_hs m_ho m_tx m_ik m_wt m_ac m_ap m_pa m_im m_ri) := by
  refine mk_start (cc := cX8_points) (maxL := 1) (ret := (some .int)) (by decide) rfl (Nat.le_of_ble_eq_true rfl) ?_
  intro p e s m below meth c ls C hP hS hl
  obtain ⟨hx, hb, hml, hrt, hlocks, hown, hts, hk⟩ := C
  have hown : s.vm.findClass RX8 = some m.cls := hown
  have hl : lv_has ls 1 [(0, .ref (ad 0))] := hl
  rw [f_X8_points] at hr
  refine lv_aload_n hx hb dX8_points_0 rfl (lv_at hl 0 rfl) ?_
  refine va_get (D := D) (ci := 8) (v := .int m_w) (C := RX8) (T := TX8) (N := 29) hx hb hts u_X8 hown hk.1 hP 0 rfl rfl 3 (by decide) (hts _ q4_15) (fun _ h9 => h9) rfl dX8_points_1 ?_
  refine lv_iconst (v := 1) hx hb dX8_points_4 (by decide) ?_
  refine lv_iadd hx hb dX8_points_5 ?_
  refine lv_aload_n hx hb dX8_points_6 rfl (lv_at hl 0 rfl) ?_
  refine va_get (D := D) (ci := 8) (v := .int m_h) (C := RX8) (T := TX8) (N := 29) hx hb hts u_X8 hown hk.1 hP 0 rfl rfl 4 (by decide) (hts _ q4_16) (fun _ h9 => h9) rfl dX8_points_7 ?_
  refine lv_iconst (v := 1) hx hb dX8_points_10 (by decide) ?_
  refine lv_iadd hx hb dX8_points_11 ?_
  refine lv_imul hx hb dX8_points_12 ?_
  subst hr
  exact ret_i hx hb hrt hlocks hP hS dX8_points_13
theorem hd_X8_lying : yX8_lying.cls = RX8 ∧ yX8_lying.cls ≠ "java/lang/invoke/MethodHandle" ∧ yX8_lying.cls ≠ "java/lang/invoke/VarHandle" ∧ (parseMethodDescriptor yX8_lying.desc).map (fun d => d.parameters.length) = some 2 := by decide +kernel
def f_X8_lying (p1 : Int32) (p2 : Int32) (m_w : Int32) : Int32 := (p2 * m_w) + p1
set_option maxHeartbeats 4000000 in
set_option maxRecDepth 100000 in
theorem c_X8_lying (l : Launch) (D : va_G) (cI cL cZ : ClassId) (ad : Nat → Nat) (m_w m_h m_c m_s m_le m_un m_he m_ro m_wi m_hi m_hr m_hp m_rn m_rw m_rh : Int32) (m_n m_l m_b m_to m_hs : Int64) (m_ho m_tx m_ik m_wt : Nat → Int32) (m_ac m_ap m_pa m_im m_ri : Nat → Int64) (hAd : mInj ad) (p1 p2 : Int32) (r : Int32) (hr : f_X8_lying p1 p2 m_w = r) : MI l yX8_lying (Cond.code yX8_lying cX8_lying 3 (some .int) :: W0) 0 0 D cI cL cZ (mAd ad) [.ref (ad 0), .int p1, .int p2] (mw ad cI cL cZ m_w m_h m_c m_s m_le m_un m_he m_ro m_wi m_hi m_hr m_hp m_rn m_rw m_rh m_n m_l m_b m_to m_hs m_ho m_tx m_ik m_wt m_ac m_ap m_pa m_im m_ri) r (mw ad cI cL cZ m_w m_h m_c m_s m_le m_un m_he m_ro m_wi m_hi m_hr m_hp m_rn m_rw m_rh m_n m_l m_b m_to m_hs m_ho m_tx m_ik m_wt m_ac m_ap m_pa m_im m_ri) := by
  refine mk_start (cc := cX8_lying) (maxL := 3) (ret := (some .int)) (by decide) rfl (Nat.le_of_ble_eq_true rfl) ?_
  intro p e s m below meth c ls C hP hS hl
  obtain ⟨hx, hb, hml, hrt, hlocks, hown, hts, hk⟩ := C
  have hown : s.vm.findClass RX8 = some m.cls := hown
  have hl : lv_has ls 3 [(0, .ref (ad 0)), (1, .int p1), (2, .int p2)] := hl
  rw [f_X8_lying] at hr
  refine lv_iload_n hx hb dX8_lying_0 rfl (lv_at hl 2 rfl) ?_
  refine lv_aload_n hx hb dX8_lying_1 rfl (lv_at hl 0 rfl) ?_
  refine va_get (D := D) (ci := 8) (v := .int m_w) (C := RX8) (T := TX8) (N := 29) hx hb hts u_X8 hown hk.1 hP 0 rfl rfl 3 (by decide) (hts _ q4_15) (fun _ h9 => h9) rfl dX8_lying_2 ?_
  refine lv_imul hx hb dX8_lying_5 ?_
  refine lv_iload_n hx hb dX8_lying_6 rfl (lv_at hl 1 rfl) ?_
  refine lv_iadd hx hb dX8_lying_7 ?_
  subst hr
  exact ret_i hx hb hrt hlocks hP hS dX8_lying_8
theorem hd_X8_standing : yX8_standing.cls = RX8 ∧ yX8_standing.cls ≠ "java/lang/invoke/MethodHandle" ∧ yX8_standing.cls ≠ "java/lang/invoke/VarHandle" ∧ (parseMethodDescriptor yX8_standing.desc).map (fun d => d.parameters.length) = some 2 := by decide +kernel
def f_X8_standing (p1 : Int32) (p2 : Int32) (m_w : Int32) (m_h : Int32) : Int32 := ((m_w * (m_h + 1)) + (p2 * (m_w + 1))) + p1
set_option maxHeartbeats 4000000 in
set_option maxRecDepth 100000 in
theorem c_X8_standing (l : Launch) (D : va_G) (cI cL cZ : ClassId) (ad : Nat → Nat) (m_w m_h m_c m_s m_le m_un m_he m_ro m_wi m_hi m_hr m_hp m_rn m_rw m_rh : Int32) (m_n m_l m_b m_to m_hs : Int64) (m_ho m_tx m_ik m_wt : Nat → Int32) (m_ac m_ap m_pa m_im m_ri : Nat → Int64) (hAd : mInj ad) (p1 p2 : Int32) (r : Int32) (hr : f_X8_standing p1 p2 m_w m_h = r) : MI l yX8_standing (Cond.code yX8_standing cX8_standing 3 (some .int) :: W0) 0 0 D cI cL cZ (mAd ad) [.ref (ad 0), .int p1, .int p2] (mw ad cI cL cZ m_w m_h m_c m_s m_le m_un m_he m_ro m_wi m_hi m_hr m_hp m_rn m_rw m_rh m_n m_l m_b m_to m_hs m_ho m_tx m_ik m_wt m_ac m_ap m_pa m_im m_ri) r (mw ad cI cL cZ m_w m_h m_c m_s m_le m_un m_he m_ro m_wi m_hi m_hr m_hp m_rn m_rw m_rh m_n m_l m_b m_to m_hs m_ho m_tx m_ik m_wt m_ac m_ap m_pa m_im m_ri) := by
  refine mk_start (cc := cX8_standing) (maxL := 3) (ret := (some .int)) (by decide) rfl (Nat.le_of_ble_eq_true rfl) ?_
  intro p e s m below meth c ls C hP hS hl
  obtain ⟨hx, hb, hml, hrt, hlocks, hown, hts, hk⟩ := C
  have hown : s.vm.findClass RX8 = some m.cls := hown
  have hl : lv_has ls 3 [(0, .ref (ad 0)), (1, .int p1), (2, .int p2)] := hl
  rw [f_X8_standing] at hr
  refine lv_aload_n hx hb dX8_standing_0 rfl (lv_at hl 0 rfl) ?_
  refine va_get (D := D) (ci := 8) (v := .int m_w) (C := RX8) (T := TX8) (N := 29) hx hb hts u_X8 hown hk.1 hP 0 rfl rfl 3 (by decide) (hts _ q4_15) (fun _ h9 => h9) rfl dX8_standing_1 ?_
  refine lv_aload_n hx hb dX8_standing_4 rfl (lv_at hl 0 rfl) ?_
  refine va_get (D := D) (ci := 8) (v := .int m_h) (C := RX8) (T := TX8) (N := 29) hx hb hts u_X8 hown hk.1 hP 0 rfl rfl 4 (by decide) (hts _ q4_16) (fun _ h9 => h9) rfl dX8_standing_5 ?_
  refine lv_iconst (v := 1) hx hb dX8_standing_8 (by decide) ?_
  refine lv_iadd hx hb dX8_standing_9 ?_
  refine lv_imul hx hb dX8_standing_10 ?_
  refine lv_iload_n hx hb dX8_standing_11 rfl (lv_at hl 2 rfl) ?_
  refine lv_aload_n hx hb dX8_standing_12 rfl (lv_at hl 0 rfl) ?_
  refine va_get (D := D) (ci := 8) (v := .int m_w) (C := RX8) (T := TX8) (N := 29) hx hb hts u_X8 hown hk.1 hP 0 rfl rfl 3 (by decide) (hts _ q4_15) (fun _ h9 => h9) rfl dX8_standing_13 ?_
  refine lv_iconst (v := 1) hx hb dX8_standing_16 (by decide) ?_
  refine lv_iadd hx hb dX8_standing_17 ?_
  refine lv_imul hx hb dX8_standing_18 ?_
  refine lv_iadd hx hb dX8_standing_19 ?_
  refine lv_iload_n hx hb dX8_standing_20 rfl (lv_at hl 1 rfl) ?_
  refine lv_iadd hx hb dX8_standing_21 ?_
  subst hr
  exact ret_i hx hb hrt hlocks hP hS dX8_standing_22
theorem hd_X8_cellAt : yX8_cellAt.cls = RX8 ∧ yX8_cellAt.cls ≠ "java/lang/invoke/MethodHandle" ∧ yX8_cellAt.cls ≠ "java/lang/invoke/VarHandle" ∧ (parseMethodDescriptor yX8_cellAt.desc).map (fun d => d.parameters.length) = some 2 := by decide +kernel
def f_X8_cellAt (p1 : Int32) (p2 : Int32) (m_w : Int32) (m_h : Int32) : Int32 := (if (f_X8_in p1.toInt64 0 ((m_w - 1).toInt64)) = 0 then 16 else (if (f_X8_in p2.toInt64 0 ((m_h - 1).toInt64)) = 0 then 16 else (p2 * m_w) + p1))
set_option maxHeartbeats 4000000 in
set_option maxRecDepth 100000 in
theorem c_X8_cellAt (l : Launch) (D : va_G) (cI cL cZ : ClassId) (ad : Nat → Nat) (m_w m_h m_c m_s m_le m_un m_he m_ro m_wi m_hi m_hr m_hp m_rn m_rw m_rh : Int32) (m_n m_l m_b m_to m_hs : Int64) (m_ho m_tx m_ik m_wt : Nat → Int32) (m_ac m_ap m_pa m_im m_ri : Nat → Int64) (hAd : mInj ad) (p1 p2 : Int32) (r : Int32) (hr : f_X8_cellAt p1 p2 m_w m_h = r) : MI l yX8_cellAt (Cond.code yX8_cellAt cX8_cellAt 3 (some .int) :: W0) 1 25 D cI cL cZ (mAd ad) [.ref (ad 0), .int p1, .int p2] (mw ad cI cL cZ m_w m_h m_c m_s m_le m_un m_he m_ro m_wi m_hi m_hr m_hp m_rn m_rw m_rh m_n m_l m_b m_to m_hs m_ho m_tx m_ik m_wt m_ac m_ap m_pa m_im m_ri) r (mw ad cI cL cZ m_w m_h m_c m_s m_le m_un m_he m_ro m_wi m_hi m_hr m_hp m_rn m_rw m_rh m_n m_l m_b m_to m_hs m_ho m_tx m_ik m_wt m_ac m_ap m_pa m_im m_ri) := by
  refine mk_start (cc := cX8_cellAt) (maxL := 3) (ret := (some .int)) (by decide) rfl (Nat.le_of_ble_eq_true rfl) ?_
  intro p e s m below meth c ls C hP hS hl
  obtain ⟨hx, hb, hml, hrt, hlocks, hown, hts, hk⟩ := C
  have hown : s.vm.findClass RX8 = some m.cls := hown
  have hl : lv_has ls 3 [(0, .ref (ad 0)), (1, .int p1), (2, .int p2)] := hl
  rw [f_X8_cellAt] at hr
  refine lv_iload_n hx hb dX8_cellAt_0 rfl (lv_at hl 1 rfl) ?_
  refine lv_i2l hx hb dX8_cellAt_1 rfl ?_
  refine lv_lconst (v := 0) hx hb dX8_cellAt_2 (by decide) ?_
  refine lv_aload_n hx hb dX8_cellAt_3 rfl (lv_at hl 0 rfl) ?_
  refine va_get (D := D) (ci := 8) (v := .int m_w) (C := RX8) (T := TX8) (N := 29) hx hb hts u_X8 hown hk.1 hP 0 rfl rfl 3 (by decide) (hts _ q4_15) (fun _ h9 => h9) rfl dX8_cellAt_4 ?_
  refine lv_iconst (v := 1) hx hb dX8_cellAt_7 (by decide) ?_
  refine lv_isub hx hb dX8_cellAt_8 ?_
  refine lv_i2l hx hb dX8_cellAt_9 rfl ?_
  refine go_z (ru_S (n := 3) ⟨hx, hb, hml, hown, hts⟩ hk hP (c_X8_in l D cI cL cZ (mAd ad) (mw ad cI cL cZ m_w m_h m_c m_s m_le m_un m_he m_ro m_wi m_hi m_hr m_hp m_rn m_rw m_rh m_n m_l m_b m_to m_hs m_ho m_tx m_ik m_wt m_ac m_ap m_pa m_im m_ri) p1.toInt64 0 ((m_w - 1).toInt64) _ rfl) (va_cwS 3 hts (gS q4_1 q4_2 q1_11 q4_3) rfl rfl rfl hd_X8_in ⟨Nat.le_of_ble_eq_true rfl, Nat.le_of_ble_eq_true rfl⟩) rfl hl.1 rfl (Nat.le_of_ble_eq_true rfl) dX8_cellAt_10 ⟨Nat.zero_le _, Nat.zero_le _⟩) hS (fun _ h => h) (fun H locs hz10 hP hS => ?_)
  have hP : va_P D vwCl (mw ad cI cL cZ m_w m_h m_c m_s m_le m_un m_he m_ro m_wi m_hi m_hr m_hp m_rn m_rw m_rh m_n m_l m_b m_to m_hs m_ho m_tx m_ik m_wt m_ac m_ap m_pa m_im m_ri) H := hP
  refine lv_if_eq (tgt := 43) hx hb dX8_cellAt_13 (by decide) (fun c13 => ?_) (fun c13 => ?_)
  · have hr := (if_pos c13).symm.trans hr
    refine lv_bipush (v := 16) hx hb dX8_cellAt_43 (by decide) ?_
    subst hr
    exact ret_i hx hb hrt hlocks hP hS dX8_cellAt_45
  · have hr := (if_neg c13).symm.trans hr
    refine lv_iload_n hx hb dX8_cellAt_16 rfl (lv_at hl 2 rfl) ?_
    refine lv_i2l hx hb dX8_cellAt_17 rfl ?_
    refine lv_lconst (v := 0) hx hb dX8_cellAt_18 (by decide) ?_
    refine lv_aload_n hx hb dX8_cellAt_19 rfl (lv_at hl 0 rfl) ?_
    refine va_get (D := D) (ci := 8) (v := .int m_h) (C := RX8) (T := TX8) (N := 29) hx hb hts u_X8 hown hk.1 hP 0 rfl rfl 4 (by decide) (hts _ q4_16) (fun _ h9 => h9) rfl dX8_cellAt_20 ?_
    refine lv_iconst (v := 1) hx hb dX8_cellAt_23 (by decide) ?_
    refine lv_isub hx hb dX8_cellAt_24 ?_
    refine lv_i2l hx hb dX8_cellAt_25 rfl ?_
    refine go_z (ru_S (n := 3) ⟨hx, hb, hml, hown, hts⟩ hk hP (c_X8_in l D cI cL cZ (mAd ad) (mw ad cI cL cZ m_w m_h m_c m_s m_le m_un m_he m_ro m_wi m_hi m_hr m_hp m_rn m_rw m_rh m_n m_l m_b m_to m_hs m_ho m_tx m_ik m_wt m_ac m_ap m_pa m_im m_ri) p2.toInt64 0 ((m_h - 1).toInt64) _ rfl) (va_cwS 3 hts (gS q4_1 q4_2 q1_11 q4_3) rfl rfl rfl hd_X8_in ⟨Nat.le_of_ble_eq_true rfl, Nat.le_of_ble_eq_true rfl⟩) rfl hl.1 rfl (Nat.le_of_ble_eq_true rfl) dX8_cellAt_26 ⟨Nat.zero_le _, Nat.zero_le _⟩) hS (fun _ h => h) (fun H locs hz26 hP hS => ?_)
    have hP : va_P D vwCl (mw ad cI cL cZ m_w m_h m_c m_s m_le m_un m_he m_ro m_wi m_hi m_hr m_hp m_rn m_rw m_rh m_n m_l m_b m_to m_hs m_ho m_tx m_ik m_wt m_ac m_ap m_pa m_im m_ri) H := hP
    refine lv_if_eq (tgt := 43) hx hb dX8_cellAt_29 (by decide) (fun c29 => ?_) (fun c29 => ?_)
    · have hr := (if_pos c29).symm.trans hr
      refine lv_bipush (v := 16) hx hb dX8_cellAt_43 (by decide) ?_
      subst hr
      exact ret_i hx hb hrt hlocks hP hS dX8_cellAt_45
    · have hr := (if_neg c29).symm.trans hr
      refine lv_iload_n hx hb dX8_cellAt_32 rfl (lv_at hl 2 rfl) ?_
      refine lv_aload_n hx hb dX8_cellAt_33 rfl (lv_at hl 0 rfl) ?_
      refine va_get (D := D) (ci := 8) (v := .int m_w) (C := RX8) (T := TX8) (N := 29) hx hb hts u_X8 hown hk.1 hP 0 rfl rfl 3 (by decide) (hts _ q4_15) (fun _ h9 => h9) rfl dX8_cellAt_34 ?_
      refine lv_imul hx hb dX8_cellAt_37 ?_
      refine lv_iload_n hx hb dX8_cellAt_38 rfl (lv_at hl 1 rfl) ?_
      refine lv_iadd hx hb dX8_cellAt_39 ?_
      refine lv_goto (tgt := 45) hx hb dX8_cellAt_40 (by decide) ?_
      subst hr
      exact ret_i hx hb hrt hlocks hP hS dX8_cellAt_45
