theorem hd_X7_at : yX7_at.cls ≠ "java/lang/invoke/MethodHandle" ∧ yX7_at.cls ≠ "java/lang/invoke/VarHandle" ∧ (parseMethodDescriptor yX7_at.desc).map (fun d => d.parameters.length) = some 2 := by decide +kernel
def f_X7_at (p1 : Int32) (n0 : Nat) (g_f : Nat → Int32) : Int32 := (if p1 < 0 then (-9) else (if (nI n0) ≤ p1 then (-9) else g_f p1.toNatClampNeg))
set_option maxHeartbeats 4000000 in
set_option maxRecDepth 100000 in
theorem c_X7_at (l : Launch) (D : va_G) (cI cL cZ : ClassId) (A : Nat → Prop) (ws : va_W) (q0 a0 n0 : Nat) (e0 : va_E) (hq : ws[q0]? = some (a0, e0)) (hD : va_D A ws) (g_f : Nat → Int32) (p1 : Int32) (r : Int32) (hr : f_X7_at p1 n0 g_f = r) (hn : n0 < 2 ^ 31) : MI l yX7_at (Cond.code yX7_at cX7_at 2 (some .int) :: W0) 0 0 D cI cL cZ A [.ref a0, .int p1] (ws.set q0 (a0, .inl (cI, n0, .inl g_f))) r (ws.set q0 (a0, .inl (cI, n0, .inl g_f))) := by
  refine mk_start (cc := cX7_at) (maxL := 2) (ret := (some .int)) (by decide) rfl (Nat.le_of_ble_eq_true rfl) ?_
  intro p e s m below meth c ls C hP hS hl
  obtain ⟨hx, hb, hml, hrt, hlocks, hown, hts, hk⟩ := C
  have hown : s.vm.findClass RX7 = some m.cls := hown
  have hl : lv_has ls 2 [(0, .ref a0), (1, .int p1)] := hl
  rw [f_X7_at] at hr
  refine lv_iload_n hx hb dX7_at_0 rfl (lv_at hl 1 rfl) ?_
  refine lv_if_lt (tgt := 16) hx hb dX7_at_1 (by decide) (fun c1 => ?_) (fun c1 => ?_)
  · have hr := (if_pos c1).symm.trans hr
    refine lv_bipush (v := (-9)) hx hb dX7_at_16 (by decide) ?_
    subst hr
    exact ret_i hx hb hrt hlocks hP hS dX7_at_18
  · have hr := (if_neg c1).symm.trans hr
    refine lv_iload_n hx hb dX7_at_4 rfl (lv_at hl 1 rfl) ?_
    refine lv_aload_n hx hb dX7_at_5 rfl (lv_at hl 0 rfl) ?_
    refine va_alen hx hb hk.1 hP q0 0 (List.getElem?_set_self (List.getElem?_eq_some_iff.mp hq).1) rfl rfl dX7_at_6 ?_
    refine lv_icmp_ge (tgt := 16) hx hb dX7_at_7 (by decide) (fun c7 => ?_) (fun c7 => ?_)
    · have hr := (if_pos c7).symm.trans hr
      refine lv_bipush (v := (-9)) hx hb dX7_at_16 (by decide) ?_
      subst hr
      exact ret_i hx hb hrt hlocks hP hS dX7_at_18
    · have hr := (if_neg c7).symm.trans hr
      refine lv_aload_n hx hb dX7_at_10 rfl (lv_at hl 0 rfl) ?_
      refine lv_iload_n hx hb dX7_at_11 rfl (lv_at hl 1 rfl) ?_
      refine va_iald hx hb hk.1 hP q0 0 (List.getElem?_set_self (List.getElem?_eq_some_iff.mp hq).1) rfl (vin_g hn (nn_of c1) c7) dX7_at_12 ?_
      refine lv_goto (tgt := 18) hx hb dX7_at_13 (by decide) ?_
      subst hr
      exact ret_i hx hb hrt hlocks hP hS dX7_at_18
theorem hd_X7_at_ : yX7_at_.cls ≠ "java/lang/invoke/MethodHandle" ∧ yX7_at_.cls ≠ "java/lang/invoke/VarHandle" ∧ (parseMethodDescriptor yX7_at_.desc).map (fun d => d.parameters.length) = some 2 := by decide +kernel
def f_X7_at_ (p1 : Int32) (n0 : Nat) (g_f : Nat → Int64) : Int64 := (if p1 < 0 then 0 else (if (nI n0) ≤ p1 then 0 else g_f p1.toNatClampNeg))
set_option maxHeartbeats 4000000 in
set_option maxRecDepth 100000 in
theorem c_X7_at_ (l : Launch) (D : va_G) (cI cL cZ : ClassId) (A : Nat → Prop) (ws : va_W) (q0 a0 n0 : Nat) (e0 : va_E) (hq : ws[q0]? = some (a0, e0)) (hD : va_D A ws) (g_f : Nat → Int64) (p1 : Int32) (r : Int64) (hr : f_X7_at_ p1 n0 g_f = r) (hn : n0 < 2 ^ 31) : ML l yX7_at_ (Cond.code yX7_at_ cX7_at_ 2 (some .long) :: W0) 0 0 D cI cL cZ A [.ref a0, .int p1] (ws.set q0 (a0, .inl (cL, n0, .inr (.inl g_f)))) r (ws.set q0 (a0, .inl (cL, n0, .inr (.inl g_f)))) := by
  refine mk_start (cc := cX7_at_) (maxL := 2) (ret := (some .long)) (by decide) rfl (Nat.le_of_ble_eq_true rfl) ?_
  intro p e s m below meth c ls C hP hS hl
  obtain ⟨hx, hb, hml, hrt, hlocks, hown, hts, hk⟩ := C
  have hown : s.vm.findClass RX7 = some m.cls := hown
  have hl : lv_has ls 2 [(0, .ref a0), (1, .int p1)] := hl
  rw [f_X7_at_] at hr
  refine lv_iload_n hx hb dX7_at__0 rfl (lv_at hl 1 rfl) ?_
  refine lv_if_lt (tgt := 16) hx hb dX7_at__1 (by decide) (fun c1 => ?_) (fun c1 => ?_)
  · have hr := (if_pos c1).symm.trans hr
    refine lv_lconst (v := 0) hx hb dX7_at__16 (by decide) ?_
    subst hr
    exact ret_l hx hb hrt hlocks hP hS dX7_at__17
  · have hr := (if_neg c1).symm.trans hr
    refine lv_iload_n hx hb dX7_at__4 rfl (lv_at hl 1 rfl) ?_
    refine lv_aload_n hx hb dX7_at__5 rfl (lv_at hl 0 rfl) ?_
    refine va_alen hx hb hk.1 hP q0 1 (List.getElem?_set_self (List.getElem?_eq_some_iff.mp hq).1) rfl rfl dX7_at__6 ?_
    refine lv_icmp_ge (tgt := 16) hx hb dX7_at__7 (by decide) (fun c7 => ?_) (fun c7 => ?_)
    · have hr := (if_pos c7).symm.trans hr
      refine lv_lconst (v := 0) hx hb dX7_at__16 (by decide) ?_
      subst hr
      exact ret_l hx hb hrt hlocks hP hS dX7_at__17
    · have hr := (if_neg c7).symm.trans hr
      refine lv_aload_n hx hb dX7_at__10 rfl (lv_at hl 0 rfl) ?_
      refine lv_iload_n hx hb dX7_at__11 rfl (lv_at hl 1 rfl) ?_
      refine va_lald hx hb hk.1 hP q0 1 (List.getElem?_set_self (List.getElem?_eq_some_iff.mp hq).1) rfl (vin_g hn (nn_of c1) c7) dX7_at__12 ?_
      refine lv_goto (tgt := 17) hx hb dX7_at__13 (by decide) ?_
      subst hr
      exact ret_l hx hb hrt hlocks hP hS dX7_at__17
theorem hd_X7_put : yX7_put.cls ≠ "java/lang/invoke/MethodHandle" ∧ yX7_put.cls ≠ "java/lang/invoke/VarHandle" ∧ (parseMethodDescriptor yX7_put.desc).map (fun d => d.parameters.length) = some 3 := by decide +kernel
def f_X7_put (p1 : Int32) (p2 : Int32) (n0 : Nat) (g_f : Nat → Int32) : (Nat → Int32) := (if p1 < 0 then g_f else (if (nI n0) ≤ p1 then g_f else upd g_f p1.toNatClampNeg p2))
set_option maxHeartbeats 4000000 in
set_option maxRecDepth 100000 in
theorem c_X7_put (l : Launch) (D : va_G) (cI cL cZ : ClassId) (A : Nat → Prop) (ws : va_W) (q0 a0 n0 : Nat) (e0 : va_E) (hq : ws[q0]? = some (a0, e0)) (hD : va_D A ws) (g_f : Nat → Int32) (p1 p2 : Int32) (r : (Nat → Int32)) (hr : f_X7_put p1 p2 n0 g_f = r) (hn : n0 < 2 ^ 31) : MV l yX7_put (Cond.code yX7_put cX7_put 3 none :: W0) 0 0 D cI cL cZ A [.ref a0, .int p1, .int p2] (ws.set q0 (a0, .inl (cI, n0, .inl g_f))) (ws.set q0 (a0, .inl (cI, n0, .inl r))) := by
  refine mk_start (cc := cX7_put) (maxL := 3) (ret := none) (by decide) rfl (Nat.le_of_ble_eq_true rfl) ?_
  intro p e s m below meth c ls C hP hS hl
  obtain ⟨hx, hb, hml, hrt, hlocks, hown, hts, hk⟩ := C
  have hown : s.vm.findClass RX7 = some m.cls := hown
  have hl : lv_has ls 3 [(0, .ref a0), (1, .int p1), (2, .int p2)] := hl
  rw [f_X7_put] at hr
  refine lv_iload_n hx hb dX7_put_0 rfl (lv_at hl 1 rfl) ?_
  refine lv_if_lt (tgt := 14) hx hb dX7_put_1 (by decide) (fun c1 => ?_) (fun c1 => ?_)
  · have hr := (if_pos c1).symm.trans hr
    subst hr
    exact ret_v hx hb hrt hlocks hP hS dX7_put_14
  · have hr := (if_neg c1).symm.trans hr
    refine lv_iload_n hx hb dX7_put_4 rfl (lv_at hl 1 rfl) ?_
    refine lv_aload_n hx hb dX7_put_5 rfl (lv_at hl 0 rfl) ?_
    refine va_alen hx hb hk.1 hP q0 0 (List.getElem?_set_self (List.getElem?_eq_some_iff.mp hq).1) rfl rfl dX7_put_6 ?_
    refine lv_icmp_ge (tgt := 14) hx hb dX7_put_7 (by decide) (fun c7 => ?_) (fun c7 => ?_)
    · have hr := (if_pos c7).symm.trans hr
      subst hr
      exact ret_v hx hb hrt hlocks hP hS dX7_put_14
    · have hr := (if_neg c7).symm.trans hr
      refine lv_aload_n hx hb dX7_put_10 rfl (lv_at hl 0 rfl) ?_
      refine lv_iload_n hx hb dX7_put_11 rfl (lv_at hl 1 rfl) ?_
      refine lv_iload_n hx hb dX7_put_12 rfl (lv_at hl 2 rfl) ?_
      refine va_iast hx hb hk.1 hP (va_D.set hD hq) hS q0 0 (List.getElem?_set_self (List.getElem?_eq_some_iff.mp hq).1) rfl (vin_g hn (nn_of c1) c7) dX7_put_13 (fun H locs hP _ hS => ?_)
      rw [List.set_set] at hP
      have hP : va_P D vwCl (ws.set q0 (a0, .inl (cI, n0, .inl (upd g_f p1.toNatClampNeg p2)))) H := hP
      subst hr
      exact ret_v hx hb hrt hlocks hP hS dX7_put_14
theorem hd_X7_put_ : yX7_put_.cls ≠ "java/lang/invoke/MethodHandle" ∧ yX7_put_.cls ≠ "java/lang/invoke/VarHandle" ∧ (parseMethodDescriptor yX7_put_.desc).map (fun d => d.parameters.length) = some 3 := by decide +kernel
def f_X7_put_ (p1 : Int32) (p2 : Int64) (n0 : Nat) (g_f : Nat → Int64) : (Nat → Int64) := (if p1 < 0 then g_f else (if (nI n0) ≤ p1 then g_f else vp_updL g_f p1.toNatClampNeg p2))
set_option maxHeartbeats 4000000 in
set_option maxRecDepth 100000 in
theorem c_X7_put_ (l : Launch) (D : va_G) (cI cL cZ : ClassId) (A : Nat → Prop) (ws : va_W) (q0 a0 n0 : Nat) (e0 : va_E) (hq : ws[q0]? = some (a0, e0)) (hD : va_D A ws) (g_f : Nat → Int64) (p1 : Int32) (p2 : Int64) (r : (Nat → Int64)) (hr : f_X7_put_ p1 p2 n0 g_f = r) (hn : n0 < 2 ^ 31) : MV l yX7_put_ (Cond.code yX7_put_ cX7_put_ 4 none :: W0) 0 0 D cI cL cZ A [.ref a0, .int p1, .long p2] (ws.set q0 (a0, .inl (cL, n0, .inr (.inl g_f)))) (ws.set q0 (a0, .inl (cL, n0, .inr (.inl r)))) := by
  refine mk_start (cc := cX7_put_) (maxL := 4) (ret := none) (by decide) rfl (Nat.le_of_ble_eq_true rfl) ?_
  intro p e s m below meth c ls C hP hS hl
  obtain ⟨hx, hb, hml, hrt, hlocks, hown, hts, hk⟩ := C
  have hown : s.vm.findClass RX7 = some m.cls := hown
  have hl : lv_has ls 4 [(0, .ref a0), (1, .int p1), (2, .long p2)] := hl
  rw [f_X7_put_] at hr
  refine lv_iload_n hx hb dX7_put__0 rfl (lv_at hl 1 rfl) ?_
  refine lv_if_lt (tgt := 14) hx hb dX7_put__1 (by decide) (fun c1 => ?_) (fun c1 => ?_)
  · have hr := (if_pos c1).symm.trans hr
    subst hr
    exact ret_v hx hb hrt hlocks hP hS dX7_put__14
  · have hr := (if_neg c1).symm.trans hr
    refine lv_iload_n hx hb dX7_put__4 rfl (lv_at hl 1 rfl) ?_
    refine lv_aload_n hx hb dX7_put__5 rfl (lv_at hl 0 rfl) ?_
    refine va_alen hx hb hk.1 hP q0 1 (List.getElem?_set_self (List.getElem?_eq_some_iff.mp hq).1) rfl rfl dX7_put__6 ?_
    refine lv_icmp_ge (tgt := 14) hx hb dX7_put__7 (by decide) (fun c7 => ?_) (fun c7 => ?_)
    · have hr := (if_pos c7).symm.trans hr
      subst hr
      exact ret_v hx hb hrt hlocks hP hS dX7_put__14
    · have hr := (if_neg c7).symm.trans hr
      refine lv_aload_n hx hb dX7_put__10 rfl (lv_at hl 0 rfl) ?_
      refine lv_iload_n hx hb dX7_put__11 rfl (lv_at hl 1 rfl) ?_
      refine lv_lload_n hx hb dX7_put__12 rfl (lv_at hl 2 rfl) ?_
      refine va_last hx hb hk.1 hP (va_D.set hD hq) hS q0 1 (List.getElem?_set_self (List.getElem?_eq_some_iff.mp hq).1) rfl (vin_g hn (nn_of c1) c7) dX7_put__13 (fun H locs hP _ hS => ?_)
      rw [List.set_set] at hP
      have hP : va_P D vwCl (ws.set q0 (a0, .inl (cL, n0, .inr (.inl (vp_updL g_f p1.toNatClampNeg p2))))) H := hP
      subst hr
      exact ret_v hx hb hrt hlocks hP hS dX7_put__14
theorem hd_J7_fill_53178 : yJ7_fill_53178.cls ≠ "java/lang/invoke/MethodHandle" ∧ yJ7_fill_53178.cls ≠ "java/lang/invoke/VarHandle" ∧ (parseMethodDescriptor yJ7_fill_53178.desc).map (fun d => d.parameters.length) = some 2 := by decide +kernel
def F_J7_fill_53178_5 (y1 : Int32) (y3 : Int32) {β : Type} (k0 : (Nat → Int32) → β) : Nat → Int32 → (Nat → Int32) → β
  | 0, x2, g_f => k0 g_f
  | n + 1, x2, g_f => (if y3 ≤ x2 then k0 g_f else F_J7_fill_53178_5 y1 y3 k0 n (x2 + 1) (upd g_f x2.toNatClampNeg y1))
def f_J7_fill_53178 (p1 : Int32) (n0 : Nat) (g_f : Nat → Int32) : (Nat → Int32) := F_J7_fill_53178_5 p1 (nI n0) (fun z1 => z1) (fu (nI n0) (0 : Int32)) 0 g_f
set_option maxHeartbeats 4000000 in
set_option maxRecDepth 100000 in
theorem lp_J7_fill_53178_5 (l : Launch) (D : va_G) (cI cL cZ : ClassId) (A : Nat → Prop) (ws : va_W) (q0 a0 n0 : Nat) (e0 : va_E) (hq : ws[q0]? = some (a0, e0)) (hD : va_D A ws) (hn : n0 < 2 ^ 31) {p : Program} {e : Env} {s : State} {m : MethodId} {args : Array Value} {below : List Frame} {meth : Method} {c : Code} {Q : State → Prop} (C : Cx p s m args meth c cJ7_fill_53178 4 none W0 RJ7 D cI cL cZ) (y1 y3 : Int32) (h3 : y3 = nI n0) {β : Type} (k0 : (Nat → Int32) → β) (r : β)
    (h0 : ∀ (g_f : Nat → Int32) (H : Heap) (locs : List Loc) (ls : Array Slot), k0 g_f = r → va_P D vwCl (ws.set q0 (a0, .inl (cI, n0, .inl g_f))) H → va_S A s.heap H locs → lv_has ls 4 [] → W p l e (rmS 0 0) s m args below meth c H locs 0 0 Q (F0 m 20 ls [])) :
    ∀ (n : Nat) (x2 : Int32) (g_f : Nat → Int32) (H : Heap) (locs : List Loc) (ls : Array Slot), fuU n y3 x2 → F_J7_fill_53178_5 y1 y3 k0 n x2 g_f = r → va_P D vwCl (ws.set q0 (a0, .inl (cI, n0, .inl g_f))) H → va_S A s.heap H locs → lv_has ls 4 [(0, .ref a0), (1, .int y1), (2, .int x2), (3, .int y3)] → W p l e (rmS 0 0) s m args below meth c H locs 0 0 Q (F0 m 5 ls []) := by
  obtain ⟨hx, hb, hml, hrt, hlocks, hown, hts, hk⟩ := C
  intro n
  induction n with
  | zero =>
    intro x2 g_f H locs ls hf
    exact absurd hf.1 (Nat.lt_irrefl 0)
  | succ n ih =>
    intro x2 g_f H locs ls hf hr hP hS hl
    rw [F_J7_fill_53178_5] at hr
    refine lv_iload_n hx hb dJ7_fill_53178_5 rfl (lv_at hl 2 rfl) ?_
    refine lv_iload_n hx hb dJ7_fill_53178_6 rfl (lv_at hl 3 rfl) ?_
    refine lv_icmp_ge (tgt := 20) hx hb dJ7_fill_53178_7 (by decide) (fun c7 => ?_) (fun c7 => ?_)
    · have hr := (if_pos c7).symm.trans hr
      exact h0 g_f _ _ _ hr hP hS (lv_sub hl [] rfl)
    · have hr := (if_neg c7).symm.trans hr
      refine lv_aload_n hx hb dJ7_fill_53178_10 rfl (lv_at hl 0 rfl) ?_
      refine lv_iload_n hx hb dJ7_fill_53178_11 rfl (lv_at hl 2 rfl) ?_
      refine lv_iload_n hx hb dJ7_fill_53178_12 rfl (lv_at hl 1 rfl) ?_
      refine va_iast hx hb hk.1 hP (va_D.set hD hq) hS q0 0 (List.getElem?_set_self (List.getElem?_eq_some_iff.mp hq).1) rfl (vin_g hn hf.2.2 (h3 ▸ c7)) dJ7_fill_53178_13 (fun H locs hP _ hS => ?_)
      rw [List.set_set] at hP
      have hP : va_P D vwCl (ws.set q0 (a0, .inl (cI, n0, .inl (upd g_f x2.toNatClampNeg y1)))) H := hP
      refine lv_iinc (v := x2 + 1) (lv' := [(2, .int (x2 + 1)), (0, .ref a0), (1, .int y1), (3, .int y3)]) hx hb dJ7_fill_53178_14 hl (k := 2) rfl rfl (by decide) rfl (fun ls hl => ?_)
      refine lv_goto (tgt := 5) hx hb dJ7_fill_53178_17 (by decide) ?_
      exact ih (x2 + 1) (upd g_f x2.toNatClampNeg y1) _ _ _ (fuU_s hf c7) hr hP hS (lv_sub hl [1, 2, 0, 3] rfl)
set_option maxHeartbeats 4000000 in
set_option maxRecDepth 100000 in
theorem c_J7_fill_53178 (l : Launch) (D : va_G) (cI cL cZ : ClassId) (A : Nat → Prop) (ws : va_W) (q0 a0 n0 : Nat) (e0 : va_E) (hq : ws[q0]? = some (a0, e0)) (hD : va_D A ws) (g_f : Nat → Int32) (p1 : Int32) (r : (Nat → Int32)) (hr : f_J7_fill_53178 p1 n0 g_f = r) (hn : n0 < 2 ^ 31) : MV l yJ7_fill_53178 (Cond.code yJ7_fill_53178 cJ7_fill_53178 4 none :: W0) 0 0 D cI cL cZ A [.ref a0, .int p1] (ws.set q0 (a0, .inl (cI, n0, .inl g_f))) (ws.set q0 (a0, .inl (cI, n0, .inl r))) := by
  refine mk_start (cc := cJ7_fill_53178) (maxL := 4) (ret := none) (by decide) rfl (Nat.le_of_ble_eq_true rfl) ?_
  intro p e s m below meth c ls C hP hS hl
  obtain ⟨hx, hb, hml, hrt, hlocks, hown, hts, hk⟩ := C
  have hown : s.vm.findClass RJ7 = some m.cls := hown
  have hl : lv_has ls 4 [(0, .ref a0), (1, .int p1)] := hl
  rw [f_J7_fill_53178] at hr
  refine lv_iconst (v := 0) hx hb dJ7_fill_53178_0 (by decide) ?_
  refine lv_istore_n (lv' := [(2, .int 0), (0, .ref a0), (1, .int p1)]) hx hb dJ7_fill_53178_1 rfl hl (by decide) rfl (fun ls hl => ?_)
  refine lv_aload_n hx hb dJ7_fill_53178_2 rfl (lv_at hl 1 rfl) ?_
  refine va_alen hx hb hk.1 hP q0 0 (List.getElem?_set_self (List.getElem?_eq_some_iff.mp hq).1) rfl rfl dJ7_fill_53178_3 ?_
  refine lv_istore_n (lv' := [(3, .int (nI n0)), (2, .int 0), (0, .ref a0), (1, .int p1)]) hx hb dJ7_fill_53178_4 rfl hl (by decide) rfl (fun ls hl => ?_)
  refine lp_J7_fill_53178_5 l D cI cL cZ A ws q0 a0 n0 e0 hq hD hn ⟨hx, hb, hml, hrt, hlocks, hown, hts, hk⟩ p1 (nI n0) rfl _ _ (fun z1 H locs ls hr hP hS hl => ?_) (fu (nI n0) (0 : Int32)) 0 g_f _ _ _ (fuU_0 (by decide)) hr hP hS (lv_sub hl [2, 3, 1, 0] rfl)
  subst hr
  exact ret_v hx hb hrt hlocks hP hS dJ7_fill_53178_20
theorem hd_J7_fill_d0a16 : yJ7_fill_d0a16.cls ≠ "java/lang/invoke/MethodHandle" ∧ yJ7_fill_d0a16.cls ≠ "java/lang/invoke/VarHandle" ∧ (parseMethodDescriptor yJ7_fill_d0a16.desc).map (fun d => d.parameters.length) = some 2 := by decide +kernel
def F_J7_fill_d0a16_6 (y1 : Int64) (y4 : Int32) {β : Type} (k0 : (Nat → Int64) → β) : Nat → Int32 → (Nat → Int64) → β
  | 0, x3, g_f => k0 g_f
  | n + 1, x3, g_f => (if y4 ≤ x3 then k0 g_f else F_J7_fill_d0a16_6 y1 y4 k0 n (x3 + 1) (vp_updL g_f x3.toNatClampNeg y1))
def f_J7_fill_d0a16 (p1 : Int64) (n0 : Nat) (g_f : Nat → Int64) : (Nat → Int64) := F_J7_fill_d0a16_6 p1 (nI n0) (fun z1 => z1) (fu (nI n0) (0 : Int32)) 0 g_f
set_option maxHeartbeats 4000000 in
set_option maxRecDepth 100000 in
theorem lp_J7_fill_d0a16_6 (l : Launch) (D : va_G) (cI cL cZ : ClassId) (A : Nat → Prop) (ws : va_W) (q0 a0 n0 : Nat) (e0 : va_E) (hq : ws[q0]? = some (a0, e0)) (hD : va_D A ws) (hn : n0 < 2 ^ 31) {p : Program} {e : Env} {s : State} {m : MethodId} {args : Array Value} {below : List Frame} {meth : Method} {c : Code} {Q : State → Prop} (C : Cx p s m args meth c cJ7_fill_d0a16 5 none W0 RJ7 D cI cL cZ) (y1 : Int64) (y4 : Int32) (h3 : y4 = nI n0) {β : Type} (k0 : (Nat → Int64) → β) (r : β)
    (h0 : ∀ (g_f : Nat → Int64) (H : Heap) (locs : List Loc) (ls : Array Slot), k0 g_f = r → va_P D vwCl (ws.set q0 (a0, .inl (cL, n0, .inr (.inl g_f)))) H → va_S A s.heap H locs → lv_has ls 5 [] → W p l e (rmS 0 0) s m args below meth c H locs 0 0 Q (F0 m 22 ls [])) :
    ∀ (n : Nat) (x3 : Int32) (g_f : Nat → Int64) (H : Heap) (locs : List Loc) (ls : Array Slot), fuU n y4 x3 → F_J7_fill_d0a16_6 y1 y4 k0 n x3 g_f = r → va_P D vwCl (ws.set q0 (a0, .inl (cL, n0, .inr (.inl g_f)))) H → va_S A s.heap H locs → lv_has ls 5 [(0, .ref a0), (1, .long y1), (3, .int x3), (4, .int y4)] → W p l e (rmS 0 0) s m args below meth c H locs 0 0 Q (F0 m 6 ls []) := by
  obtain ⟨hx, hb, hml, hrt, hlocks, hown, hts, hk⟩ := C
  intro n
  induction n with
  | zero =>
    intro x3 g_f H locs ls hf
    exact absurd hf.1 (Nat.lt_irrefl 0)
  | succ n ih =>
    intro x3 g_f H locs ls hf hr hP hS hl
    rw [F_J7_fill_d0a16_6] at hr
    refine lv_iload_n hx hb dJ7_fill_d0a16_6 rfl (lv_at hl 2 rfl) ?_
    refine lv_iload hx hb dJ7_fill_d0a16_7 (lv_at hl 3 rfl) ?_
    refine lv_icmp_ge (tgt := 22) hx hb dJ7_fill_d0a16_9 (by decide) (fun c9 => ?_) (fun c9 => ?_)
    · have hr := (if_pos c9).symm.trans hr
      exact h0 g_f _ _ _ hr hP hS (lv_sub hl [] rfl)
    · have hr := (if_neg c9).symm.trans hr
      refine lv_aload_n hx hb dJ7_fill_d0a16_12 rfl (lv_at hl 0 rfl) ?_
      refine lv_iload_n hx hb dJ7_fill_d0a16_13 rfl (lv_at hl 2 rfl) ?_
      refine lv_lload_n hx hb dJ7_fill_d0a16_14 rfl (lv_at hl 1 rfl) ?_
      refine va_last hx hb hk.1 hP (va_D.set hD hq) hS q0 1 (List.getElem?_set_self (List.getElem?_eq_some_iff.mp hq).1) rfl (vin_g hn hf.2.2 (h3 ▸ c9)) dJ7_fill_d0a16_15 (fun H locs hP _ hS => ?_)
      rw [List.set_set] at hP
      have hP : va_P D vwCl (ws.set q0 (a0, .inl (cL, n0, .inr (.inl (vp_updL g_f x3.toNatClampNeg y1))))) H := hP
      refine lv_iinc (v := x3 + 1) (lv' := [(3, .int (x3 + 1)), (0, .ref a0), (1, .long y1), (4, .int y4)]) hx hb dJ7_fill_d0a16_16 hl (k := 2) rfl rfl (by decide) rfl (fun ls hl => ?_)
      refine lv_goto (tgt := 6) hx hb dJ7_fill_d0a16_19 (by decide) ?_
      exact ih (x3 + 1) (vp_updL g_f x3.toNatClampNeg y1) _ _ _ (fuU_s hf c9) hr hP hS (lv_sub hl [1, 2, 0, 3] rfl)
set_option maxHeartbeats 4000000 in
set_option maxRecDepth 100000 in
theorem c_J7_fill_d0a16 (l : Launch) (D : va_G) (cI cL cZ : ClassId) (A : Nat → Prop) (ws : va_W) (q0 a0 n0 : Nat) (e0 : va_E) (hq : ws[q0]? = some (a0, e0)) (hD : va_D A ws) (g_f : Nat → Int64) (p1 : Int64) (r : (Nat → Int64)) (hr : f_J7_fill_d0a16 p1 n0 g_f = r) (hn : n0 < 2 ^ 31) : MV l yJ7_fill_d0a16 (Cond.code yJ7_fill_d0a16 cJ7_fill_d0a16 5 none :: W0) 0 0 D cI cL cZ A [.ref a0, .long p1] (ws.set q0 (a0, .inl (cL, n0, .inr (.inl g_f)))) (ws.set q0 (a0, .inl (cL, n0, .inr (.inl r)))) := by
  refine mk_start (cc := cJ7_fill_d0a16) (maxL := 5) (ret := none) (by decide) rfl (Nat.le_of_ble_eq_true rfl) ?_
  intro p e s m below meth c ls C hP hS hl
  obtain ⟨hx, hb, hml, hrt, hlocks, hown, hts, hk⟩ := C
  have hown : s.vm.findClass RJ7 = some m.cls := hown
  have hl : lv_has ls 5 [(0, .ref a0), (1, .long p1)] := hl
  rw [f_J7_fill_d0a16] at hr
  refine lv_iconst (v := 0) hx hb dJ7_fill_d0a16_0 (by decide) ?_
  refine lv_istore_n (lv' := [(3, .int 0), (0, .ref a0), (1, .long p1)]) hx hb dJ7_fill_d0a16_1 rfl hl (by decide) rfl (fun ls hl => ?_)
  refine lv_aload_n hx hb dJ7_fill_d0a16_2 rfl (lv_at hl 1 rfl) ?_
  refine va_alen hx hb hk.1 hP q0 1 (List.getElem?_set_self (List.getElem?_eq_some_iff.mp hq).1) rfl rfl dJ7_fill_d0a16_3 ?_
  refine lv_istore (lv' := [(4, .int (nI n0)), (3, .int 0), (0, .ref a0), (1, .long p1)]) hx hb dJ7_fill_d0a16_4 hl (by decide) rfl (fun ls hl => ?_)
  refine lp_J7_fill_d0a16_6 l D cI cL cZ A ws q0 a0 n0 e0 hq hD hn ⟨hx, hb, hml, hrt, hlocks, hown, hts, hk⟩ p1 (nI n0) rfl _ _ (fun z1 H locs ls hr hP hS hl => ?_) (fu (nI n0) (0 : Int32)) 0 g_f _ _ _ (fuU_0 (by decide)) hr hP hS (lv_sub hl [2, 3, 1, 0] rfl)
  subst hr
  exact ret_v hx hb hrt hlocks hP hS dJ7_fill_d0a16_22
