theorem nk_eq {D : va_G} {cI cL cZ cA : ClassId} {s : State} {ty : FieldType} (k : Nat) (h : va_K D vwCl ([(cI, .int), (cL, .long), (cZ, .boolean)] ++ [(cA, ty)]) s) (c : ClassId) (hk : ([(cI, FieldType.int), (cL, .long), (cZ, .boolean)] : List (ClassId × FieldType))[k]? = some (c, ty)) (hty : ∀ C, ty ≠ .object C) (h3 : k < 3) : cA = c := by
  have h1 := (h.2 3 (cA, ty) rfl).2
  have h2 := (h.2 k (c, ty) (by rw [List.getElem?_append_left (by simpa using h3)]; exact hk)).2
  cases ty with
  | object C => exact absurd rfl (hty C)
  | _ =>
    have g1 : s.vm.findClass _ = some cA := h1
    have g2 : s.vm.findClass _ = some c := h2
    rw [g1] at g2
    exact Option.some.inj g2
def adl (l : List Nat) : Nat → Nat := fun k => l.getD k 0
def pC (D : va_G) (cI cL cZ : ClassId) (sz : Nat) (ws : va_W) (U : State) : Prop := U.heap.size = sz ∧ va_P D vwCl ws U.heap ∧ kk D cI cL cZ U
theorem pC.blind {D : va_G} {cI cL cZ : ClassId} {sz : Nat} {ws : va_W} {av : List Value} : FrameBlind (va_Pc av (pC D cI cL cZ sz ws)) := fun _ _ _ _ q => ⟨q.1, q.2.1, q.2.2.1, q.2.2.2.calling⟩
theorem pC.pre {D : va_G} {cI cL cZ : ClassId} {ws : va_W} {s : State} {H : Heap} (hP : va_P D vwCl ws H) (hk : kk D cI cL cZ s) {av : List Value} : ∀ U : State, U.heap = H → s.WarmedH U.vm → va_Pc av (pC D cI cL cZ H.size ws) av.toArray U := fun U hU hW => ⟨rfl, by rw [hU], by rw [hU]; exact hP, hk.warm hW⟩
abbrev qC (D : va_G) (A : Nat → Prop) (w : (Nat → Nat) → va_W) : Array Value → State → Outcome → State → Prop := va_Qv (fun (_ : Nat → Nat) => True) (fun u t => va_P D vwCl (w u) t.heap ∧ va_D A (w u)) A
theorem va_D1 {A : Nat → Prop} {a : Nat} {e : va_E} (h : A a) : va_D A [(a, e)] := by
  refine ⟨fun i j p q hi hj _ => ?_, fun k q hk => ?_⟩
  · have h1 := (List.getElem?_eq_some_iff.mp hi).1
    have h2 := (List.getElem?_eq_some_iff.mp hj).1
    simp only [List.length_cons, List.length_nil] at h1 h2
    omega
  · have h1 := (List.getElem?_eq_some_iff.mp hk).1
    simp only [List.length_cons, List.length_nil] at h1
    have h2 : k = 0 := by omega
    subst h2
    cases hk
    exact h
theorem va_A1 (a : Nat) (e : va_E) (sz : Nat) : va_A [(a, e)] sz a := Or.inl ⟨0, e, rfl⟩
theorem mk_ctor {l : Launch} {y : MethodName} {rm : Room} {D : va_G} {cI cL cZ : ClassId} {h0 sz : Nat} {e0 : va_E} {av : List Value} {w1 : (Nat → Nat) → va_W} {cc : ByteArray} {maxL mc ms : Nat}
    (hy : plainName y.cls = true) (hn : (lg_sl av).length ≤ maxL)
    (body : ∀ (p : Program) (e : Env) (s : State) (m : MethodId) (below : List Frame) (meth : Method) (c : Code) (ls : Array Slot) (A : Nat → Prop), A = va_A [(h0, e0)] s.heap.size → (∀ q : Nat, s.heap.size ≤ q → A q) → meth.name = y.name → Cx p s m av.toArray meth c cc maxL none W0 y.cls D cI cL cZ → va_P D vwCl [(h0, e0)] s.heap → va_D A [(h0, e0)] → va_S A s.heap s.heap [] → lv_has ls maxL (lv_args 0 av) → W p l e rm s m av.toArray below meth c s.heap [] 0 0 (MQ below (qC D A w1) av.toArray s mc ms A) (F0 m 0 ls [])) :
    Met l y (Cond.code y cc maxL none :: W0) rm (va_Pc av (pC D cI cL cZ sz [(h0, e0)])) (qC D (va_A [(h0, e0)] sz) w1) mc ms (va_A [(h0, e0)] sz) := by
  refine Met.ofW (cc := cc) (maxL := maxL) (ret := none) hy rfl ?_
  intro p e s m args below meth c s₁ B hml hv
  obtain ⟨rfl, hsz, hP, hk⟩ := hv
  subst hsz
  rw [lg_entry_eq]
  exact body p e s m below meth c _ _ rfl (fun q h => Or.inr h) (name_of_methodNamed B.named B.method).1 ⟨B.exec, B.bytes, hml, B.returns, B.notSynchronized, findClass_of_methodNamed B.named, fun w hw1 => atoms_spec (ws := Cond.code y cc maxL none :: W0) B.pre w (List.mem_cons_of_mem _ hw1), hk⟩ hP (va_D1 (va_A1 _ _ _)) va_S.rf (lv_entry av (n := maxL) hn)
theorem inj_of {A : Nat → Prop} {ad : Nat → Nat} {n : Nat} {ws : va_W} (hD : va_D A ws) (h : ws.map (fun q => q.1) = (List.range n).map ad) : ∀ i j, i < n → j < n → ad i = ad j → i = j := by
  have key : ∀ k, k < n → ∃ q, ws[k]? = some q ∧ q.1 = ad k := by
    intro k hk
    have h1 : (ws.map (fun q => q.1))[k]? = some (ad k) := by rw [h, List.getElem?_map, List.getElem?_range hk]; rfl
    rw [List.getElem?_map] at h1
    cases hq : ws[k]? with
    | none => rw [hq] at h1; cases h1
    | some q => rw [hq] at h1; exact ⟨q, rfl, Option.some.inj h1⟩
  intro i j hi hj e
  obtain ⟨p, hp, ep⟩ := key i hi
  obtain ⟨q, hq, eq⟩ := key j hj
  exact hD.1 i j p q hp hq (by rw [ep, eq, e])
theorem ad_of {A : Nat → Prop} {ad : Nat → Nat} {n : Nat} {ws : va_W} (hD : va_D A ws) (h : ws.map (fun q => q.1) = (List.range n).map ad) : ∀ q, (∃ k, k < n ∧ q = ad k) → A q := by
  rintro q ⟨k, hk, rfl⟩
  have h1 : (ws.map (fun q => q.1))[k]? = some (ad k) := by rw [h, List.getElem?_map, List.getElem?_range hk]; rfl
  rw [List.getElem?_map] at h1
  cases hq : ws[k]? with
  | none => rw [hq] at h1; cases h1
  | some q => rw [hq] at h1; rw [← Option.some.inj h1]; exact hD.2 k q hq
theorem va_D.re {A : Nat → Prop} {w1 w2 : va_W} (hD : va_D A w1) (h : w1.map (fun q => q.1) = w2.map (fun q => q.1)) : va_D A w2 := by
  have key : ∀ (k : Nat) (q : Nat × va_E), w2[k]? = some q → ∃ e, w1[k]? = some (q.1, e) := by
    intro k q hq
    have h1 : (w2.map (fun q => q.1))[k]? = some q.1 := by rw [List.getElem?_map, hq]; rfl
    rw [← h, List.getElem?_map] at h1
    cases hp : w1[k]? with
    | none => rw [hp] at h1; cases h1
    | some p => rw [hp] at h1; exact ⟨p.2, by rw [← Option.some.inj h1]⟩
  refine ⟨fun i j p q hp hq e => ?_, fun k q hq => ?_⟩
  · obtain ⟨e1, h1⟩ := key i p hp
    obtain ⟨e2, h2⟩ := key j q hq
    exact hD.1 i j _ _ h1 h2 e
  · obtain ⟨e1, h1⟩ := key k q hq
    exact hD.2 k (q.1, e1) h1
theorem fs_X0 : ∀ j, j < 3 → defaultValue (tyX0 j) = vp_V [.long 0, .long 0, .long 0] j := by
  intro j hj
  match j, hj with
  | 0, _ => rfl
  | 1, _ => rfl
  | 2, _ => rfl
  | n + 3, h => omega
theorem fs_X1 : ∀ j, j < 6 → defaultValue (tyX1 j) = vp_V [.null, .null, .long 0, .long 0, .long 0, .int 0] j := by
  intro j hj
  match j, hj with
  | 0, _ => rfl
  | 1, _ => rfl
  | 2, _ => rfl
  | 3, _ => rfl
  | 4, _ => rfl
  | 5, _ => rfl
  | n + 6, h => omega
theorem fs_X2 : ∀ j, j < 3 → defaultValue (tyX2 j) = vp_V [.null, .int 0, .int 0] j := by
  intro j hj
  match j, hj with
  | 0, _ => rfl
  | 1, _ => rfl
  | 2, _ => rfl
  | n + 3, h => omega
theorem fs_X3 : ∀ j, j < 6 → defaultValue (tyX3 j) = vp_V [.null, .null, .int 0, .int 0, .int 0, .long 0] j := by
  intro j hj
  match j, hj with
  | 0, _ => rfl
  | 1, _ => rfl
  | 2, _ => rfl
  | 3, _ => rfl
  | 4, _ => rfl
  | 5, _ => rfl
  | n + 6, h => omega
theorem fs_X4 : ∀ j, j < 14 → defaultValue (tyX4 j) = vp_V [.int 0, .int 0, .int 0, .int 0, .int 0, .null, .null, .null, .null, .null, .null, .null, .null, .null] j := by
  intro j hj
  match j, hj with
  | 0, _ => rfl
  | 1, _ => rfl
  | 2, _ => rfl
  | 3, _ => rfl
  | 4, _ => rfl
  | 5, _ => rfl
  | 6, _ => rfl
  | 7, _ => rfl
  | 8, _ => rfl
  | 9, _ => rfl
  | 10, _ => rfl
  | 11, _ => rfl
  | 12, _ => rfl
  | 13, _ => rfl
  | n + 14, h => omega
theorem fs_X5 : ∀ j, j < 4 → defaultValue (tyX5 j) = vp_V [.null, .null, .null, .null] j := by
  intro j hj
  match j, hj with
  | 0, _ => rfl
  | 1, _ => rfl
  | 2, _ => rfl
  | 3, _ => rfl
  | n + 4, h => omega
theorem fs_X6 : ∀ j, j < 5 → defaultValue (tyX6 j) = vp_V [.null, .int 0, .int 0, .int 0, .long 0] j := by
  intro j hj
  match j, hj with
  | 0, _ => rfl
  | 1, _ => rfl
  | 2, _ => rfl
  | 3, _ => rfl
  | 4, _ => rfl
  | n + 5, h => omega
theorem fs_X7 : ∀ j, j < 9 → defaultValue (tyX7 j) = vp_V [.null, .null, .null, .null, .null, .null, .null, .null, .int 0] j := by
  intro j hj
  match j, hj with
  | 0, _ => rfl
  | 1, _ => rfl
  | 2, _ => rfl
  | 3, _ => rfl
  | 4, _ => rfl
  | 5, _ => rfl
  | 6, _ => rfl
  | 7, _ => rfl
  | 8, _ => rfl
  | n + 9, h => omega
theorem fs_X8 : ∀ j, j < 29 → defaultValue (tyX8 j) = vp_V [.long 0, .long 0, .long 0, .int 0, .int 0, .int 0, .int 0, .null, .null, .null, .null, .int 0, .null, .int 0, .null, .null, .int 0, .int 0, .int 0, .long 0, .int 0, .int 0, .int 0, .long 0, .null, .int 0, .int 0, .int 0, .null] j := by
  intro j hj
  match j, hj with
  | 0, _ => rfl
  | 1, _ => rfl
  | 2, _ => rfl
  | 3, _ => rfl
  | 4, _ => rfl
  | 5, _ => rfl
  | 6, _ => rfl
  | 7, _ => rfl
  | 8, _ => rfl
  | 9, _ => rfl
  | 10, _ => rfl
  | 11, _ => rfl
  | 12, _ => rfl
  | 13, _ => rfl
  | 14, _ => rfl
  | 15, _ => rfl
  | 16, _ => rfl
  | 17, _ => rfl
  | 18, _ => rfl
  | 19, _ => rfl
  | 20, _ => rfl
  | 21, _ => rfl
  | 22, _ => rfl
  | 23, _ => rfl
  | 24, _ => rfl
  | 25, _ => rfl
  | 26, _ => rfl
  | 27, _ => rfl
  | 28, _ => rfl
  | n + 29, h => omega
theorem hd_X6_init : yX6_init.cls = RX6 ∧ yX6_init.cls ≠ "java/lang/invoke/MethodHandle" ∧ yX6_init.cls ≠ "java/lang/invoke/VarHandle" ∧ (parseMethodDescriptor yX6_init.desc).map (fun d => d.parameters.length) = some 0 := by decide +kernel
set_option maxHeartbeats 4000000 in
set_option maxRecDepth 100000 in
theorem k_X6_init (l : Launch) (D : va_G) (cI cL cZ : ClassId) (h0 sz : Nat) : Met l yX6_init (Cond.code yX6_init cX6_init 1 none :: W0) { frames := 1, cells := 1, slots := 40, locals := 12 } (va_Pc [.ref h0] (pC D cI cL cZ sz [(h0, .inr (6, [.null, .int 0, .int 0, .int 0, .long 0]))])) (qC D (va_A [(h0, .inr (6, [.null, .int 0, .int 0, .int 0, .long 0]))] sz) (fun u => [(h0, .inr (6, [.ref (u 0), .int 0, .int 0, .int 0, .long 0])), ((u 0), .inl (cI, 40, .inl (fun _ => 0)))])) 1 40 (va_A [(h0, .inr (6, [.null, .int 0, .int 0, .int 0, .long 0]))] sz) := by
  refine mk_ctor (cc := cX6_init) (maxL := 1) (by decide) (Nat.le_of_ble_eq_true rfl) ?_
  intro p e s m below meth c ls A hAe hA hin C hP hD hS hl
  obtain ⟨hx, hb, hml, hrt, hlocks, hown, hts, hk⟩ := C
  have hown : s.vm.findClass RX6 = some m.cls := hown
  have hl : lv_has ls 1 [(0, .ref h0)] := hl
  clear hAe
  refine lv_aload_n hx hb dX6_init_0 rfl (lv_at hl 0 rfl) ?_
  refine W.objInit hx hb hown (hts _ q1_28) (hts _ q1_21) (hts _ q1_22) rfl (by rw [hml]; exact hl.1) rfl dX6_init_1 (Nat.le_of_ble_eq_true rfl) (Nat.le_of_ble_eq_true rfl) ?_
  refine W.eq (g2 := F0 m 4 ls []) rfl ?_
  refine lv_aload_n hx hb dX6_init_4 rfl (lv_at hl 0 rfl) ?_
  refine lv_bipush (v := 40) hx hb dX6_init_5 (by decide) ?_
  refine va_newa (atype := .int) (ty := .int) (N' := 40) (a0 := (40, .inl (fun _ => 0))) hx hb (hts _ q1_49) rfl hk.1 hP hD hS hA (fun _ => rfl) (by decide) (by decide) (Nat.le_of_ble_eq_true rfl) (Nat.le_of_ble_eq_true rfl) (Nat.le_of_ble_eq_true rfl) dX6_init_7 (fun q7 cA H hK2 hP hD hS => ?_)
  have hcA := nk_eq 0 hK2 _ rfl (fun _ h => by cases h) (by decide)
  rw [hcA] at hP hD
  have hP : va_P D vwCl [(h0, .inr (6, [.null, .int 0, .int 0, .int 0, .long 0])), (q7, .inl (cI, 40, .inl (fun _ => 0)))] H := hP
  have hD : va_D A [(h0, .inr (6, [.null, .int 0, .int 0, .int 0, .long 0])), (q7, .inl (cI, 40, .inl (fun _ => 0)))] := hD
  refine W.widen (k := 1) (n := 40) (Nat.le_of_ble_eq_true rfl) (Nat.le_of_ble_eq_true rfl) ?_
  refine va_putF (D := D) (ci := 6) (v := .ref q7) (ty := .array .int) (C := RX6) (T := TX6) (N := 5) hx hb hts u_X6 tyX6 tyX6_ok nmX6 hown hk.1 hP hD hS 0 rfl rfl 0 (by decide) (hts _ q1_29) (fun _ h9 => h9) rfl hin rfl (tyX6_ok 0 (by decide)) rfl rfl (Nat.le_of_ble_eq_true rfl) dX6_init_9 (fun H locs hP hD hS => ?_)
  have hP : va_P D vwCl [(h0, .inr (6, [.ref q7, .int 0, .int 0, .int 0, .long 0])), (q7, .inl (cI, 40, .inl (fun _ => 0)))] H := hP
  have hD : va_D A [(h0, .inr (6, [.ref q7, .int 0, .int 0, .int 0, .long 0])), (q7, .inl (cI, 40, .inl (fun _ => 0)))] := hD
  refine lv_aload_n hx hb dX6_init_12 rfl (lv_at hl 0 rfl) ?_
  refine lv_iconst (v := 0) hx hb dX6_init_13 (by decide) ?_
  refine va_put (D := D) (ci := 6) (v := .int 0) (ty := .int) (C := RX6) (T := TX6) (N := 5) hx hb hts u_X6 tyX6 tyX6_ok nmX6 hown hk.1 hP hD hS 0 rfl rfl 1 (by decide) (hts _ q1_30) (fun _ h9 => h9) rfl (tyX6_ok 1 (by decide)) rfl rfl (Nat.le_of_ble_eq_true rfl) dX6_init_14 (fun H locs hP hD hS => ?_)
  have hP : va_P D vwCl [(h0, .inr (6, [.ref q7, .int 0, .int 0, .int 0, .long 0])), (q7, .inl (cI, 40, .inl (fun _ => 0)))] H := hP
  have hD : va_D A [(h0, .inr (6, [.ref q7, .int 0, .int 0, .int 0, .long 0])), (q7, .inl (cI, 40, .inl (fun _ => 0)))] := hD
  refine lv_aload_n hx hb dX6_init_17 rfl (lv_at hl 0 rfl) ?_
  refine lv_iconst (v := 0) hx hb dX6_init_18 (by decide) ?_
  refine va_put (D := D) (ci := 6) (v := .int 0) (ty := .int) (C := RX6) (T := TX6) (N := 5) hx hb hts u_X6 tyX6 tyX6_ok nmX6 hown hk.1 hP hD hS 0 rfl rfl 2 (by decide) (hts _ q1_32) (fun _ h9 => h9) rfl (tyX6_ok 2 (by decide)) rfl rfl (Nat.le_of_ble_eq_true rfl) dX6_init_19 (fun H locs hP hD hS => ?_)
  have hP : va_P D vwCl [(h0, .inr (6, [.ref q7, .int 0, .int 0, .int 0, .long 0])), (q7, .inl (cI, 40, .inl (fun _ => 0)))] H := hP
  have hD : va_D A [(h0, .inr (6, [.ref q7, .int 0, .int 0, .int 0, .long 0])), (q7, .inl (cI, 40, .inl (fun _ => 0)))] := hD
  refine lv_aload_n hx hb dX6_init_22 rfl (lv_at hl 0 rfl) ?_
  refine lv_iconst (v := 0) hx hb dX6_init_23 (by decide) ?_
  refine va_put (D := D) (ci := 6) (v := .int 0) (ty := .int) (C := RX6) (T := TX6) (N := 5) hx hb hts u_X6 tyX6 tyX6_ok nmX6 hown hk.1 hP hD hS 0 rfl rfl 3 (by decide) (hts _ q1_34) (fun _ h9 => h9) rfl (tyX6_ok 3 (by decide)) rfl rfl (Nat.le_of_ble_eq_true rfl) dX6_init_24 (fun H locs hP hD hS => ?_)
  have hP : va_P D vwCl [(h0, .inr (6, [.ref q7, .int 0, .int 0, .int 0, .long 0])), (q7, .inl (cI, 40, .inl (fun _ => 0)))] H := hP
  have hD : va_D A [(h0, .inr (6, [.ref q7, .int 0, .int 0, .int 0, .long 0])), (q7, .inl (cI, 40, .inl (fun _ => 0)))] := hD
  refine lv_aload_n hx hb dX6_init_27 rfl (lv_at hl 0 rfl) ?_
  refine lv_lconst (v := 0) hx hb dX6_init_28 (by decide) ?_
  refine va_put (D := D) (ci := 6) (v := .long 0) (ty := .long) (C := RX6) (T := TX6) (N := 5) hx hb hts u_X6 tyX6 tyX6_ok nmX6 hown hk.1 hP hD hS 0 rfl rfl 4 (by decide) (hts _ q1_36) (fun _ h9 => h9) rfl (tyX6_ok 4 (by decide)) rfl rfl (Nat.le_of_ble_eq_true rfl) dX6_init_29 (fun H locs hP hD hS => ?_)
  have hP : va_P D vwCl [(h0, .inr (6, [.ref q7, .int 0, .int 0, .int 0, .long 0])), (q7, .inl (cI, 40, .inl (fun _ => 0)))] H := hP
  have hD : va_D A [(h0, .inr (6, [.ref q7, .int 0, .int 0, .int 0, .long 0])), (q7, .inl (cI, 40, .inl (fun _ => 0)))] := hD
  exact W.vret hx hb hrt (fun t ht _ => ⟨⟨adl [q7], rfl, trivial, by subst ht; exact hP, hD⟩, hS.F ht⟩) hS.2.2 dX6_init_32 (hlocks := hlocks)
theorem hd_X4_init : yX4_init.cls = RX4 ∧ yX4_init.cls ≠ "java/lang/invoke/MethodHandle" ∧ yX4_init.cls ≠ "java/lang/invoke/VarHandle" ∧ (parseMethodDescriptor yX4_init.desc).map (fun d => d.parameters.length) = some 0 := by decide +kernel
set_option maxHeartbeats 4000000 in
set_option maxRecDepth 100000 in
theorem k_X4_init (l : Launch) (D : va_G) (cI cL cZ : ClassId) (h0 sz : Nat) : Met l yX4_init (Cond.code yX4_init cX4_init 1 none :: W0) { frames := 1, cells := 9, slots := 438, locals := 12 } (va_Pc [.ref h0] (pC D cI cL cZ sz [(h0, .inr (4, [.int 0, .int 0, .int 0, .int 0, .int 0, .null, .null, .null, .null, .null, .null, .null, .null, .null]))])) (qC D (va_A [(h0, .inr (4, [.int 0, .int 0, .int 0, .int 0, .int 0, .null, .null, .null, .null, .null, .null, .null, .null, .null]))] sz) (fun u => [(h0, .inr (4, [.int 0, .int 0, .int 0, .int 0, .int 0, .ref (u 0), .ref (u 1), .ref (u 2), .ref (u 3), .ref (u 4), .ref (u 5), .ref (u 6), .ref (u 7), .ref (u 8)])), ((u 0), .inl (cI, 64, .inl (fun _ => 0))), ((u 1), .inl (cI, 100, .inl (fun _ => 0))), ((u 2), .inl (cI, 80, .inl (fun _ => 0))), ((u 3), .inl (cI, 80, .inl (fun _ => 0))), ((u 4), .inl (cL, 17, .inr (.inl (fun _ => 0)))), ((u 5), .inl (cL, 25, .inr (.inl (fun _ => 0)))), ((u 6), .inl (cL, 40, .inr (.inl (fun _ => 0)))), ((u 7), .inl (cL, 16, .inr (.inl (fun _ => 0)))), ((u 8), .inl (cL, 16, .inr (.inl (fun _ => 0))))])) 9 438 (va_A [(h0, .inr (4, [.int 0, .int 0, .int 0, .int 0, .int 0, .null, .null, .null, .null, .null, .null, .null, .null, .null]))] sz) := by
  refine mk_ctor (cc := cX4_init) (maxL := 1) (by decide) (Nat.le_of_ble_eq_true rfl) ?_
  intro p e s m below meth c ls A hAe hA hin C hP hD hS hl
  obtain ⟨hx, hb, hml, hrt, hlocks, hown, hts, hk⟩ := C
  have hown : s.vm.findClass RX4 = some m.cls := hown
  have hl : lv_has ls 1 [(0, .ref h0)] := hl
  clear hAe
  refine lv_aload_n hx hb dX4_init_0 rfl (lv_at hl 0 rfl) ?_
  refine W.objInit hx hb hown (hts _ q1_55) (hts _ q1_21) (hts _ q1_22) rfl (by rw [hml]; exact hl.1) rfl dX4_init_1 (Nat.le_of_ble_eq_true rfl) (Nat.le_of_ble_eq_true rfl) ?_
  refine W.eq (g2 := F0 m 4 ls []) rfl ?_
  refine lv_aload_n hx hb dX4_init_4 rfl (lv_at hl 0 rfl) ?_
  refine lv_iconst (v := 0) hx hb dX4_init_5 (by decide) ?_
  refine va_put (D := D) (ci := 4) (v := .int 0) (ty := .int) (C := RX4) (T := TX4) (N := 14) hx hb hts u_X4 tyX4 tyX4_ok nmX4 hown hk.1 hP hD hS 0 rfl rfl 0 (by decide) (hts _ q1_56) (fun _ h9 => h9) rfl (tyX4_ok 0 (by decide)) rfl rfl (Nat.le_of_ble_eq_true rfl) dX4_init_6 (fun H locs hP hD hS => ?_)
  have hP : va_P D vwCl [(h0, .inr (4, [.int 0, .int 0, .int 0, .int 0, .int 0, .null, .null, .null, .null, .null, .null, .null, .null, .null]))] H := hP
  have hD : va_D A [(h0, .inr (4, [.int 0, .int 0, .int 0, .int 0, .int 0, .null, .null, .null, .null, .null, .null, .null, .null, .null]))] := hD
  refine lv_aload_n hx hb dX4_init_9 rfl (lv_at hl 0 rfl) ?_
  refine lv_iconst (v := 0) hx hb dX4_init_10 (by decide) ?_
  refine va_put (D := D) (ci := 4) (v := .int 0) (ty := .int) (C := RX4) (T := TX4) (N := 14) hx hb hts u_X4 tyX4 tyX4_ok nmX4 hown hk.1 hP hD hS 0 rfl rfl 1 (by decide) (hts _ q1_58) (fun _ h9 => h9) rfl (tyX4_ok 1 (by decide)) rfl rfl (Nat.le_of_ble_eq_true rfl) dX4_init_11 (fun H locs hP hD hS => ?_)
  have hP : va_P D vwCl [(h0, .inr (4, [.int 0, .int 0, .int 0, .int 0, .int 0, .null, .null, .null, .null, .null, .null, .null, .null, .null]))] H := hP
  have hD : va_D A [(h0, .inr (4, [.int 0, .int 0, .int 0, .int 0, .int 0, .null, .null, .null, .null, .null, .null, .null, .null, .null]))] := hD
  refine lv_aload_n hx hb dX4_init_14 rfl (lv_at hl 0 rfl) ?_
  refine lv_iconst (v := 0) hx hb dX4_init_15 (by decide) ?_
  refine va_put (D := D) (ci := 4) (v := .int 0) (ty := .int) (C := RX4) (T := TX4) (N := 14) hx hb hts u_X4 tyX4 tyX4_ok nmX4 hown hk.1 hP hD hS 0 rfl rfl 2 (by decide) (hts _ q1_60) (fun _ h9 => h9) rfl (tyX4_ok 2 (by decide)) rfl rfl (Nat.le_of_ble_eq_true rfl) dX4_init_16 (fun H locs hP hD hS => ?_)
  have hP : va_P D vwCl [(h0, .inr (4, [.int 0, .int 0, .int 0, .int 0, .int 0, .null, .null, .null, .null, .null, .null, .null, .null, .null]))] H := hP
  have hD : va_D A [(h0, .inr (4, [.int 0, .int 0, .int 0, .int 0, .int 0, .null, .null, .null, .null, .null, .null, .null, .null, .null]))] := hD
  refine lv_aload_n hx hb dX4_init_19 rfl (lv_at hl 0 rfl) ?_
  refine lv_iconst (v := 0) hx hb dX4_init_20 (by decide) ?_
  refine va_put (D := D) (ci := 4) (v := .int 0) (ty := .int) (C := RX4) (T := TX4) (N := 14) hx hb hts u_X4 tyX4 tyX4_ok nmX4 hown hk.1 hP hD hS 0 rfl rfl 3 (by decide) (hts _ q1_64) (fun _ h9 => h9) rfl (tyX4_ok 3 (by decide)) rfl rfl (Nat.le_of_ble_eq_true rfl) dX4_init_21 (fun H locs hP hD hS => ?_)
  have hP : va_P D vwCl [(h0, .inr (4, [.int 0, .int 0, .int 0, .int 0, .int 0, .null, .null, .null, .null, .null, .null, .null, .null, .null]))] H := hP
  have hD : va_D A [(h0, .inr (4, [.int 0, .int 0, .int 0, .int 0, .int 0, .null, .null, .null, .null, .null, .null, .null, .null, .null]))] := hD
  refine lv_aload_n hx hb dX4_init_24 rfl (lv_at hl 0 rfl) ?_
  refine lv_iconst (v := 0) hx hb dX4_init_25 (by decide) ?_
  refine va_put (D := D) (ci := 4) (v := .int 0) (ty := .int) (C := RX4) (T := TX4) (N := 14) hx hb hts u_X4 tyX4 tyX4_ok nmX4 hown hk.1 hP hD hS 0 rfl rfl 4 (by decide) (hts _ q1_66) (fun _ h9 => h9) rfl (tyX4_ok 4 (by decide)) rfl rfl (Nat.le_of_ble_eq_true rfl) dX4_init_26 (fun H locs hP hD hS => ?_)
  have hP : va_P D vwCl [(h0, .inr (4, [.int 0, .int 0, .int 0, .int 0, .int 0, .null, .null, .null, .null, .null, .null, .null, .null, .null]))] H := hP
  have hD : va_D A [(h0, .inr (4, [.int 0, .int 0, .int 0, .int 0, .int 0, .null, .null, .null, .null, .null, .null, .null, .null, .null]))] := hD
  refine lv_aload_n hx hb dX4_init_29 rfl (lv_at hl 0 rfl) ?_
  refine lv_bipush (v := 64) hx hb dX4_init_30 (by decide) ?_
  refine va_newa (atype := .int) (ty := .int) (N' := 64) (a0 := (64, .inl (fun _ => 0))) hx hb (hts _ q1_49) rfl hk.1 hP hD hS hA (fun _ => rfl) (by decide) (by decide) (Nat.le_of_ble_eq_true rfl) (Nat.le_of_ble_eq_true rfl) (Nat.le_of_ble_eq_true rfl) dX4_init_32 (fun q32 cA H hK2 hP hD hS => ?_)
  have hcA := nk_eq 0 hK2 _ rfl (fun _ h => by cases h) (by decide)
  rw [hcA] at hP hD
  have hP : va_P D vwCl [(h0, .inr (4, [.int 0, .int 0, .int 0, .int 0, .int 0, .null, .null, .null, .null, .null, .null, .null, .null, .null])), (q32, .inl (cI, 64, .inl (fun _ => 0)))] H := hP
  have hD : va_D A [(h0, .inr (4, [.int 0, .int 0, .int 0, .int 0, .int 0, .null, .null, .null, .null, .null, .null, .null, .null, .null])), (q32, .inl (cI, 64, .inl (fun _ => 0)))] := hD
  refine W.widen (k := 1) (n := 64) (Nat.le_of_ble_eq_true rfl) (Nat.le_of_ble_eq_true rfl) ?_
  refine va_putF (D := D) (ci := 4) (v := .ref q32) (ty := .array .int) (C := RX4) (T := TX4) (N := 14) hx hb hts u_X4 tyX4 tyX4_ok nmX4 hown hk.1 hP hD hS 0 rfl rfl 5 (by decide) (hts _ q1_69) (fun _ h9 => h9) rfl hin rfl (tyX4_ok 5 (by decide)) rfl rfl (Nat.le_of_ble_eq_true rfl) dX4_init_34 (fun H locs hP hD hS => ?_)
  have hP : va_P D vwCl [(h0, .inr (4, [.int 0, .int 0, .int 0, .int 0, .int 0, .ref q32, .null, .null, .null, .null, .null, .null, .null, .null])), (q32, .inl (cI, 64, .inl (fun _ => 0)))] H := hP
  have hD : va_D A [(h0, .inr (4, [.int 0, .int 0, .int 0, .int 0, .int 0, .ref q32, .null, .null, .null, .null, .null, .null, .null, .null])), (q32, .inl (cI, 64, .inl (fun _ => 0)))] := hD
  refine lv_aload_n hx hb dX4_init_37 rfl (lv_at hl 0 rfl) ?_
  refine lv_bipush (v := 100) hx hb dX4_init_38 (by decide) ?_
  refine va_newa (atype := .int) (ty := .int) (N' := 100) (a0 := (100, .inl (fun _ => 0))) hx hb (hts _ q1_49) rfl hk.1 hP hD hS hA (fun _ => rfl) (by decide) (by decide) (Nat.le_of_ble_eq_true rfl) (Nat.le_of_ble_eq_true rfl) (Nat.le_of_ble_eq_true rfl) dX4_init_40 (fun q40 cA H hK2 hP hD hS => ?_)
  have hcA := nk_eq 0 hK2 _ rfl (fun _ h => by cases h) (by decide)
  rw [hcA] at hP hD
  have hP : va_P D vwCl [(h0, .inr (4, [.int 0, .int 0, .int 0, .int 0, .int 0, .ref q32, .null, .null, .null, .null, .null, .null, .null, .null])), (q32, .inl (cI, 64, .inl (fun _ => 0))), (q40, .inl (cI, 100, .inl (fun _ => 0)))] H := hP
  have hD : va_D A [(h0, .inr (4, [.int 0, .int 0, .int 0, .int 0, .int 0, .ref q32, .null, .null, .null, .null, .null, .null, .null, .null])), (q32, .inl (cI, 64, .inl (fun _ => 0))), (q40, .inl (cI, 100, .inl (fun _ => 0)))] := hD
  refine W.widen (k := 2) (n := 164) (Nat.le_of_ble_eq_true rfl) (Nat.le_of_ble_eq_true rfl) ?_
  refine va_putF (D := D) (ci := 4) (v := .ref q40) (ty := .array .int) (C := RX4) (T := TX4) (N := 14) hx hb hts u_X4 tyX4 tyX4_ok nmX4 hown hk.1 hP hD hS 0 rfl rfl 6 (by decide) (hts _ q1_70) (fun _ h9 => h9) rfl hin rfl (tyX4_ok 6 (by decide)) rfl rfl (Nat.le_of_ble_eq_true rfl) dX4_init_42 (fun H locs hP hD hS => ?_)
  have hP : va_P D vwCl [(h0, .inr (4, [.int 0, .int 0, .int 0, .int 0, .int 0, .ref q32, .ref q40, .null, .null, .null, .null, .null, .null, .null])), (q32, .inl (cI, 64, .inl (fun _ => 0))), (q40, .inl (cI, 100, .inl (fun _ => 0)))] H := hP
  have hD : va_D A [(h0, .inr (4, [.int 0, .int 0, .int 0, .int 0, .int 0, .ref q32, .ref q40, .null, .null, .null, .null, .null, .null, .null])), (q32, .inl (cI, 64, .inl (fun _ => 0))), (q40, .inl (cI, 100, .inl (fun _ => 0)))] := hD
  refine lv_aload_n hx hb dX4_init_45 rfl (lv_at hl 0 rfl) ?_
  refine lv_bipush (v := 80) hx hb dX4_init_46 (by decide) ?_
  refine va_newa (atype := .int) (ty := .int) (N' := 80) (a0 := (80, .inl (fun _ => 0))) hx hb (hts _ q1_49) rfl hk.1 hP hD hS hA (fun _ => rfl) (by decide) (by decide) (Nat.le_of_ble_eq_true rfl) (Nat.le_of_ble_eq_true rfl) (Nat.le_of_ble_eq_true rfl) dX4_init_48 (fun q48 cA H hK2 hP hD hS => ?_)
  have hcA := nk_eq 0 hK2 _ rfl (fun _ h => by cases h) (by decide)
  rw [hcA] at hP hD
  have hP : va_P D vwCl [(h0, .inr (4, [.int 0, .int 0, .int 0, .int 0, .int 0, .ref q32, .ref q40, .null, .null, .null, .null, .null, .null, .null])), (q32, .inl (cI, 64, .inl (fun _ => 0))), (q40, .inl (cI, 100, .inl (fun _ => 0))), (q48, .inl (cI, 80, .inl (fun _ => 0)))] H := hP
  have hD : va_D A [(h0, .inr (4, [.int 0, .int 0, .int 0, .int 0, .int 0, .ref q32, .ref q40, .null, .null, .null, .null, .null, .null, .null])), (q32, .inl (cI, 64, .inl (fun _ => 0))), (q40, .inl (cI, 100, .inl (fun _ => 0))), (q48, .inl (cI, 80, .inl (fun _ => 0)))] := hD
  refine W.widen (k := 3) (n := 244) (Nat.le_of_ble_eq_true rfl) (Nat.le_of_ble_eq_true rfl) ?_
  refine va_putF (D := D) (ci := 4) (v := .ref q48) (ty := .array .int) (C := RX4) (T := TX4) (N := 14) hx hb hts u_X4 tyX4 tyX4_ok nmX4 hown hk.1 hP hD hS 0 rfl rfl 7 (by decide) (hts _ q1_71) (fun _ h9 => h9) rfl hin rfl (tyX4_ok 7 (by decide)) rfl rfl (Nat.le_of_ble_eq_true rfl) dX4_init_50 (fun H locs hP hD hS => ?_)
  have hP : va_P D vwCl [(h0, .inr (4, [.int 0, .int 0, .int 0, .int 0, .int 0, .ref q32, .ref q40, .ref q48, .null, .null, .null, .null, .null, .null])), (q32, .inl (cI, 64, .inl (fun _ => 0))), (q40, .inl (cI, 100, .inl (fun _ => 0))), (q48, .inl (cI, 80, .inl (fun _ => 0)))] H := hP
  have hD : va_D A [(h0, .inr (4, [.int 0, .int 0, .int 0, .int 0, .int 0, .ref q32, .ref q40, .ref q48, .null, .null, .null, .null, .null, .null])), (q32, .inl (cI, 64, .inl (fun _ => 0))), (q40, .inl (cI, 100, .inl (fun _ => 0))), (q48, .inl (cI, 80, .inl (fun _ => 0)))] := hD
  refine lv_aload_n hx hb dX4_init_53 rfl (lv_at hl 0 rfl) ?_
  refine lv_bipush (v := 80) hx hb dX4_init_54 (by decide) ?_
  refine va_newa (atype := .int) (ty := .int) (N' := 80) (a0 := (80, .inl (fun _ => 0))) hx hb (hts _ q1_49) rfl hk.1 hP hD hS hA (fun _ => rfl) (by decide) (by decide) (Nat.le_of_ble_eq_true rfl) (Nat.le_of_ble_eq_true rfl) (Nat.le_of_ble_eq_true rfl) dX4_init_56 (fun q56 cA H hK2 hP hD hS => ?_)
  have hcA := nk_eq 0 hK2 _ rfl (fun _ h => by cases h) (by decide)
  rw [hcA] at hP hD
  have hP : va_P D vwCl [(h0, .inr (4, [.int 0, .int 0, .int 0, .int 0, .int 0, .ref q32, .ref q40, .ref q48, .null, .null, .null, .null, .null, .null])), (q32, .inl (cI, 64, .inl (fun _ => 0))), (q40, .inl (cI, 100, .inl (fun _ => 0))), (q48, .inl (cI, 80, .inl (fun _ => 0))), (q56, .inl (cI, 80, .inl (fun _ => 0)))] H := hP
  have hD : va_D A [(h0, .inr (4, [.int 0, .int 0, .int 0, .int 0, .int 0, .ref q32, .ref q40, .ref q48, .null, .null, .null, .null, .null, .null])), (q32, .inl (cI, 64, .inl (fun _ => 0))), (q40, .inl (cI, 100, .inl (fun _ => 0))), (q48, .inl (cI, 80, .inl (fun _ => 0))), (q56, .inl (cI, 80, .inl (fun _ => 0)))] := hD
  refine W.widen (k := 4) (n := 324) (Nat.le_of_ble_eq_true rfl) (Nat.le_of_ble_eq_true rfl) ?_
  refine va_putF (D := D) (ci := 4) (v := .ref q56) (ty := .array .int) (C := RX4) (T := TX4) (N := 14) hx hb hts u_X4 tyX4 tyX4_ok nmX4 hown hk.1 hP hD hS 0 rfl rfl 8 (by decide) (hts _ q1_72) (fun _ h9 => h9) rfl hin rfl (tyX4_ok 8 (by decide)) rfl rfl (Nat.le_of_ble_eq_true rfl) dX4_init_58 (fun H locs hP hD hS => ?_)
  have hP : va_P D vwCl [(h0, .inr (4, [.int 0, .int 0, .int 0, .int 0, .int 0, .ref q32, .ref q40, .ref q48, .ref q56, .null, .null, .null, .null, .null])), (q32, .inl (cI, 64, .inl (fun _ => 0))), (q40, .inl (cI, 100, .inl (fun _ => 0))), (q48, .inl (cI, 80, .inl (fun _ => 0))), (q56, .inl (cI, 80, .inl (fun _ => 0)))] H := hP
  have hD : va_D A [(h0, .inr (4, [.int 0, .int 0, .int 0, .int 0, .int 0, .ref q32, .ref q40, .ref q48, .ref q56, .null, .null, .null, .null, .null])), (q32, .inl (cI, 64, .inl (fun _ => 0))), (q40, .inl (cI, 100, .inl (fun _ => 0))), (q48, .inl (cI, 80, .inl (fun _ => 0))), (q56, .inl (cI, 80, .inl (fun _ => 0)))] := hD
  refine lv_aload_n hx hb dX4_init_61 rfl (lv_at hl 0 rfl) ?_
  refine lv_bipush (v := 17) hx hb dX4_init_62 (by decide) ?_
  refine va_newa (atype := .long) (ty := .long) (N' := 17) (a0 := (17, .inr (.inl (fun _ => 0)))) hx hb (hts _ q1_107) rfl hk.1 hP hD hS hA (fun _ => rfl) (by decide) (by decide) (Nat.le_of_ble_eq_true rfl) (Nat.le_of_ble_eq_true rfl) (Nat.le_of_ble_eq_true rfl) dX4_init_64 (fun q64 cA H hK2 hP hD hS => ?_)
  have hcA := nk_eq 1 hK2 _ rfl (fun _ h => by cases h) (by decide)
  rw [hcA] at hP hD
  have hP : va_P D vwCl [(h0, .inr (4, [.int 0, .int 0, .int 0, .int 0, .int 0, .ref q32, .ref q40, .ref q48, .ref q56, .null, .null, .null, .null, .null])), (q32, .inl (cI, 64, .inl (fun _ => 0))), (q40, .inl (cI, 100, .inl (fun _ => 0))), (q48, .inl (cI, 80, .inl (fun _ => 0))), (q56, .inl (cI, 80, .inl (fun _ => 0))), (q64, .inl (cL, 17, .inr (.inl (fun _ => 0))))] H := hP
  have hD : va_D A [(h0, .inr (4, [.int 0, .int 0, .int 0, .int 0, .int 0, .ref q32, .ref q40, .ref q48, .ref q56, .null, .null, .null, .null, .null])), (q32, .inl (cI, 64, .inl (fun _ => 0))), (q40, .inl (cI, 100, .inl (fun _ => 0))), (q48, .inl (cI, 80, .inl (fun _ => 0))), (q56, .inl (cI, 80, .inl (fun _ => 0))), (q64, .inl (cL, 17, .inr (.inl (fun _ => 0))))] := hD
  refine W.widen (k := 5) (n := 341) (Nat.le_of_ble_eq_true rfl) (Nat.le_of_ble_eq_true rfl) ?_
  refine va_putF (D := D) (ci := 4) (v := .ref q64) (ty := .array .long) (C := RX4) (T := TX4) (N := 14) hx hb hts u_X4 tyX4 tyX4_ok nmX4 hown hk.1 hP hD hS 0 rfl rfl 9 (by decide) (hts _ q1_73) (fun _ h9 => h9) rfl hin rfl (tyX4_ok 9 (by decide)) rfl rfl (Nat.le_of_ble_eq_true rfl) dX4_init_66 (fun H locs hP hD hS => ?_)
  have hP : va_P D vwCl [(h0, .inr (4, [.int 0, .int 0, .int 0, .int 0, .int 0, .ref q32, .ref q40, .ref q48, .ref q56, .ref q64, .null, .null, .null, .null])), (q32, .inl (cI, 64, .inl (fun _ => 0))), (q40, .inl (cI, 100, .inl (fun _ => 0))), (q48, .inl (cI, 80, .inl (fun _ => 0))), (q56, .inl (cI, 80, .inl (fun _ => 0))), (q64, .inl (cL, 17, .inr (.inl (fun _ => 0))))] H := hP
  have hD : va_D A [(h0, .inr (4, [.int 0, .int 0, .int 0, .int 0, .int 0, .ref q32, .ref q40, .ref q48, .ref q56, .ref q64, .null, .null, .null, .null])), (q32, .inl (cI, 64, .inl (fun _ => 0))), (q40, .inl (cI, 100, .inl (fun _ => 0))), (q48, .inl (cI, 80, .inl (fun _ => 0))), (q56, .inl (cI, 80, .inl (fun _ => 0))), (q64, .inl (cL, 17, .inr (.inl (fun _ => 0))))] := hD
  refine lv_aload_n hx hb dX4_init_69 rfl (lv_at hl 0 rfl) ?_
  refine lv_bipush (v := 25) hx hb dX4_init_70 (by decide) ?_
  refine va_newa (atype := .long) (ty := .long) (N' := 25) (a0 := (25, .inr (.inl (fun _ => 0)))) hx hb (hts _ q1_107) rfl hk.1 hP hD hS hA (fun _ => rfl) (by decide) (by decide) (Nat.le_of_ble_eq_true rfl) (Nat.le_of_ble_eq_true rfl) (Nat.le_of_ble_eq_true rfl) dX4_init_72 (fun q72 cA H hK2 hP hD hS => ?_)
  have hcA := nk_eq 1 hK2 _ rfl (fun _ h => by cases h) (by decide)
  rw [hcA] at hP hD
  have hP : va_P D vwCl [(h0, .inr (4, [.int 0, .int 0, .int 0, .int 0, .int 0, .ref q32, .ref q40, .ref q48, .ref q56, .ref q64, .null, .null, .null, .null])), (q32, .inl (cI, 64, .inl (fun _ => 0))), (q40, .inl (cI, 100, .inl (fun _ => 0))), (q48, .inl (cI, 80, .inl (fun _ => 0))), (q56, .inl (cI, 80, .inl (fun _ => 0))), (q64, .inl (cL, 17, .inr (.inl (fun _ => 0)))), (q72, .inl (cL, 25, .inr (.inl (fun _ => 0))))] H := hP
  have hD : va_D A [(h0, .inr (4, [.int 0, .int 0, .int 0, .int 0, .int 0, .ref q32, .ref q40, .ref q48, .ref q56, .ref q64, .null, .null, .null, .null])), (q32, .inl (cI, 64, .inl (fun _ => 0))), (q40, .inl (cI, 100, .inl (fun _ => 0))), (q48, .inl (cI, 80, .inl (fun _ => 0))), (q56, .inl (cI, 80, .inl (fun _ => 0))), (q64, .inl (cL, 17, .inr (.inl (fun _ => 0)))), (q72, .inl (cL, 25, .inr (.inl (fun _ => 0))))] := hD
  refine W.widen (k := 6) (n := 366) (Nat.le_of_ble_eq_true rfl) (Nat.le_of_ble_eq_true rfl) ?_
  refine va_putF (D := D) (ci := 4) (v := .ref q72) (ty := .array .long) (C := RX4) (T := TX4) (N := 14) hx hb hts u_X4 tyX4 tyX4_ok nmX4 hown hk.1 hP hD hS 0 rfl rfl 10 (by decide) (hts _ q1_74) (fun _ h9 => h9) rfl hin rfl (tyX4_ok 10 (by decide)) rfl rfl (Nat.le_of_ble_eq_true rfl) dX4_init_74 (fun H locs hP hD hS => ?_)
  have hP : va_P D vwCl [(h0, .inr (4, [.int 0, .int 0, .int 0, .int 0, .int 0, .ref q32, .ref q40, .ref q48, .ref q56, .ref q64, .ref q72, .null, .null, .null])), (q32, .inl (cI, 64, .inl (fun _ => 0))), (q40, .inl (cI, 100, .inl (fun _ => 0))), (q48, .inl (cI, 80, .inl (fun _ => 0))), (q56, .inl (cI, 80, .inl (fun _ => 0))), (q64, .inl (cL, 17, .inr (.inl (fun _ => 0)))), (q72, .inl (cL, 25, .inr (.inl (fun _ => 0))))] H := hP
  have hD : va_D A [(h0, .inr (4, [.int 0, .int 0, .int 0, .int 0, .int 0, .ref q32, .ref q40, .ref q48, .ref q56, .ref q64, .ref q72, .null, .null, .null])), (q32, .inl (cI, 64, .inl (fun _ => 0))), (q40, .inl (cI, 100, .inl (fun _ => 0))), (q48, .inl (cI, 80, .inl (fun _ => 0))), (q56, .inl (cI, 80, .inl (fun _ => 0))), (q64, .inl (cL, 17, .inr (.inl (fun _ => 0)))), (q72, .inl (cL, 25, .inr (.inl (fun _ => 0))))] := hD
  refine lv_aload_n hx hb dX4_init_77 rfl (lv_at hl 0 rfl) ?_
  refine lv_bipush (v := 40) hx hb dX4_init_78 (by decide) ?_
  refine va_newa (atype := .long) (ty := .long) (N' := 40) (a0 := (40, .inr (.inl (fun _ => 0)))) hx hb (hts _ q1_107) rfl hk.1 hP hD hS hA (fun _ => rfl) (by decide) (by decide) (Nat.le_of_ble_eq_true rfl) (Nat.le_of_ble_eq_true rfl) (Nat.le_of_ble_eq_true rfl) dX4_init_80 (fun q80 cA H hK2 hP hD hS => ?_)
  have hcA := nk_eq 1 hK2 _ rfl (fun _ h => by cases h) (by decide)
  rw [hcA] at hP hD
  have hP : va_P D vwCl [(h0, .inr (4, [.int 0, .int 0, .int 0, .int 0, .int 0, .ref q32, .ref q40, .ref q48, .ref q56, .ref q64, .ref q72, .null, .null, .null])), (q32, .inl (cI, 64, .inl (fun _ => 0))), (q40, .inl (cI, 100, .inl (fun _ => 0))), (q48, .inl (cI, 80, .inl (fun _ => 0))), (q56, .inl (cI, 80, .inl (fun _ => 0))), (q64, .inl (cL, 17, .inr (.inl (fun _ => 0)))), (q72, .inl (cL, 25, .inr (.inl (fun _ => 0)))), (q80, .inl (cL, 40, .inr (.inl (fun _ => 0))))] H := hP
  have hD : va_D A [(h0, .inr (4, [.int 0, .int 0, .int 0, .int 0, .int 0, .ref q32, .ref q40, .ref q48, .ref q56, .ref q64, .ref q72, .null, .null, .null])), (q32, .inl (cI, 64, .inl (fun _ => 0))), (q40, .inl (cI, 100, .inl (fun _ => 0))), (q48, .inl (cI, 80, .inl (fun _ => 0))), (q56, .inl (cI, 80, .inl (fun _ => 0))), (q64, .inl (cL, 17, .inr (.inl (fun _ => 0)))), (q72, .inl (cL, 25, .inr (.inl (fun _ => 0)))), (q80, .inl (cL, 40, .inr (.inl (fun _ => 0))))] := hD
  refine W.widen (k := 7) (n := 406) (Nat.le_of_ble_eq_true rfl) (Nat.le_of_ble_eq_true rfl) ?_
  refine va_putF (D := D) (ci := 4) (v := .ref q80) (ty := .array .long) (C := RX4) (T := TX4) (N := 14) hx hb hts u_X4 tyX4 tyX4_ok nmX4 hown hk.1 hP hD hS 0 rfl rfl 11 (by decide) (hts _ q1_75) (fun _ h9 => h9) rfl hin rfl (tyX4_ok 11 (by decide)) rfl rfl (Nat.le_of_ble_eq_true rfl) dX4_init_82 (fun H locs hP hD hS => ?_)
  have hP : va_P D vwCl [(h0, .inr (4, [.int 0, .int 0, .int 0, .int 0, .int 0, .ref q32, .ref q40, .ref q48, .ref q56, .ref q64, .ref q72, .ref q80, .null, .null])), (q32, .inl (cI, 64, .inl (fun _ => 0))), (q40, .inl (cI, 100, .inl (fun _ => 0))), (q48, .inl (cI, 80, .inl (fun _ => 0))), (q56, .inl (cI, 80, .inl (fun _ => 0))), (q64, .inl (cL, 17, .inr (.inl (fun _ => 0)))), (q72, .inl (cL, 25, .inr (.inl (fun _ => 0)))), (q80, .inl (cL, 40, .inr (.inl (fun _ => 0))))] H := hP
  have hD : va_D A [(h0, .inr (4, [.int 0, .int 0, .int 0, .int 0, .int 0, .ref q32, .ref q40, .ref q48, .ref q56, .ref q64, .ref q72, .ref q80, .null, .null])), (q32, .inl (cI, 64, .inl (fun _ => 0))), (q40, .inl (cI, 100, .inl (fun _ => 0))), (q48, .inl (cI, 80, .inl (fun _ => 0))), (q56, .inl (cI, 80, .inl (fun _ => 0))), (q64, .inl (cL, 17, .inr (.inl (fun _ => 0)))), (q72, .inl (cL, 25, .inr (.inl (fun _ => 0)))), (q80, .inl (cL, 40, .inr (.inl (fun _ => 0))))] := hD
  refine lv_aload_n hx hb dX4_init_85 rfl (lv_at hl 0 rfl) ?_
  refine lv_bipush (v := 16) hx hb dX4_init_86 (by decide) ?_
  refine va_newa (atype := .long) (ty := .long) (N' := 16) (a0 := (16, .inr (.inl (fun _ => 0)))) hx hb (hts _ q1_107) rfl hk.1 hP hD hS hA (fun _ => rfl) (by decide) (by decide) (Nat.le_of_ble_eq_true rfl) (Nat.le_of_ble_eq_true rfl) (Nat.le_of_ble_eq_true rfl) dX4_init_88 (fun q88 cA H hK2 hP hD hS => ?_)
  have hcA := nk_eq 1 hK2 _ rfl (fun _ h => by cases h) (by decide)
  rw [hcA] at hP hD
  have hP : va_P D vwCl [(h0, .inr (4, [.int 0, .int 0, .int 0, .int 0, .int 0, .ref q32, .ref q40, .ref q48, .ref q56, .ref q64, .ref q72, .ref q80, .null, .null])), (q32, .inl (cI, 64, .inl (fun _ => 0))), (q40, .inl (cI, 100, .inl (fun _ => 0))), (q48, .inl (cI, 80, .inl (fun _ => 0))), (q56, .inl (cI, 80, .inl (fun _ => 0))), (q64, .inl (cL, 17, .inr (.inl (fun _ => 0)))), (q72, .inl (cL, 25, .inr (.inl (fun _ => 0)))), (q80, .inl (cL, 40, .inr (.inl (fun _ => 0)))), (q88, .inl (cL, 16, .inr (.inl (fun _ => 0))))] H := hP
  have hD : va_D A [(h0, .inr (4, [.int 0, .int 0, .int 0, .int 0, .int 0, .ref q32, .ref q40, .ref q48, .ref q56, .ref q64, .ref q72, .ref q80, .null, .null])), (q32, .inl (cI, 64, .inl (fun _ => 0))), (q40, .inl (cI, 100, .inl (fun _ => 0))), (q48, .inl (cI, 80, .inl (fun _ => 0))), (q56, .inl (cI, 80, .inl (fun _ => 0))), (q64, .inl (cL, 17, .inr (.inl (fun _ => 0)))), (q72, .inl (cL, 25, .inr (.inl (fun _ => 0)))), (q80, .inl (cL, 40, .inr (.inl (fun _ => 0)))), (q88, .inl (cL, 16, .inr (.inl (fun _ => 0))))] := hD
  refine W.widen (k := 8) (n := 422) (Nat.le_of_ble_eq_true rfl) (Nat.le_of_ble_eq_true rfl) ?_
  refine va_putF (D := D) (ci := 4) (v := .ref q88) (ty := .array .long) (C := RX4) (T := TX4) (N := 14) hx hb hts u_X4 tyX4 tyX4_ok nmX4 hown hk.1 hP hD hS 0 rfl rfl 12 (by decide) (hts _ q1_76) (fun _ h9 => h9) rfl hin rfl (tyX4_ok 12 (by decide)) rfl rfl (Nat.le_of_ble_eq_true rfl) dX4_init_90 (fun H locs hP hD hS => ?_)
  have hP : va_P D vwCl [(h0, .inr (4, [.int 0, .int 0, .int 0, .int 0, .int 0, .ref q32, .ref q40, .ref q48, .ref q56, .ref q64, .ref q72, .ref q80, .ref q88, .null])), (q32, .inl (cI, 64, .inl (fun _ => 0))), (q40, .inl (cI, 100, .inl (fun _ => 0))), (q48, .inl (cI, 80, .inl (fun _ => 0))), (q56, .inl (cI, 80, .inl (fun _ => 0))), (q64, .inl (cL, 17, .inr (.inl (fun _ => 0)))), (q72, .inl (cL, 25, .inr (.inl (fun _ => 0)))), (q80, .inl (cL, 40, .inr (.inl (fun _ => 0)))), (q88, .inl (cL, 16, .inr (.inl (fun _ => 0))))] H := hP
  have hD : va_D A [(h0, .inr (4, [.int 0, .int 0, .int 0, .int 0, .int 0, .ref q32, .ref q40, .ref q48, .ref q56, .ref q64, .ref q72, .ref q80, .ref q88, .null])), (q32, .inl (cI, 64, .inl (fun _ => 0))), (q40, .inl (cI, 100, .inl (fun _ => 0))), (q48, .inl (cI, 80, .inl (fun _ => 0))), (q56, .inl (cI, 80, .inl (fun _ => 0))), (q64, .inl (cL, 17, .inr (.inl (fun _ => 0)))), (q72, .inl (cL, 25, .inr (.inl (fun _ => 0)))), (q80, .inl (cL, 40, .inr (.inl (fun _ => 0)))), (q88, .inl (cL, 16, .inr (.inl (fun _ => 0))))] := hD
  refine lv_aload_n hx hb dX4_init_93 rfl (lv_at hl 0 rfl) ?_
  refine lv_bipush (v := 16) hx hb dX4_init_94 (by decide) ?_
  refine va_newa (atype := .long) (ty := .long) (N' := 16) (a0 := (16, .inr (.inl (fun _ => 0)))) hx hb (hts _ q1_107) rfl hk.1 hP hD hS hA (fun _ => rfl) (by decide) (by decide) (Nat.le_of_ble_eq_true rfl) (Nat.le_of_ble_eq_true rfl) (Nat.le_of_ble_eq_true rfl) dX4_init_96 (fun q96 cA H hK2 hP hD hS => ?_)
  have hcA := nk_eq 1 hK2 _ rfl (fun _ h => by cases h) (by decide)
  rw [hcA] at hP hD
  have hP : va_P D vwCl [(h0, .inr (4, [.int 0, .int 0, .int 0, .int 0, .int 0, .ref q32, .ref q40, .ref q48, .ref q56, .ref q64, .ref q72, .ref q80, .ref q88, .null])), (q32, .inl (cI, 64, .inl (fun _ => 0))), (q40, .inl (cI, 100, .inl (fun _ => 0))), (q48, .inl (cI, 80, .inl (fun _ => 0))), (q56, .inl (cI, 80, .inl (fun _ => 0))), (q64, .inl (cL, 17, .inr (.inl (fun _ => 0)))), (q72, .inl (cL, 25, .inr (.inl (fun _ => 0)))), (q80, .inl (cL, 40, .inr (.inl (fun _ => 0)))), (q88, .inl (cL, 16, .inr (.inl (fun _ => 0)))), (q96, .inl (cL, 16, .inr (.inl (fun _ => 0))))] H := hP
  have hD : va_D A [(h0, .inr (4, [.int 0, .int 0, .int 0, .int 0, .int 0, .ref q32, .ref q40, .ref q48, .ref q56, .ref q64, .ref q72, .ref q80, .ref q88, .null])), (q32, .inl (cI, 64, .inl (fun _ => 0))), (q40, .inl (cI, 100, .inl (fun _ => 0))), (q48, .inl (cI, 80, .inl (fun _ => 0))), (q56, .inl (cI, 80, .inl (fun _ => 0))), (q64, .inl (cL, 17, .inr (.inl (fun _ => 0)))), (q72, .inl (cL, 25, .inr (.inl (fun _ => 0)))), (q80, .inl (cL, 40, .inr (.inl (fun _ => 0)))), (q88, .inl (cL, 16, .inr (.inl (fun _ => 0)))), (q96, .inl (cL, 16, .inr (.inl (fun _ => 0))))] := hD
  refine W.widen (k := 9) (n := 438) (Nat.le_of_ble_eq_true rfl) (Nat.le_of_ble_eq_true rfl) ?_
  refine va_putF (D := D) (ci := 4) (v := .ref q96) (ty := .array .long) (C := RX4) (T := TX4) (N := 14) hx hb hts u_X4 tyX4 tyX4_ok nmX4 hown hk.1 hP hD hS 0 rfl rfl 13 (by decide) (hts _ q1_77) (fun _ h9 => h9) rfl hin rfl (tyX4_ok 13 (by decide)) rfl rfl (Nat.le_of_ble_eq_true rfl) dX4_init_98 (fun H locs hP hD hS => ?_)
  have hP : va_P D vwCl [(h0, .inr (4, [.int 0, .int 0, .int 0, .int 0, .int 0, .ref q32, .ref q40, .ref q48, .ref q56, .ref q64, .ref q72, .ref q80, .ref q88, .ref q96])), (q32, .inl (cI, 64, .inl (fun _ => 0))), (q40, .inl (cI, 100, .inl (fun _ => 0))), (q48, .inl (cI, 80, .inl (fun _ => 0))), (q56, .inl (cI, 80, .inl (fun _ => 0))), (q64, .inl (cL, 17, .inr (.inl (fun _ => 0)))), (q72, .inl (cL, 25, .inr (.inl (fun _ => 0)))), (q80, .inl (cL, 40, .inr (.inl (fun _ => 0)))), (q88, .inl (cL, 16, .inr (.inl (fun _ => 0)))), (q96, .inl (cL, 16, .inr (.inl (fun _ => 0))))] H := hP
  have hD : va_D A [(h0, .inr (4, [.int 0, .int 0, .int 0, .int 0, .int 0, .ref q32, .ref q40, .ref q48, .ref q56, .ref q64, .ref q72, .ref q80, .ref q88, .ref q96])), (q32, .inl (cI, 64, .inl (fun _ => 0))), (q40, .inl (cI, 100, .inl (fun _ => 0))), (q48, .inl (cI, 80, .inl (fun _ => 0))), (q56, .inl (cI, 80, .inl (fun _ => 0))), (q64, .inl (cL, 17, .inr (.inl (fun _ => 0)))), (q72, .inl (cL, 25, .inr (.inl (fun _ => 0)))), (q80, .inl (cL, 40, .inr (.inl (fun _ => 0)))), (q88, .inl (cL, 16, .inr (.inl (fun _ => 0)))), (q96, .inl (cL, 16, .inr (.inl (fun _ => 0))))] := hD
  exact W.vret hx hb hrt (fun t ht _ => ⟨⟨adl [q32, q40, q48, q56, q64, q72, q80, q88, q96], rfl, trivial, by subst ht; exact hP, hD⟩, hS.F ht⟩) hS.2.2 dX4_init_101 (hlocks := hlocks)
theorem hd_X0_init : yX0_init.cls = RX0 ∧ yX0_init.cls ≠ "java/lang/invoke/MethodHandle" ∧ yX0_init.cls ≠ "java/lang/invoke/VarHandle" ∧ (parseMethodDescriptor yX0_init.desc).map (fun d => d.parameters.length) = some 0 := by decide +kernel
set_option maxHeartbeats 4000000 in
set_option maxRecDepth 100000 in
theorem k_X0_init (l : Launch) (D : va_G) (cI cL cZ : ClassId) (h0 sz : Nat) : Met l yX0_init (Cond.code yX0_init cX0_init 1 none :: W0) { frames := 1, cells := 0, slots := 0, locals := 12 } (va_Pc [.ref h0] (pC D cI cL cZ sz [(h0, .inr (0, [.long 0, .long 0, .long 0]))])) (qC D (va_A [(h0, .inr (0, [.long 0, .long 0, .long 0]))] sz) (fun u => [(h0, .inr (0, [.long 0, .long 0, .long 0]))])) 0 0 (va_A [(h0, .inr (0, [.long 0, .long 0, .long 0]))] sz) := by
  refine mk_ctor (cc := cX0_init) (maxL := 1) (by decide) (Nat.le_of_ble_eq_true rfl) ?_
  intro p e s m below meth c ls A hAe hA hin C hP hD hS hl
  obtain ⟨hx, hb, hml, hrt, hlocks, hown, hts, hk⟩ := C
  have hown : s.vm.findClass RX0 = some m.cls := hown
  have hl : lv_has ls 1 [(0, .ref h0)] := hl
  clear hAe
  refine lv_aload_n hx hb dX0_init_0 rfl (lv_at hl 0 rfl) ?_
  refine W.objInit hx hb hown (hts _ q1_113) (hts _ q1_21) (hts _ q1_22) rfl (by rw [hml]; exact hl.1) rfl dX0_init_1 (Nat.le_of_ble_eq_true rfl) (Nat.le_of_ble_eq_true rfl) ?_
  refine W.eq (g2 := F0 m 4 ls []) rfl ?_
  refine lv_aload_n hx hb dX0_init_4 rfl (lv_at hl 0 rfl) ?_
  refine lv_lconst (v := 0) hx hb dX0_init_5 (by decide) ?_
  refine va_put (D := D) (ci := 0) (v := .long 0) (ty := .long) (C := RX0) (T := TX0) (N := 3) hx hb hts u_X0 tyX0 tyX0_ok nmX0 hown hk.1 hP hD hS 0 rfl rfl 0 (by decide) (hts _ q1_114) (fun _ h9 => h9) rfl (tyX0_ok 0 (by decide)) rfl rfl (Nat.le_of_ble_eq_true rfl) dX0_init_6 (fun H locs hP hD hS => ?_)
  have hP : va_P D vwCl [(h0, .inr (0, [.long 0, .long 0, .long 0]))] H := hP
  have hD : va_D A [(h0, .inr (0, [.long 0, .long 0, .long 0]))] := hD
  refine lv_aload_n hx hb dX0_init_9 rfl (lv_at hl 0 rfl) ?_
  refine lv_lconst (v := 0) hx hb dX0_init_10 (by decide) ?_
  refine va_put (D := D) (ci := 0) (v := .long 0) (ty := .long) (C := RX0) (T := TX0) (N := 3) hx hb hts u_X0 tyX0 tyX0_ok nmX0 hown hk.1 hP hD hS 0 rfl rfl 1 (by decide) (hts _ q1_118) (fun _ h9 => h9) rfl (tyX0_ok 1 (by decide)) rfl rfl (Nat.le_of_ble_eq_true rfl) dX0_init_11 (fun H locs hP hD hS => ?_)
  have hP : va_P D vwCl [(h0, .inr (0, [.long 0, .long 0, .long 0]))] H := hP
  have hD : va_D A [(h0, .inr (0, [.long 0, .long 0, .long 0]))] := hD
  refine lv_aload_n hx hb dX0_init_14 rfl (lv_at hl 0 rfl) ?_
  refine lv_lconst (v := 0) hx hb dX0_init_15 (by decide) ?_
  refine va_put (D := D) (ci := 0) (v := .long 0) (ty := .long) (C := RX0) (T := TX0) (N := 3) hx hb hts u_X0 tyX0 tyX0_ok nmX0 hown hk.1 hP hD hS 0 rfl rfl 2 (by decide) (hts _ q1_122) (fun _ h9 => h9) rfl (tyX0_ok 2 (by decide)) rfl rfl (Nat.le_of_ble_eq_true rfl) dX0_init_16 (fun H locs hP hD hS => ?_)
  have hP : va_P D vwCl [(h0, .inr (0, [.long 0, .long 0, .long 0]))] H := hP
  have hD : va_D A [(h0, .inr (0, [.long 0, .long 0, .long 0]))] := hD
  exact W.vret hx hb hrt (fun t ht _ => ⟨⟨adl [], rfl, trivial, by subst ht; exact hP, hD⟩, hS.F ht⟩) hS.2.2 dX0_init_19 (hlocks := hlocks)
theorem hd_X5_init : yX5_init.cls = RX5 ∧ yX5_init.cls ≠ "java/lang/invoke/MethodHandle" ∧ yX5_init.cls ≠ "java/lang/invoke/VarHandle" ∧ (parseMethodDescriptor yX5_init.desc).map (fun d => d.parameters.length) = some 1 := by decide +kernel
set_option maxHeartbeats 4000000 in
set_option maxRecDepth 100000 in
theorem k_X5_init_10 (l : Launch) (D : va_G) (cI cL cZ : ClassId) (h0 sz : Nat) : Met l yX5_init (Cond.code yX5_init cX5_init 3 none :: W0) { frames := 1, cells := 4, slots := 40, locals := 13 } (va_Pc [.ref h0, .int 10] (pC D cI cL cZ sz [(h0, .inr (5, [.null, .null, .null, .null]))])) (qC D (va_A [(h0, .inr (5, [.null, .null, .null, .null]))] sz) (fun u => [(h0, .inr (5, [.ref (u 0), .ref (u 1), .ref (u 2), .ref (u 3)])), ((u 0), .inl (cL, 10, .inr (.inl (fun _ => 0)))), ((u 1), .inl (cL, 10, .inr (.inl (fun _ => 0)))), ((u 2), .inl (cL, 10, .inr (.inl (fun _ => 0)))), ((u 3), .inl (cI, 10, .inl (fun _ => 0)))])) 4 40 (va_A [(h0, .inr (5, [.null, .null, .null, .null]))] sz) := by
  refine mk_ctor (cc := cX5_init) (maxL := 3) (by decide) (Nat.le_of_ble_eq_true rfl) ?_
  intro p e s m below meth c ls A hAe hA hin C hP hD hS hl
  obtain ⟨hx, hb, hml, hrt, hlocks, hown, hts, hk⟩ := C
  have hown : s.vm.findClass RX5 = some m.cls := hown
  have hl : lv_has ls 3 [(0, .ref h0), (1, .int 10)] := hl
  clear hAe
  refine lv_aload_n hx hb dX5_init_0 rfl (lv_at hl 0 rfl) ?_
  refine W.objInit hx hb hown (hts _ q1_143) (hts _ q1_21) (hts _ q1_22) rfl (by rw [hml]; exact hl.1) rfl dX5_init_1 (Nat.le_of_ble_eq_true rfl) (Nat.le_of_ble_eq_true rfl) ?_
  refine W.eq (g2 := F0 m 4 ls []) rfl ?_
  refine lv_iload_n hx hb dX5_init_4 rfl (lv_at hl 1 rfl) ?_
  refine lv_iconst (v := 0) hx hb dX5_init_5 (by decide) ?_
  refine va_mmax hx hb (hml.trans hl.1.symm) hown (hts _ q1_144) (hts _ q1_145) (hts _ q1_7) (hts _ q1_146) (Nat.le_of_ble_eq_true rfl) (Nat.le_of_ble_eq_true rfl) (Nat.le_of_ble_eq_true rfl) (Nat.le_of_ble_eq_true rfl) dX5_init_6 ?_
  refine lv_istore_n (lv' := [(2, .int 10), (0, .ref h0), (1, .int 10)]) hx hb dX5_init_9 rfl hl (by decide) rfl (fun ls hl => ?_)
  refine lv_aload_n hx hb dX5_init_10 rfl (lv_at hl 1 rfl) ?_
  refine lv_iload_n hx hb dX5_init_11 rfl (lv_at hl 0 rfl) ?_
  refine va_newa (atype := .long) (ty := .long) (N' := 10) (a0 := (10, .inr (.inl (fun _ => 0)))) hx hb (hts _ q1_107) rfl hk.1 hP hD hS hA (fun _ => rfl) (by decide) (by decide) (Nat.le_of_ble_eq_true rfl) (Nat.le_of_ble_eq_true rfl) (Nat.le_of_ble_eq_true rfl) dX5_init_12 (fun q12 cA H hK2 hP hD hS => ?_)
  have hcA := nk_eq 1 hK2 _ rfl (fun _ h => by cases h) (by decide)
  rw [hcA] at hP hD
  have hP : va_P D vwCl [(h0, .inr (5, [.null, .null, .null, .null])), (q12, .inl (cL, 10, .inr (.inl (fun _ => 0))))] H := hP
  have hD : va_D A [(h0, .inr (5, [.null, .null, .null, .null])), (q12, .inl (cL, 10, .inr (.inl (fun _ => 0))))] := hD
  refine W.widen (k := 1) (n := 10) (Nat.le_of_ble_eq_true rfl) (Nat.le_of_ble_eq_true rfl) ?_
  refine va_putF (D := D) (ci := 5) (v := .ref q12) (ty := .array .long) (C := RX5) (T := TX5) (N := 4) hx hb hts u_X5 tyX5 tyX5_ok nmX5 hown hk.1 hP hD hS 0 rfl rfl 0 (by decide) (hts _ q1_147) (fun _ h9 => h9) rfl hin rfl (tyX5_ok 0 (by decide)) rfl rfl (Nat.le_of_ble_eq_true rfl) dX5_init_14 (fun H locs hP hD hS => ?_)
  have hP : va_P D vwCl [(h0, .inr (5, [.ref q12, .null, .null, .null])), (q12, .inl (cL, 10, .inr (.inl (fun _ => 0))))] H := hP
  have hD : va_D A [(h0, .inr (5, [.ref q12, .null, .null, .null])), (q12, .inl (cL, 10, .inr (.inl (fun _ => 0))))] := hD
  refine lv_aload_n hx hb dX5_init_17 rfl (lv_at hl 1 rfl) ?_
  refine lv_iload_n hx hb dX5_init_18 rfl (lv_at hl 0 rfl) ?_
  refine va_newa (atype := .long) (ty := .long) (N' := 10) (a0 := (10, .inr (.inl (fun _ => 0)))) hx hb (hts _ q1_107) rfl hk.1 hP hD hS hA (fun _ => rfl) (by decide) (by decide) (Nat.le_of_ble_eq_true rfl) (Nat.le_of_ble_eq_true rfl) (Nat.le_of_ble_eq_true rfl) dX5_init_19 (fun q19 cA H hK2 hP hD hS => ?_)
  have hcA := nk_eq 1 hK2 _ rfl (fun _ h => by cases h) (by decide)
  rw [hcA] at hP hD
  have hP : va_P D vwCl [(h0, .inr (5, [.ref q12, .null, .null, .null])), (q12, .inl (cL, 10, .inr (.inl (fun _ => 0)))), (q19, .inl (cL, 10, .inr (.inl (fun _ => 0))))] H := hP
  have hD : va_D A [(h0, .inr (5, [.ref q12, .null, .null, .null])), (q12, .inl (cL, 10, .inr (.inl (fun _ => 0)))), (q19, .inl (cL, 10, .inr (.inl (fun _ => 0))))] := hD
  refine W.widen (k := 2) (n := 20) (Nat.le_of_ble_eq_true rfl) (Nat.le_of_ble_eq_true rfl) ?_
  refine va_putF (D := D) (ci := 5) (v := .ref q19) (ty := .array .long) (C := RX5) (T := TX5) (N := 4) hx hb hts u_X5 tyX5 tyX5_ok nmX5 hown hk.1 hP hD hS 0 rfl rfl 1 (by decide) (hts _ q1_148) (fun _ h9 => h9) rfl hin rfl (tyX5_ok 1 (by decide)) rfl rfl (Nat.le_of_ble_eq_true rfl) dX5_init_21 (fun H locs hP hD hS => ?_)
  have hP : va_P D vwCl [(h0, .inr (5, [.ref q12, .ref q19, .null, .null])), (q12, .inl (cL, 10, .inr (.inl (fun _ => 0)))), (q19, .inl (cL, 10, .inr (.inl (fun _ => 0))))] H := hP
  have hD : va_D A [(h0, .inr (5, [.ref q12, .ref q19, .null, .null])), (q12, .inl (cL, 10, .inr (.inl (fun _ => 0)))), (q19, .inl (cL, 10, .inr (.inl (fun _ => 0))))] := hD
  refine lv_aload_n hx hb dX5_init_24 rfl (lv_at hl 1 rfl) ?_
  refine lv_iload_n hx hb dX5_init_25 rfl (lv_at hl 0 rfl) ?_
  refine va_newa (atype := .long) (ty := .long) (N' := 10) (a0 := (10, .inr (.inl (fun _ => 0)))) hx hb (hts _ q1_107) rfl hk.1 hP hD hS hA (fun _ => rfl) (by decide) (by decide) (Nat.le_of_ble_eq_true rfl) (Nat.le_of_ble_eq_true rfl) (Nat.le_of_ble_eq_true rfl) dX5_init_26 (fun q26 cA H hK2 hP hD hS => ?_)
  have hcA := nk_eq 1 hK2 _ rfl (fun _ h => by cases h) (by decide)
  rw [hcA] at hP hD
  have hP : va_P D vwCl [(h0, .inr (5, [.ref q12, .ref q19, .null, .null])), (q12, .inl (cL, 10, .inr (.inl (fun _ => 0)))), (q19, .inl (cL, 10, .inr (.inl (fun _ => 0)))), (q26, .inl (cL, 10, .inr (.inl (fun _ => 0))))] H := hP
  have hD : va_D A [(h0, .inr (5, [.ref q12, .ref q19, .null, .null])), (q12, .inl (cL, 10, .inr (.inl (fun _ => 0)))), (q19, .inl (cL, 10, .inr (.inl (fun _ => 0)))), (q26, .inl (cL, 10, .inr (.inl (fun _ => 0))))] := hD
  refine W.widen (k := 3) (n := 30) (Nat.le_of_ble_eq_true rfl) (Nat.le_of_ble_eq_true rfl) ?_
  refine va_putF (D := D) (ci := 5) (v := .ref q26) (ty := .array .long) (C := RX5) (T := TX5) (N := 4) hx hb hts u_X5 tyX5 tyX5_ok nmX5 hown hk.1 hP hD hS 0 rfl rfl 2 (by decide) (hts _ q1_149) (fun _ h9 => h9) rfl hin rfl (tyX5_ok 2 (by decide)) rfl rfl (Nat.le_of_ble_eq_true rfl) dX5_init_28 (fun H locs hP hD hS => ?_)
  have hP : va_P D vwCl [(h0, .inr (5, [.ref q12, .ref q19, .ref q26, .null])), (q12, .inl (cL, 10, .inr (.inl (fun _ => 0)))), (q19, .inl (cL, 10, .inr (.inl (fun _ => 0)))), (q26, .inl (cL, 10, .inr (.inl (fun _ => 0))))] H := hP
  have hD : va_D A [(h0, .inr (5, [.ref q12, .ref q19, .ref q26, .null])), (q12, .inl (cL, 10, .inr (.inl (fun _ => 0)))), (q19, .inl (cL, 10, .inr (.inl (fun _ => 0)))), (q26, .inl (cL, 10, .inr (.inl (fun _ => 0))))] := hD
  refine lv_aload_n hx hb dX5_init_31 rfl (lv_at hl 1 rfl) ?_
  refine lv_iload_n hx hb dX5_init_32 rfl (lv_at hl 0 rfl) ?_
  refine va_newa (atype := .int) (ty := .int) (N' := 10) (a0 := (10, .inl (fun _ => 0))) hx hb (hts _ q1_49) rfl hk.1 hP hD hS hA (fun _ => rfl) (by decide) (by decide) (Nat.le_of_ble_eq_true rfl) (Nat.le_of_ble_eq_true rfl) (Nat.le_of_ble_eq_true rfl) dX5_init_33 (fun q33 cA H hK2 hP hD hS => ?_)
  have hcA := nk_eq 0 hK2 _ rfl (fun _ h => by cases h) (by decide)
  rw [hcA] at hP hD
  have hP : va_P D vwCl [(h0, .inr (5, [.ref q12, .ref q19, .ref q26, .null])), (q12, .inl (cL, 10, .inr (.inl (fun _ => 0)))), (q19, .inl (cL, 10, .inr (.inl (fun _ => 0)))), (q26, .inl (cL, 10, .inr (.inl (fun _ => 0)))), (q33, .inl (cI, 10, .inl (fun _ => 0)))] H := hP
  have hD : va_D A [(h0, .inr (5, [.ref q12, .ref q19, .ref q26, .null])), (q12, .inl (cL, 10, .inr (.inl (fun _ => 0)))), (q19, .inl (cL, 10, .inr (.inl (fun _ => 0)))), (q26, .inl (cL, 10, .inr (.inl (fun _ => 0)))), (q33, .inl (cI, 10, .inl (fun _ => 0)))] := hD
  refine W.widen (k := 4) (n := 40) (Nat.le_of_ble_eq_true rfl) (Nat.le_of_ble_eq_true rfl) ?_
  refine va_putF (D := D) (ci := 5) (v := .ref q33) (ty := .array .int) (C := RX5) (T := TX5) (N := 4) hx hb hts u_X5 tyX5 tyX5_ok nmX5 hown hk.1 hP hD hS 0 rfl rfl 3 (by decide) (hts _ q1_150) (fun _ h9 => h9) rfl hin rfl (tyX5_ok 3 (by decide)) rfl rfl (Nat.le_of_ble_eq_true rfl) dX5_init_35 (fun H locs hP hD hS => ?_)
  have hP : va_P D vwCl [(h0, .inr (5, [.ref q12, .ref q19, .ref q26, .ref q33])), (q12, .inl (cL, 10, .inr (.inl (fun _ => 0)))), (q19, .inl (cL, 10, .inr (.inl (fun _ => 0)))), (q26, .inl (cL, 10, .inr (.inl (fun _ => 0)))), (q33, .inl (cI, 10, .inl (fun _ => 0)))] H := hP
  have hD : va_D A [(h0, .inr (5, [.ref q12, .ref q19, .ref q26, .ref q33])), (q12, .inl (cL, 10, .inr (.inl (fun _ => 0)))), (q19, .inl (cL, 10, .inr (.inl (fun _ => 0)))), (q26, .inl (cL, 10, .inr (.inl (fun _ => 0)))), (q33, .inl (cI, 10, .inl (fun _ => 0)))] := hD
  exact W.vret hx hb hrt (fun t ht _ => ⟨⟨adl [q12, q19, q26, q33], rfl, trivial, by subst ht; exact hP, hD⟩, hS.F ht⟩) hS.2.2 dX5_init_38 (hlocks := hlocks)
set_option maxHeartbeats 4000000 in
set_option maxRecDepth 100000 in
theorem k_X5_init_2 (l : Launch) (D : va_G) (cI cL cZ : ClassId) (h0 sz : Nat) : Met l yX5_init (Cond.code yX5_init cX5_init 3 none :: W0) { frames := 1, cells := 4, slots := 8, locals := 13 } (va_Pc [.ref h0, .int 2] (pC D cI cL cZ sz [(h0, .inr (5, [.null, .null, .null, .null]))])) (qC D (va_A [(h0, .inr (5, [.null, .null, .null, .null]))] sz) (fun u => [(h0, .inr (5, [.ref (u 0), .ref (u 1), .ref (u 2), .ref (u 3)])), ((u 0), .inl (cL, 2, .inr (.inl (fun _ => 0)))), ((u 1), .inl (cL, 2, .inr (.inl (fun _ => 0)))), ((u 2), .inl (cL, 2, .inr (.inl (fun _ => 0)))), ((u 3), .inl (cI, 2, .inl (fun _ => 0)))])) 4 8 (va_A [(h0, .inr (5, [.null, .null, .null, .null]))] sz) := by
  refine mk_ctor (cc := cX5_init) (maxL := 3) (by decide) (Nat.le_of_ble_eq_true rfl) ?_
  intro p e s m below meth c ls A hAe hA hin C hP hD hS hl
  obtain ⟨hx, hb, hml, hrt, hlocks, hown, hts, hk⟩ := C
  have hown : s.vm.findClass RX5 = some m.cls := hown
  have hl : lv_has ls 3 [(0, .ref h0), (1, .int 2)] := hl
  clear hAe
  refine lv_aload_n hx hb dX5_init_0 rfl (lv_at hl 0 rfl) ?_
  refine W.objInit hx hb hown (hts _ q1_143) (hts _ q1_21) (hts _ q1_22) rfl (by rw [hml]; exact hl.1) rfl dX5_init_1 (Nat.le_of_ble_eq_true rfl) (Nat.le_of_ble_eq_true rfl) ?_
  refine W.eq (g2 := F0 m 4 ls []) rfl ?_
  refine lv_iload_n hx hb dX5_init_4 rfl (lv_at hl 1 rfl) ?_
  refine lv_iconst (v := 0) hx hb dX5_init_5 (by decide) ?_
  refine va_mmax hx hb (hml.trans hl.1.symm) hown (hts _ q1_144) (hts _ q1_145) (hts _ q1_7) (hts _ q1_146) (Nat.le_of_ble_eq_true rfl) (Nat.le_of_ble_eq_true rfl) (Nat.le_of_ble_eq_true rfl) (Nat.le_of_ble_eq_true rfl) dX5_init_6 ?_
  refine lv_istore_n (lv' := [(2, .int 2), (0, .ref h0), (1, .int 2)]) hx hb dX5_init_9 rfl hl (by decide) rfl (fun ls hl => ?_)
  refine lv_aload_n hx hb dX5_init_10 rfl (lv_at hl 1 rfl) ?_
  refine lv_iload_n hx hb dX5_init_11 rfl (lv_at hl 0 rfl) ?_
  refine va_newa (atype := .long) (ty := .long) (N' := 2) (a0 := (2, .inr (.inl (fun _ => 0)))) hx hb (hts _ q1_107) rfl hk.1 hP hD hS hA (fun _ => rfl) (by decide) (by decide) (Nat.le_of_ble_eq_true rfl) (Nat.le_of_ble_eq_true rfl) (Nat.le_of_ble_eq_true rfl) dX5_init_12 (fun q12 cA H hK2 hP hD hS => ?_)
  have hcA := nk_eq 1 hK2 _ rfl (fun _ h => by cases h) (by decide)
  rw [hcA] at hP hD
  have hP : va_P D vwCl [(h0, .inr (5, [.null, .null, .null, .null])), (q12, .inl (cL, 2, .inr (.inl (fun _ => 0))))] H := hP
  have hD : va_D A [(h0, .inr (5, [.null, .null, .null, .null])), (q12, .inl (cL, 2, .inr (.inl (fun _ => 0))))] := hD
  refine W.widen (k := 1) (n := 2) (Nat.le_of_ble_eq_true rfl) (Nat.le_of_ble_eq_true rfl) ?_
  refine va_putF (D := D) (ci := 5) (v := .ref q12) (ty := .array .long) (C := RX5) (T := TX5) (N := 4) hx hb hts u_X5 tyX5 tyX5_ok nmX5 hown hk.1 hP hD hS 0 rfl rfl 0 (by decide) (hts _ q1_147) (fun _ h9 => h9) rfl hin rfl (tyX5_ok 0 (by decide)) rfl rfl (Nat.le_of_ble_eq_true rfl) dX5_init_14 (fun H locs hP hD hS => ?_)
  have hP : va_P D vwCl [(h0, .inr (5, [.ref q12, .null, .null, .null])), (q12, .inl (cL, 2, .inr (.inl (fun _ => 0))))] H := hP
  have hD : va_D A [(h0, .inr (5, [.ref q12, .null, .null, .null])), (q12, .inl (cL, 2, .inr (.inl (fun _ => 0))))] := hD
  refine lv_aload_n hx hb dX5_init_17 rfl (lv_at hl 1 rfl) ?_
  refine lv_iload_n hx hb dX5_init_18 rfl (lv_at hl 0 rfl) ?_
  refine va_newa (atype := .long) (ty := .long) (N' := 2) (a0 := (2, .inr (.inl (fun _ => 0)))) hx hb (hts _ q1_107) rfl hk.1 hP hD hS hA (fun _ => rfl) (by decide) (by decide) (Nat.le_of_ble_eq_true rfl) (Nat.le_of_ble_eq_true rfl) (Nat.le_of_ble_eq_true rfl) dX5_init_19 (fun q19 cA H hK2 hP hD hS => ?_)
  have hcA := nk_eq 1 hK2 _ rfl (fun _ h => by cases h) (by decide)
  rw [hcA] at hP hD
  have hP : va_P D vwCl [(h0, .inr (5, [.ref q12, .null, .null, .null])), (q12, .inl (cL, 2, .inr (.inl (fun _ => 0)))), (q19, .inl (cL, 2, .inr (.inl (fun _ => 0))))] H := hP
  have hD : va_D A [(h0, .inr (5, [.ref q12, .null, .null, .null])), (q12, .inl (cL, 2, .inr (.inl (fun _ => 0)))), (q19, .inl (cL, 2, .inr (.inl (fun _ => 0))))] := hD
  refine W.widen (k := 2) (n := 4) (Nat.le_of_ble_eq_true rfl) (Nat.le_of_ble_eq_true rfl) ?_
  refine va_putF (D := D) (ci := 5) (v := .ref q19) (ty := .array .long) (C := RX5) (T := TX5) (N := 4) hx hb hts u_X5 tyX5 tyX5_ok nmX5 hown hk.1 hP hD hS 0 rfl rfl 1 (by decide) (hts _ q1_148) (fun _ h9 => h9) rfl hin rfl (tyX5_ok 1 (by decide)) rfl rfl (Nat.le_of_ble_eq_true rfl) dX5_init_21 (fun H locs hP hD hS => ?_)
  have hP : va_P D vwCl [(h0, .inr (5, [.ref q12, .ref q19, .null, .null])), (q12, .inl (cL, 2, .inr (.inl (fun _ => 0)))), (q19, .inl (cL, 2, .inr (.inl (fun _ => 0))))] H := hP
  have hD : va_D A [(h0, .inr (5, [.ref q12, .ref q19, .null, .null])), (q12, .inl (cL, 2, .inr (.inl (fun _ => 0)))), (q19, .inl (cL, 2, .inr (.inl (fun _ => 0))))] := hD
  refine lv_aload_n hx hb dX5_init_24 rfl (lv_at hl 1 rfl) ?_
  refine lv_iload_n hx hb dX5_init_25 rfl (lv_at hl 0 rfl) ?_
  refine va_newa (atype := .long) (ty := .long) (N' := 2) (a0 := (2, .inr (.inl (fun _ => 0)))) hx hb (hts _ q1_107) rfl hk.1 hP hD hS hA (fun _ => rfl) (by decide) (by decide) (Nat.le_of_ble_eq_true rfl) (Nat.le_of_ble_eq_true rfl) (Nat.le_of_ble_eq_true rfl) dX5_init_26 (fun q26 cA H hK2 hP hD hS => ?_)
  have hcA := nk_eq 1 hK2 _ rfl (fun _ h => by cases h) (by decide)
  rw [hcA] at hP hD
  have hP : va_P D vwCl [(h0, .inr (5, [.ref q12, .ref q19, .null, .null])), (q12, .inl (cL, 2, .inr (.inl (fun _ => 0)))), (q19, .inl (cL, 2, .inr (.inl (fun _ => 0)))), (q26, .inl (cL, 2, .inr (.inl (fun _ => 0))))] H := hP
  have hD : va_D A [(h0, .inr (5, [.ref q12, .ref q19, .null, .null])), (q12, .inl (cL, 2, .inr (.inl (fun _ => 0)))), (q19, .inl (cL, 2, .inr (.inl (fun _ => 0)))), (q26, .inl (cL, 2, .inr (.inl (fun _ => 0))))] := hD
  refine W.widen (k := 3) (n := 6) (Nat.le_of_ble_eq_true rfl) (Nat.le_of_ble_eq_true rfl) ?_
  refine va_putF (D := D) (ci := 5) (v := .ref q26) (ty := .array .long) (C := RX5) (T := TX5) (N := 4) hx hb hts u_X5 tyX5 tyX5_ok nmX5 hown hk.1 hP hD hS 0 rfl rfl 2 (by decide) (hts _ q1_149) (fun _ h9 => h9) rfl hin rfl (tyX5_ok 2 (by decide)) rfl rfl (Nat.le_of_ble_eq_true rfl) dX5_init_28 (fun H locs hP hD hS => ?_)
  have hP : va_P D vwCl [(h0, .inr (5, [.ref q12, .ref q19, .ref q26, .null])), (q12, .inl (cL, 2, .inr (.inl (fun _ => 0)))), (q19, .inl (cL, 2, .inr (.inl (fun _ => 0)))), (q26, .inl (cL, 2, .inr (.inl (fun _ => 0))))] H := hP
  have hD : va_D A [(h0, .inr (5, [.ref q12, .ref q19, .ref q26, .null])), (q12, .inl (cL, 2, .inr (.inl (fun _ => 0)))), (q19, .inl (cL, 2, .inr (.inl (fun _ => 0)))), (q26, .inl (cL, 2, .inr (.inl (fun _ => 0))))] := hD
  refine lv_aload_n hx hb dX5_init_31 rfl (lv_at hl 1 rfl) ?_
  refine lv_iload_n hx hb dX5_init_32 rfl (lv_at hl 0 rfl) ?_
  refine va_newa (atype := .int) (ty := .int) (N' := 2) (a0 := (2, .inl (fun _ => 0))) hx hb (hts _ q1_49) rfl hk.1 hP hD hS hA (fun _ => rfl) (by decide) (by decide) (Nat.le_of_ble_eq_true rfl) (Nat.le_of_ble_eq_true rfl) (Nat.le_of_ble_eq_true rfl) dX5_init_33 (fun q33 cA H hK2 hP hD hS => ?_)
  have hcA := nk_eq 0 hK2 _ rfl (fun _ h => by cases h) (by decide)
  rw [hcA] at hP hD
  have hP : va_P D vwCl [(h0, .inr (5, [.ref q12, .ref q19, .ref q26, .null])), (q12, .inl (cL, 2, .inr (.inl (fun _ => 0)))), (q19, .inl (cL, 2, .inr (.inl (fun _ => 0)))), (q26, .inl (cL, 2, .inr (.inl (fun _ => 0)))), (q33, .inl (cI, 2, .inl (fun _ => 0)))] H := hP
  have hD : va_D A [(h0, .inr (5, [.ref q12, .ref q19, .ref q26, .null])), (q12, .inl (cL, 2, .inr (.inl (fun _ => 0)))), (q19, .inl (cL, 2, .inr (.inl (fun _ => 0)))), (q26, .inl (cL, 2, .inr (.inl (fun _ => 0)))), (q33, .inl (cI, 2, .inl (fun _ => 0)))] := hD
  refine W.widen (k := 4) (n := 8) (Nat.le_of_ble_eq_true rfl) (Nat.le_of_ble_eq_true rfl) ?_
  refine va_putF (D := D) (ci := 5) (v := .ref q33) (ty := .array .int) (C := RX5) (T := TX5) (N := 4) hx hb hts u_X5 tyX5 tyX5_ok nmX5 hown hk.1 hP hD hS 0 rfl rfl 3 (by decide) (hts _ q1_150) (fun _ h9 => h9) rfl hin rfl (tyX5_ok 3 (by decide)) rfl rfl (Nat.le_of_ble_eq_true rfl) dX5_init_35 (fun H locs hP hD hS => ?_)
  have hP : va_P D vwCl [(h0, .inr (5, [.ref q12, .ref q19, .ref q26, .ref q33])), (q12, .inl (cL, 2, .inr (.inl (fun _ => 0)))), (q19, .inl (cL, 2, .inr (.inl (fun _ => 0)))), (q26, .inl (cL, 2, .inr (.inl (fun _ => 0)))), (q33, .inl (cI, 2, .inl (fun _ => 0)))] H := hP
  have hD : va_D A [(h0, .inr (5, [.ref q12, .ref q19, .ref q26, .ref q33])), (q12, .inl (cL, 2, .inr (.inl (fun _ => 0)))), (q19, .inl (cL, 2, .inr (.inl (fun _ => 0)))), (q26, .inl (cL, 2, .inr (.inl (fun _ => 0)))), (q33, .inl (cI, 2, .inl (fun _ => 0)))] := hD
  exact W.vret hx hb hrt (fun t ht _ => ⟨⟨adl [q12, q19, q26, q33], rfl, trivial, by subst ht; exact hP, hD⟩, hS.F ht⟩) hS.2.2 dX5_init_38 (hlocks := hlocks)
theorem hd_X2_init : yX2_init.cls = RX2 ∧ yX2_init.cls ≠ "java/lang/invoke/MethodHandle" ∧ yX2_init.cls ≠ "java/lang/invoke/VarHandle" ∧ (parseMethodDescriptor yX2_init.desc).map (fun d => d.parameters.length) = some 0 := by decide +kernel
set_option maxHeartbeats 4000000 in
set_option maxRecDepth 100000 in
theorem k_X2_init (l : Launch) (D : va_G) (cI cL cZ : ClassId) (h0 sz : Nat) : Met l yX2_init (Cond.code yX2_init cX2_init 1 none :: W0) { frames := 2, cells := 5, slots := 44, locals := 35 } (va_Pc [.ref h0] (pC D cI cL cZ sz [(h0, .inr (2, [.null, .int 0, .int 0]))])) (qC D (va_A [(h0, .inr (2, [.null, .int 0, .int 0]))] sz) (fun u => [(h0, .inr (2, [.ref (u 0), .int 0, .int 0])), ((u 0), .inr (5, [.ref (u 1), .ref (u 2), .ref (u 3), .ref (u 4)])), ((u 1), .inl (cL, 10, .inr (.inl (fun _ => 0)))), ((u 2), .inl (cL, 10, .inr (.inl (fun _ => 0)))), ((u 3), .inl (cL, 10, .inr (.inl (fun _ => 0)))), ((u 4), .inl (cI, 10, .inl (fun _ => 0)))])) 5 44 (va_A [(h0, .inr (2, [.null, .int 0, .int 0]))] sz) := by
  refine mk_ctor (cc := cX2_init) (maxL := 1) (by decide) (Nat.le_of_ble_eq_true rfl) ?_
  intro p e s m below meth c ls A hAe hA hin C hP hD hS hl
  obtain ⟨hx, hb, hml, hrt, hlocks, hown, hts, hk⟩ := C
  have hown : s.vm.findClass RX2 = some m.cls := hown
  have hl : lv_has ls 1 [(0, .ref h0)] := hl
  clear hAe
  refine lv_aload_n hx hb dX2_init_0 rfl (lv_at hl 0 rfl) ?_
  refine W.objInit hx hb hown (hts _ q1_137) (hts _ q1_21) (hts _ q1_22) rfl (by rw [hml]; exact hl.1) rfl dX2_init_1 (Nat.le_of_ble_eq_true rfl) (Nat.le_of_ble_eq_true rfl) ?_
  refine W.eq (g2 := F0 m 4 ls []) rfl ?_
  refine lv_aload_n hx hb dX2_init_4 rfl (lv_at hl 0 rfl) ?_
  refine va_new (ci := 5) (fs := [.null, .null, .null, .null]) (C := RX5) (T := TX5) (N := 4) hx hb hts u_X5 tyX5 tyX5_ok hown (hts _ q1_138) (hts _ q1_139) (hts _ q1_6) hk.1 hP hD hS hA rfl fs_X5 (Nat.le_of_ble_eq_true rfl) (Nat.le_of_ble_eq_true rfl) dX2_init_5 (fun q5 H hP hD hS => ?_)
  have hP : va_P D vwCl [(h0, .inr (2, [.null, .int 0, .int 0])), (q5, .inr (5, [.null, .null, .null, .null]))] H := hP
  have hD : va_D A [(h0, .inr (2, [.null, .int 0, .int 0])), (q5, .inr (5, [.null, .null, .null, .null]))] := hD
  refine W.widen (k := 1) (n := 4) (Nat.le_of_ble_eq_true rfl) (Nat.le_of_ble_eq_true rfl) ?_
  refine lv_dup hx hb dX2_init_8 rfl ?_
  refine lv_bipush (v := 10) hx hb dX2_init_9 (by decide) ?_
  have hPc := hP.sub (ws' := [(q5, .inr (5, [.null, .null, .null, .null]))]) [1] rfl
  have hFc := va_free (wc := [(q5, .inr (5, [.null, .null, .null, .null]))]) hD hS hA [1] rfl
  refine va_callv (va_runI (As := [.int 10]) (rest := [.ref q5, .ref h0]) ⟨hx, hb, hml, hown, hts⟩ (k_X5_init_10 l D cI cL cZ q5 H.size) (cwI 1 hts (gN q1_142) rfl rfl rfl (hts _ q1_6) (hts _ q1_140) (hts _ q1_141) rfl hd_X5_init.2 ⟨Nat.le_of_ble_eq_true rfl, Nat.le_of_ble_eq_true rfl⟩) ⟨pC.blind, pC.pre hPc hk⟩ rfl rfl hl.1 rfl (lv_room (Nat.le_of_ble_eq_true rfl)) dX2_init_11 ⟨Nat.le_of_ble_eq_true rfl, Nat.le_of_ble_eq_true rfl⟩) hS (fun q _ h => hFc q h) hFc (fun u11 t H1 locs ht hvm hw hB hz1 hk1 hS => ?_)
  obtain ⟨hP1, hD1⟩ := hB
  rw [ht] at hP1
  obtain ⟨hP, hD⟩ := va_join (wr := [(h0, .inr (2, [.null, .int 0, .int 0]))]) (w1 := [(q5, .inr (5, [.ref (u11 0), .ref (u11 1), .ref (u11 2), .ref (u11 3)])), ((u11 0), .inl (cL, 10, .inr (.inl (fun _ => 0)))), ((u11 1), .inl (cL, 10, .inr (.inl (fun _ => 0)))), ((u11 2), .inl (cL, 10, .inr (.inl (fun _ => 0)))), ((u11 3), .inl (cI, 10, .inl (fun _ => 0)))]) hP hD [1] [0] rfl rfl (by decide) (by decide) hk1 hFc hP1 hD1
  generalize H1 = H at hP hS ⊢
  have hP : va_P D vwCl [(h0, .inr (2, [.null, .int 0, .int 0])), (q5, .inr (5, [.ref (u11 0), .ref (u11 1), .ref (u11 2), .ref (u11 3)])), ((u11 0), .inl (cL, 10, .inr (.inl (fun _ => 0)))), ((u11 1), .inl (cL, 10, .inr (.inl (fun _ => 0)))), ((u11 2), .inl (cL, 10, .inr (.inl (fun _ => 0)))), ((u11 3), .inl (cI, 10, .inl (fun _ => 0)))] H := hP
  have hD : va_D A [(h0, .inr (2, [.null, .int 0, .int 0])), (q5, .inr (5, [.ref (u11 0), .ref (u11 1), .ref (u11 2), .ref (u11 3)])), ((u11 0), .inl (cL, 10, .inr (.inl (fun _ => 0)))), ((u11 1), .inl (cL, 10, .inr (.inl (fun _ => 0)))), ((u11 2), .inl (cL, 10, .inr (.inl (fun _ => 0)))), ((u11 3), .inl (cI, 10, .inl (fun _ => 0)))] := hD
  refine W.widen (k := 5) (n := 44) (Nat.le_of_ble_eq_true rfl) (Nat.le_of_ble_eq_true rfl) ?_
  refine va_putF (D := D) (ci := 2) (v := .ref q5) (ty := .object "NumberedLoops$Shelf") (C := RX2) (T := TX2) (N := 3) hx hb hts u_X2 tyX2 tyX2_ok nmX2 hown hk.1 hP hD hS 0 rfl rfl 0 (by decide) (hts _ q1_160) (fun _ h9 => h9) rfl hin rfl (tyX2_ok 0 (by decide)) rfl rfl (Nat.le_of_ble_eq_true rfl) dX2_init_14 (fun H locs hP hD hS => ?_)
  have hP : va_P D vwCl [(h0, .inr (2, [.ref q5, .int 0, .int 0])), (q5, .inr (5, [.ref (u11 0), .ref (u11 1), .ref (u11 2), .ref (u11 3)])), ((u11 0), .inl (cL, 10, .inr (.inl (fun _ => 0)))), ((u11 1), .inl (cL, 10, .inr (.inl (fun _ => 0)))), ((u11 2), .inl (cL, 10, .inr (.inl (fun _ => 0)))), ((u11 3), .inl (cI, 10, .inl (fun _ => 0)))] H := hP
  have hD : va_D A [(h0, .inr (2, [.ref q5, .int 0, .int 0])), (q5, .inr (5, [.ref (u11 0), .ref (u11 1), .ref (u11 2), .ref (u11 3)])), ((u11 0), .inl (cL, 10, .inr (.inl (fun _ => 0)))), ((u11 1), .inl (cL, 10, .inr (.inl (fun _ => 0)))), ((u11 2), .inl (cL, 10, .inr (.inl (fun _ => 0)))), ((u11 3), .inl (cI, 10, .inl (fun _ => 0)))] := hD
  refine lv_aload_n hx hb dX2_init_17 rfl (lv_at hl 0 rfl) ?_
  refine lv_iconst (v := 0) hx hb dX2_init_18 (by decide) ?_
  refine va_put (D := D) (ci := 2) (v := .int 0) (ty := .int) (C := RX2) (T := TX2) (N := 3) hx hb hts u_X2 tyX2 tyX2_ok nmX2 hown hk.1 hP hD hS 0 rfl rfl 1 (by decide) (hts _ q1_161) (fun _ h9 => h9) rfl (tyX2_ok 1 (by decide)) rfl rfl (Nat.le_of_ble_eq_true rfl) dX2_init_19 (fun H locs hP hD hS => ?_)
  have hP : va_P D vwCl [(h0, .inr (2, [.ref q5, .int 0, .int 0])), (q5, .inr (5, [.ref (u11 0), .ref (u11 1), .ref (u11 2), .ref (u11 3)])), ((u11 0), .inl (cL, 10, .inr (.inl (fun _ => 0)))), ((u11 1), .inl (cL, 10, .inr (.inl (fun _ => 0)))), ((u11 2), .inl (cL, 10, .inr (.inl (fun _ => 0)))), ((u11 3), .inl (cI, 10, .inl (fun _ => 0)))] H := hP
  have hD : va_D A [(h0, .inr (2, [.ref q5, .int 0, .int 0])), (q5, .inr (5, [.ref (u11 0), .ref (u11 1), .ref (u11 2), .ref (u11 3)])), ((u11 0), .inl (cL, 10, .inr (.inl (fun _ => 0)))), ((u11 1), .inl (cL, 10, .inr (.inl (fun _ => 0)))), ((u11 2), .inl (cL, 10, .inr (.inl (fun _ => 0)))), ((u11 3), .inl (cI, 10, .inl (fun _ => 0)))] := hD
  refine lv_aload_n hx hb dX2_init_22 rfl (lv_at hl 0 rfl) ?_
  refine lv_iconst (v := 0) hx hb dX2_init_23 (by decide) ?_
  refine va_put (D := D) (ci := 2) (v := .int 0) (ty := .int) (C := RX2) (T := TX2) (N := 3) hx hb hts u_X2 tyX2 tyX2_ok nmX2 hown hk.1 hP hD hS 0 rfl rfl 2 (by decide) (hts _ q1_162) (fun _ h9 => h9) rfl (tyX2_ok 2 (by decide)) rfl rfl (Nat.le_of_ble_eq_true rfl) dX2_init_24 (fun H locs hP hD hS => ?_)
  have hP : va_P D vwCl [(h0, .inr (2, [.ref q5, .int 0, .int 0])), (q5, .inr (5, [.ref (u11 0), .ref (u11 1), .ref (u11 2), .ref (u11 3)])), ((u11 0), .inl (cL, 10, .inr (.inl (fun _ => 0)))), ((u11 1), .inl (cL, 10, .inr (.inl (fun _ => 0)))), ((u11 2), .inl (cL, 10, .inr (.inl (fun _ => 0)))), ((u11 3), .inl (cI, 10, .inl (fun _ => 0)))] H := hP
  have hD : va_D A [(h0, .inr (2, [.ref q5, .int 0, .int 0])), (q5, .inr (5, [.ref (u11 0), .ref (u11 1), .ref (u11 2), .ref (u11 3)])), ((u11 0), .inl (cL, 10, .inr (.inl (fun _ => 0)))), ((u11 1), .inl (cL, 10, .inr (.inl (fun _ => 0)))), ((u11 2), .inl (cL, 10, .inr (.inl (fun _ => 0)))), ((u11 3), .inl (cI, 10, .inl (fun _ => 0)))] := hD
  exact W.vret hx hb hrt (fun t ht _ => ⟨⟨adl [q5, (u11 0), (u11 1), (u11 2), (u11 3)], rfl, trivial, by subst ht; exact hP, hD⟩, hS.F ht⟩) hS.2.2 dX2_init_27 (hlocks := hlocks)
theorem hd_X3_init : yX3_init.cls = RX3 ∧ yX3_init.cls ≠ "java/lang/invoke/MethodHandle" ∧ yX3_init.cls ≠ "java/lang/invoke/VarHandle" ∧ (parseMethodDescriptor yX3_init.desc).map (fun d => d.parameters.length) = some 2 := by decide +kernel
set_option maxHeartbeats 4000000 in
set_option maxRecDepth 100000 in
theorem k_X3_init (l : Launch) (D : va_G) (cI cL cZ : ClassId) (h0 sz : Nat) (ra : Nat) (rb_ : Nat) : Met l yX3_init (Cond.code yX3_init cX3_init 3 none :: W0) { frames := 1, cells := 0, slots := 0, locals := 12 } (va_Pc [.ref h0, .ref ra, .ref rb_] (pC D cI cL cZ sz [(h0, .inr (3, [.null, .null, .int 0, .int 0, .int 0, .long 0]))])) (qC D (va_A [(h0, .inr (3, [.null, .null, .int 0, .int 0, .int 0, .long 0]))] sz) (fun u => [(h0, .inr (3, [.ref ra, .ref rb_, .int 0, .int 0, .int 0, .long 0]))])) 0 0 (va_A [(h0, .inr (3, [.null, .null, .int 0, .int 0, .int 0, .long 0]))] sz) := by
  refine mk_ctor (cc := cX3_init) (maxL := 3) (by decide) (Nat.le_of_ble_eq_true rfl) ?_
  intro p e s m below meth c ls A hAe hA hin C hP hD hS hl
  obtain ⟨hx, hb, hml, hrt, hlocks, hown, hts, hk⟩ := C
  have hown : s.vm.findClass RX3 = some m.cls := hown
  have hl : lv_has ls 3 [(0, .ref h0), (1, .ref ra), (2, .ref rb_)] := hl
  clear hAe
  refine lv_aload_n hx hb dX3_init_0 rfl (lv_at hl 0 rfl) ?_
  refine W.objInit hx hb hown (hts _ q1_178) (hts _ q1_21) (hts _ q1_22) rfl (by rw [hml]; exact hl.1) rfl dX3_init_1 (Nat.le_of_ble_eq_true rfl) (Nat.le_of_ble_eq_true rfl) ?_
  refine W.eq (g2 := F0 m 4 ls []) rfl ?_
  refine lv_aload_n hx hb dX3_init_4 rfl (lv_at hl 0 rfl) ?_
  refine lv_iconst (v := 0) hx hb dX3_init_5 (by decide) ?_
  refine va_put (D := D) (ci := 3) (v := .int 0) (ty := .int) (C := RX3) (T := TX3) (N := 6) hx hb hts u_X3 tyX3 tyX3_ok nmX3 hown hk.1 hP hD hS 0 rfl rfl 2 (by decide) (hts _ q1_181) (fun _ h9 => h9) rfl (tyX3_ok 2 (by decide)) rfl rfl (Nat.le_of_ble_eq_true rfl) dX3_init_6 (fun H locs hP hD hS => ?_)
  have hP : va_P D vwCl [(h0, .inr (3, [.null, .null, .int 0, .int 0, .int 0, .long 0]))] H := hP
  have hD : va_D A [(h0, .inr (3, [.null, .null, .int 0, .int 0, .int 0, .long 0]))] := hD
  refine lv_aload_n hx hb dX3_init_9 rfl (lv_at hl 0 rfl) ?_
  refine lv_iconst (v := 0) hx hb dX3_init_10 (by decide) ?_
  refine va_put (D := D) (ci := 3) (v := .int 0) (ty := .int) (C := RX3) (T := TX3) (N := 6) hx hb hts u_X3 tyX3 tyX3_ok nmX3 hown hk.1 hP hD hS 0 rfl rfl 3 (by decide) (hts _ q1_183) (fun _ h9 => h9) rfl (tyX3_ok 3 (by decide)) rfl rfl (Nat.le_of_ble_eq_true rfl) dX3_init_11 (fun H locs hP hD hS => ?_)
  have hP : va_P D vwCl [(h0, .inr (3, [.null, .null, .int 0, .int 0, .int 0, .long 0]))] H := hP
  have hD : va_D A [(h0, .inr (3, [.null, .null, .int 0, .int 0, .int 0, .long 0]))] := hD
  refine lv_aload_n hx hb dX3_init_14 rfl (lv_at hl 0 rfl) ?_
  refine lv_iconst (v := 0) hx hb dX3_init_15 (by decide) ?_
  refine va_put (D := D) (ci := 3) (v := .int 0) (ty := .int) (C := RX3) (T := TX3) (N := 6) hx hb hts u_X3 tyX3 tyX3_ok nmX3 hown hk.1 hP hD hS 0 rfl rfl 4 (by decide) (hts _ q1_185) (fun _ h9 => h9) rfl (tyX3_ok 4 (by decide)) rfl rfl (Nat.le_of_ble_eq_true rfl) dX3_init_16 (fun H locs hP hD hS => ?_)
  have hP : va_P D vwCl [(h0, .inr (3, [.null, .null, .int 0, .int 0, .int 0, .long 0]))] H := hP
  have hD : va_D A [(h0, .inr (3, [.null, .null, .int 0, .int 0, .int 0, .long 0]))] := hD
  refine lv_aload_n hx hb dX3_init_19 rfl (lv_at hl 0 rfl) ?_
  refine lv_lconst (v := 0) hx hb dX3_init_20 (by decide) ?_
  refine va_put (D := D) (ci := 3) (v := .long 0) (ty := .long) (C := RX3) (T := TX3) (N := 6) hx hb hts u_X3 tyX3 tyX3_ok nmX3 hown hk.1 hP hD hS 0 rfl rfl 5 (by decide) (hts _ q1_187) (fun _ h9 => h9) rfl (tyX3_ok 5 (by decide)) rfl rfl (Nat.le_of_ble_eq_true rfl) dX3_init_21 (fun H locs hP hD hS => ?_)
  have hP : va_P D vwCl [(h0, .inr (3, [.null, .null, .int 0, .int 0, .int 0, .long 0]))] H := hP
  have hD : va_D A [(h0, .inr (3, [.null, .null, .int 0, .int 0, .int 0, .long 0]))] := hD
  refine lv_aload_n hx hb dX3_init_24 rfl (lv_at hl 0 rfl) ?_
  refine lv_aload_n hx hb dX3_init_25 rfl (lv_at hl 1 rfl) ?_
  refine va_putF (D := D) (ci := 3) (v := .ref ra) (ty := .object "NumberedLoops$Shape") (C := RX3) (T := TX3) (N := 6) hx hb hts u_X3 tyX3 tyX3_ok nmX3 hown hk.1 hP hD hS 0 rfl rfl 0 (by decide) (hts _ q1_179) (fun _ h9 => h9) rfl hin rfl (tyX3_ok 0 (by decide)) rfl rfl (Nat.le_of_ble_eq_true rfl) dX3_init_26 (fun H locs hP hD hS => ?_)
  have hP : va_P D vwCl [(h0, .inr (3, [.ref ra, .null, .int 0, .int 0, .int 0, .long 0]))] H := hP
  have hD : va_D A [(h0, .inr (3, [.ref ra, .null, .int 0, .int 0, .int 0, .long 0]))] := hD
  refine lv_aload_n hx hb dX3_init_29 rfl (lv_at hl 0 rfl) ?_
  refine lv_aload_n hx hb dX3_init_30 rfl (lv_at hl 2 rfl) ?_
  refine va_putF (D := D) (ci := 3) (v := .ref rb_) (ty := .object "NumberedLoops$Board") (C := RX3) (T := TX3) (N := 6) hx hb hts u_X3 tyX3 tyX3_ok nmX3 hown hk.1 hP hD hS 0 rfl rfl 1 (by decide) (hts _ q1_180) (fun _ h9 => h9) rfl hin rfl (tyX3_ok 1 (by decide)) rfl rfl (Nat.le_of_ble_eq_true rfl) dX3_init_31 (fun H locs hP hD hS => ?_)
  have hP : va_P D vwCl [(h0, .inr (3, [.ref ra, .ref rb_, .int 0, .int 0, .int 0, .long 0]))] H := hP
  have hD : va_D A [(h0, .inr (3, [.ref ra, .ref rb_, .int 0, .int 0, .int 0, .long 0]))] := hD
  exact W.vret hx hb hrt (fun t ht _ => ⟨⟨adl [], rfl, trivial, by subst ht; exact hP, hD⟩, hS.F ht⟩) hS.2.2 dX3_init_34 (hlocks := hlocks)
theorem hd_X1_init : yX1_init.cls = RX1 ∧ yX1_init.cls ≠ "java/lang/invoke/MethodHandle" ∧ yX1_init.cls ≠ "java/lang/invoke/VarHandle" ∧ (parseMethodDescriptor yX1_init.desc).map (fun d => d.parameters.length) = some 2 := by decide +kernel
set_option maxHeartbeats 4000000 in
set_option maxRecDepth 100000 in
theorem k_X1_init_a (l : Launch) (D : va_G) (cI cL cZ : ClassId) (h0 sz : Nat) (ra : Nat) : Met l yX1_init (Cond.code yX1_init cX1_init 3 none :: W0) { frames := 1, cells := 1, slots := 10000, locals := 14 } (va_Pc [.ref h0, .ref ra, .int 10000] (pC D cI cL cZ sz [(h0, .inr (1, [.null, .null, .long 0, .long 0, .long 0, .int 0]))])) (qC D (va_A [(h0, .inr (1, [.null, .null, .long 0, .long 0, .long 0, .int 0]))] sz) (fun u => [(h0, .inr (1, [.ref ra, .ref (u 0), .long 0, .long 0, .long 0, .int 0])), ((u 0), .inl (cL, 10000, .inr (.inl (fun _ => 0))))])) 1 10000 (va_A [(h0, .inr (1, [.null, .null, .long 0, .long 0, .long 0, .int 0]))] sz) := by
  refine mk_ctor (cc := cX1_init) (maxL := 3) (by decide) (Nat.le_of_ble_eq_true rfl) ?_
  intro p e s m below meth c ls A hAe hA hin C hP hD hS hl
  obtain ⟨hx, hb, hml, hrt, hlocks, hown, hts, hk⟩ := C
  have hown : s.vm.findClass RX1 = some m.cls := hown
  have hl : lv_has ls 3 [(0, .ref h0), (1, .ref ra), (2, .int 10000)] := hl
  clear hAe
  refine lv_aload_n hx hb dX1_init_0 rfl (lv_at hl 0 rfl) ?_
  refine W.objInit hx hb hown (hts _ q1_207) (hts _ q1_21) (hts _ q1_22) rfl (by rw [hml]; exact hl.1) rfl dX1_init_1 (Nat.le_of_ble_eq_true rfl) (Nat.le_of_ble_eq_true rfl) ?_
  refine W.eq (g2 := F0 m 4 ls []) rfl ?_
  refine lv_aload_n hx hb dX1_init_4 rfl (lv_at hl 0 rfl) ?_
  refine lv_lconst (v := 0) hx hb dX1_init_5 (by decide) ?_
  refine va_put (D := D) (ci := 1) (v := .long 0) (ty := .long) (C := RX1) (T := TX1) (N := 6) hx hb hts u_X1 tyX1 tyX1_ok nmX1 hown hk.1 hP hD hS 0 rfl rfl 2 (by decide) (hts _ q1_211) (fun _ h9 => h9) rfl (tyX1_ok 2 (by decide)) rfl rfl (Nat.le_of_ble_eq_true rfl) dX1_init_6 (fun H locs hP hD hS => ?_)
  have hP : va_P D vwCl [(h0, .inr (1, [.null, .null, .long 0, .long 0, .long 0, .int 0]))] H := hP
  have hD : va_D A [(h0, .inr (1, [.null, .null, .long 0, .long 0, .long 0, .int 0]))] := hD
  refine lv_aload_n hx hb dX1_init_9 rfl (lv_at hl 0 rfl) ?_
  refine lv_lconst (v := 0) hx hb dX1_init_10 (by decide) ?_
  refine va_put (D := D) (ci := 1) (v := .long 0) (ty := .long) (C := RX1) (T := TX1) (N := 6) hx hb hts u_X1 tyX1 tyX1_ok nmX1 hown hk.1 hP hD hS 0 rfl rfl 3 (by decide) (hts _ q1_212) (fun _ h9 => h9) rfl (tyX1_ok 3 (by decide)) rfl rfl (Nat.le_of_ble_eq_true rfl) dX1_init_11 (fun H locs hP hD hS => ?_)
  have hP : va_P D vwCl [(h0, .inr (1, [.null, .null, .long 0, .long 0, .long 0, .int 0]))] H := hP
  have hD : va_D A [(h0, .inr (1, [.null, .null, .long 0, .long 0, .long 0, .int 0]))] := hD
  refine lv_aload_n hx hb dX1_init_14 rfl (lv_at hl 0 rfl) ?_
  refine lv_lconst (v := 0) hx hb dX1_init_15 (by decide) ?_
  refine va_put (D := D) (ci := 1) (v := .long 0) (ty := .long) (C := RX1) (T := TX1) (N := 6) hx hb hts u_X1 tyX1 tyX1_ok nmX1 hown hk.1 hP hD hS 0 rfl rfl 4 (by decide) (hts _ q1_213) (fun _ h9 => h9) rfl (tyX1_ok 4 (by decide)) rfl rfl (Nat.le_of_ble_eq_true rfl) dX1_init_16 (fun H locs hP hD hS => ?_)
  have hP : va_P D vwCl [(h0, .inr (1, [.null, .null, .long 0, .long 0, .long 0, .int 0]))] H := hP
  have hD : va_D A [(h0, .inr (1, [.null, .null, .long 0, .long 0, .long 0, .int 0]))] := hD
  refine lv_aload_n hx hb dX1_init_19 rfl (lv_at hl 0 rfl) ?_
  refine lv_iconst (v := 0) hx hb dX1_init_20 (by decide) ?_
  refine va_put (D := D) (ci := 1) (v := .int 0) (ty := .int) (C := RX1) (T := TX1) (N := 6) hx hb hts u_X1 tyX1 tyX1_ok nmX1 hown hk.1 hP hD hS 0 rfl rfl 5 (by decide) (hts _ q1_214) (fun _ h9 => h9) rfl (tyX1_ok 5 (by decide)) rfl rfl (Nat.le_of_ble_eq_true rfl) dX1_init_21 (fun H locs hP hD hS => ?_)
  have hP : va_P D vwCl [(h0, .inr (1, [.null, .null, .long 0, .long 0, .long 0, .int 0]))] H := hP
  have hD : va_D A [(h0, .inr (1, [.null, .null, .long 0, .long 0, .long 0, .int 0]))] := hD
  refine lv_aload_n hx hb dX1_init_24 rfl (lv_at hl 0 rfl) ?_
  refine lv_aload_n hx hb dX1_init_25 rfl (lv_at hl 1 rfl) ?_
  refine va_putF (D := D) (ci := 1) (v := .ref ra) (ty := .object "NumberedLoops$Shape") (C := RX1) (T := TX1) (N := 6) hx hb hts u_X1 tyX1 tyX1_ok nmX1 hown hk.1 hP hD hS 0 rfl rfl 0 (by decide) (hts _ q1_209) (fun _ h9 => h9) rfl hin rfl (tyX1_ok 0 (by decide)) rfl rfl (Nat.le_of_ble_eq_true rfl) dX1_init_26 (fun H locs hP hD hS => ?_)
  have hP : va_P D vwCl [(h0, .inr (1, [.ref ra, .null, .long 0, .long 0, .long 0, .int 0]))] H := hP
  have hD : va_D A [(h0, .inr (1, [.ref ra, .null, .long 0, .long 0, .long 0, .int 0]))] := hD
  refine lv_aload_n hx hb dX1_init_29 rfl (lv_at hl 0 rfl) ?_
  refine lv_iload_n hx hb dX1_init_30 rfl (lv_at hl 2 rfl) ?_
  refine lv_iconst (v := 0) hx hb dX1_init_31 (by decide) ?_
  refine va_mmax hx hb (hml.trans hl.1.symm) hown (hts _ q1_208) (hts _ q1_145) (hts _ q1_7) (hts _ q1_146) (Nat.le_of_ble_eq_true rfl) (Nat.le_of_ble_eq_true rfl) (Nat.le_of_ble_eq_true rfl) (Nat.le_of_ble_eq_true rfl) dX1_init_32 ?_
  refine va_newa (atype := .long) (ty := .long) (N' := 10000) (a0 := (10000, .inr (.inl (fun _ => 0)))) hx hb (hts _ q1_107) rfl hk.1 hP hD hS hA (fun _ => rfl) (by decide) (by decide) (Nat.le_of_ble_eq_true rfl) (Nat.le_of_ble_eq_true rfl) (Nat.le_of_ble_eq_true rfl) dX1_init_35 (fun q35 cA H hK2 hP hD hS => ?_)
  have hcA := nk_eq 1 hK2 _ rfl (fun _ h => by cases h) (by decide)
  rw [hcA] at hP hD
  have hP : va_P D vwCl [(h0, .inr (1, [.ref ra, .null, .long 0, .long 0, .long 0, .int 0])), (q35, .inl (cL, 10000, .inr (.inl (fun _ => 0))))] H := hP
  have hD : va_D A [(h0, .inr (1, [.ref ra, .null, .long 0, .long 0, .long 0, .int 0])), (q35, .inl (cL, 10000, .inr (.inl (fun _ => 0))))] := hD
  refine W.widen (k := 1) (n := 10000) (Nat.le_of_ble_eq_true rfl) (Nat.le_of_ble_eq_true rfl) ?_
  refine va_putF (D := D) (ci := 1) (v := .ref q35) (ty := .array .long) (C := RX1) (T := TX1) (N := 6) hx hb hts u_X1 tyX1 tyX1_ok nmX1 hown hk.1 hP hD hS 0 rfl rfl 1 (by decide) (hts _ q1_210) (fun _ h9 => h9) rfl hin rfl (tyX1_ok 1 (by decide)) rfl rfl (Nat.le_of_ble_eq_true rfl) dX1_init_37 (fun H locs hP hD hS => ?_)
  have hP : va_P D vwCl [(h0, .inr (1, [.ref ra, .ref q35, .long 0, .long 0, .long 0, .int 0])), (q35, .inl (cL, 10000, .inr (.inl (fun _ => 0))))] H := hP
  have hD : va_D A [(h0, .inr (1, [.ref ra, .ref q35, .long 0, .long 0, .long 0, .int 0])), (q35, .inl (cL, 10000, .inr (.inl (fun _ => 0))))] := hD
  exact W.vret hx hb hrt (fun t ht _ => ⟨⟨adl [q35], rfl, trivial, by subst ht; exact hP, hD⟩, hS.F ht⟩) hS.2.2 dX1_init_40 (hlocks := hlocks)
set_option maxHeartbeats 4000000 in
set_option maxRecDepth 100000 in
theorem k_X1_init_b (l : Launch) (D : va_G) (cI cL cZ : ClassId) (h0 sz : Nat) (ra : Nat) : Met l yX1_init (Cond.code yX1_init cX1_init 3 none :: W0) { frames := 1, cells := 1, slots := 2, locals := 14 } (va_Pc [.ref h0, .ref ra, .int 2] (pC D cI cL cZ sz [(h0, .inr (1, [.null, .null, .long 0, .long 0, .long 0, .int 0]))])) (qC D (va_A [(h0, .inr (1, [.null, .null, .long 0, .long 0, .long 0, .int 0]))] sz) (fun u => [(h0, .inr (1, [.ref ra, .ref (u 0), .long 0, .long 0, .long 0, .int 0])), ((u 0), .inl (cL, 2, .inr (.inl (fun _ => 0))))])) 1 2 (va_A [(h0, .inr (1, [.null, .null, .long 0, .long 0, .long 0, .int 0]))] sz) := by
  refine mk_ctor (cc := cX1_init) (maxL := 3) (by decide) (Nat.le_of_ble_eq_true rfl) ?_
  intro p e s m below meth c ls A hAe hA hin C hP hD hS hl
  obtain ⟨hx, hb, hml, hrt, hlocks, hown, hts, hk⟩ := C
  have hown : s.vm.findClass RX1 = some m.cls := hown
  have hl : lv_has ls 3 [(0, .ref h0), (1, .ref ra), (2, .int 2)] := hl
  clear hAe
  refine lv_aload_n hx hb dX1_init_0 rfl (lv_at hl 0 rfl) ?_
  refine W.objInit hx hb hown (hts _ q1_207) (hts _ q1_21) (hts _ q1_22) rfl (by rw [hml]; exact hl.1) rfl dX1_init_1 (Nat.le_of_ble_eq_true rfl) (Nat.le_of_ble_eq_true rfl) ?_
  refine W.eq (g2 := F0 m 4 ls []) rfl ?_
  refine lv_aload_n hx hb dX1_init_4 rfl (lv_at hl 0 rfl) ?_
  refine lv_lconst (v := 0) hx hb dX1_init_5 (by decide) ?_
  refine va_put (D := D) (ci := 1) (v := .long 0) (ty := .long) (C := RX1) (T := TX1) (N := 6) hx hb hts u_X1 tyX1 tyX1_ok nmX1 hown hk.1 hP hD hS 0 rfl rfl 2 (by decide) (hts _ q1_211) (fun _ h9 => h9) rfl (tyX1_ok 2 (by decide)) rfl rfl (Nat.le_of_ble_eq_true rfl) dX1_init_6 (fun H locs hP hD hS => ?_)
  have hP : va_P D vwCl [(h0, .inr (1, [.null, .null, .long 0, .long 0, .long 0, .int 0]))] H := hP
  have hD : va_D A [(h0, .inr (1, [.null, .null, .long 0, .long 0, .long 0, .int 0]))] := hD
  refine lv_aload_n hx hb dX1_init_9 rfl (lv_at hl 0 rfl) ?_
  refine lv_lconst (v := 0) hx hb dX1_init_10 (by decide) ?_
  refine va_put (D := D) (ci := 1) (v := .long 0) (ty := .long) (C := RX1) (T := TX1) (N := 6) hx hb hts u_X1 tyX1 tyX1_ok nmX1 hown hk.1 hP hD hS 0 rfl rfl 3 (by decide) (hts _ q1_212) (fun _ h9 => h9) rfl (tyX1_ok 3 (by decide)) rfl rfl (Nat.le_of_ble_eq_true rfl) dX1_init_11 (fun H locs hP hD hS => ?_)
  have hP : va_P D vwCl [(h0, .inr (1, [.null, .null, .long 0, .long 0, .long 0, .int 0]))] H := hP
  have hD : va_D A [(h0, .inr (1, [.null, .null, .long 0, .long 0, .long 0, .int 0]))] := hD
  refine lv_aload_n hx hb dX1_init_14 rfl (lv_at hl 0 rfl) ?_
  refine lv_lconst (v := 0) hx hb dX1_init_15 (by decide) ?_
  refine va_put (D := D) (ci := 1) (v := .long 0) (ty := .long) (C := RX1) (T := TX1) (N := 6) hx hb hts u_X1 tyX1 tyX1_ok nmX1 hown hk.1 hP hD hS 0 rfl rfl 4 (by decide) (hts _ q1_213) (fun _ h9 => h9) rfl (tyX1_ok 4 (by decide)) rfl rfl (Nat.le_of_ble_eq_true rfl) dX1_init_16 (fun H locs hP hD hS => ?_)
  have hP : va_P D vwCl [(h0, .inr (1, [.null, .null, .long 0, .long 0, .long 0, .int 0]))] H := hP
  have hD : va_D A [(h0, .inr (1, [.null, .null, .long 0, .long 0, .long 0, .int 0]))] := hD
  refine lv_aload_n hx hb dX1_init_19 rfl (lv_at hl 0 rfl) ?_
  refine lv_iconst (v := 0) hx hb dX1_init_20 (by decide) ?_
  refine va_put (D := D) (ci := 1) (v := .int 0) (ty := .int) (C := RX1) (T := TX1) (N := 6) hx hb hts u_X1 tyX1 tyX1_ok nmX1 hown hk.1 hP hD hS 0 rfl rfl 5 (by decide) (hts _ q1_214) (fun _ h9 => h9) rfl (tyX1_ok 5 (by decide)) rfl rfl (Nat.le_of_ble_eq_true rfl) dX1_init_21 (fun H locs hP hD hS => ?_)
  have hP : va_P D vwCl [(h0, .inr (1, [.null, .null, .long 0, .long 0, .long 0, .int 0]))] H := hP
  have hD : va_D A [(h0, .inr (1, [.null, .null, .long 0, .long 0, .long 0, .int 0]))] := hD
  refine lv_aload_n hx hb dX1_init_24 rfl (lv_at hl 0 rfl) ?_
  refine lv_aload_n hx hb dX1_init_25 rfl (lv_at hl 1 rfl) ?_
  refine va_putF (D := D) (ci := 1) (v := .ref ra) (ty := .object "NumberedLoops$Shape") (C := RX1) (T := TX1) (N := 6) hx hb hts u_X1 tyX1 tyX1_ok nmX1 hown hk.1 hP hD hS 0 rfl rfl 0 (by decide) (hts _ q1_209) (fun _ h9 => h9) rfl hin rfl (tyX1_ok 0 (by decide)) rfl rfl (Nat.le_of_ble_eq_true rfl) dX1_init_26 (fun H locs hP hD hS => ?_)
  have hP : va_P D vwCl [(h0, .inr (1, [.ref ra, .null, .long 0, .long 0, .long 0, .int 0]))] H := hP
  have hD : va_D A [(h0, .inr (1, [.ref ra, .null, .long 0, .long 0, .long 0, .int 0]))] := hD
  refine lv_aload_n hx hb dX1_init_29 rfl (lv_at hl 0 rfl) ?_
  refine lv_iload_n hx hb dX1_init_30 rfl (lv_at hl 2 rfl) ?_
  refine lv_iconst (v := 0) hx hb dX1_init_31 (by decide) ?_
  refine va_mmax hx hb (hml.trans hl.1.symm) hown (hts _ q1_208) (hts _ q1_145) (hts _ q1_7) (hts _ q1_146) (Nat.le_of_ble_eq_true rfl) (Nat.le_of_ble_eq_true rfl) (Nat.le_of_ble_eq_true rfl) (Nat.le_of_ble_eq_true rfl) dX1_init_32 ?_
  refine va_newa (atype := .long) (ty := .long) (N' := 2) (a0 := (2, .inr (.inl (fun _ => 0)))) hx hb (hts _ q1_107) rfl hk.1 hP hD hS hA (fun _ => rfl) (by decide) (by decide) (Nat.le_of_ble_eq_true rfl) (Nat.le_of_ble_eq_true rfl) (Nat.le_of_ble_eq_true rfl) dX1_init_35 (fun q35 cA H hK2 hP hD hS => ?_)
  have hcA := nk_eq 1 hK2 _ rfl (fun _ h => by cases h) (by decide)
  rw [hcA] at hP hD
  have hP : va_P D vwCl [(h0, .inr (1, [.ref ra, .null, .long 0, .long 0, .long 0, .int 0])), (q35, .inl (cL, 2, .inr (.inl (fun _ => 0))))] H := hP
  have hD : va_D A [(h0, .inr (1, [.ref ra, .null, .long 0, .long 0, .long 0, .int 0])), (q35, .inl (cL, 2, .inr (.inl (fun _ => 0))))] := hD
  refine W.widen (k := 1) (n := 2) (Nat.le_of_ble_eq_true rfl) (Nat.le_of_ble_eq_true rfl) ?_
  refine va_putF (D := D) (ci := 1) (v := .ref q35) (ty := .array .long) (C := RX1) (T := TX1) (N := 6) hx hb hts u_X1 tyX1 tyX1_ok nmX1 hown hk.1 hP hD hS 0 rfl rfl 1 (by decide) (hts _ q1_210) (fun _ h9 => h9) rfl hin rfl (tyX1_ok 1 (by decide)) rfl rfl (Nat.le_of_ble_eq_true rfl) dX1_init_37 (fun H locs hP hD hS => ?_)
  have hP : va_P D vwCl [(h0, .inr (1, [.ref ra, .ref q35, .long 0, .long 0, .long 0, .int 0])), (q35, .inl (cL, 2, .inr (.inl (fun _ => 0))))] H := hP
  have hD : va_D A [(h0, .inr (1, [.ref ra, .ref q35, .long 0, .long 0, .long 0, .int 0])), (q35, .inl (cL, 2, .inr (.inl (fun _ => 0))))] := hD
  exact W.vret hx hb hrt (fun t ht _ => ⟨⟨adl [q35], rfl, trivial, by subst ht; exact hP, hD⟩, hS.F ht⟩) hS.2.2 dX1_init_40 (hlocks := hlocks)
