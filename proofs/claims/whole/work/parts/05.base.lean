/-! own words: the world's tables, contracts of one shape, calls -/
def nwL : List Cond := [.methodLinkNest RX7 9 yX6_init "NumberedLoops", .methodLinkNest RX7 18 yX4_init "NumberedLoops", .methodLinkNest RX7 25 yX0_init "NumberedLoops", .methodLinkNest RX7 32 yX2_init "NumberedLoops", .methodLinkNest RX4 108 yX7_put "NumberedLoops", .methodLinkNest RX4 98 yX7_bit "NumberedLoops", .methodLinkNest RX4 101 yX7_put_ "NumberedLoops", .methodLinkNest RX4 132 yX7_at "NumberedLoops", .methodLinkNest RX6 29 yX7_at "NumberedLoops", .methodLinkNest RX0 21 yX7_bit "NumberedLoops", .methodLinkNest RX5 40 yX7_put_ "NumberedLoops", .methodLinkNest RX5 48 yX7_put "NumberedLoops", .methodLinkNest RX3 105 yX7_bit "NumberedLoops", .methodLinkNest RX5 51 yX7_at_ "NumberedLoops", .methodLinkNest RX1 72 yX7_bit "NumberedLoops", .methodLinkNest RX1 51 yX7_at_ "NumberedLoops", .methodLinkNest RX5 29 yX7_at "NumberedLoops"]
def nw (U : State) : Prop := ∀ w ∈ nwL, va_Nw w U
theorem nw_tab : ∀ w ∈ nwL, w.onTables = true := by decide +kernel
theorem nw.warm {s U : State} (hW : s.WarmedH U.vm) (h : nw s) : nw U := by
  intro w hw
  have h1 := h w hw
  simp only [nwL, List.mem_cons, List.not_mem_nil, or_false] at hw
  rcases hw with rfl | rfl | rfl | rfl | rfl | rfl | rfl | rfl | rfl | rfl | rfl | rfl | rfl | rfl | rfl | rfl | rfl <;> exact va_Nw.warmM hW h1
def kk (D : va_G) (cI cL cZ : ClassId) (U : State) : Prop := va_K D vwCl [(cI, .int), (cL, .long), (cZ, .boolean)] U ∧ nw U
theorem kk.warm {D : va_G} {cI cL cZ : ClassId} {s U : State} (hW : s.WarmedH U.vm) (h : kk D cI cL cZ s) : kk D cI cL cZ U := ⟨va_K.moved hW.alike h.1, h.2.warm hW⟩
theorem kk.calling {D : va_G} {cI cL cZ : ClassId} {U : State} {g : JFrame} {mk : MethodId} {a : Array Value} (h : kk D cI cL cZ U) : kk D cI cL cZ (U.calling g mk a) := ⟨va_K.moved (u := U) (U := U.calling g mk a) (Vm.Alike.refl U.vm) h.1, fun w hw => va_Nw.same (nw_tab w hw) (u := U) (U := U.calling g mk a) rfl (h.2 w hw)⟩
def pW (D : va_G) (cI cL cZ : ClassId) (ws : va_W) (U : State) : Prop := va_P D vwCl ws U.heap ∧ kk D cI cL cZ U
theorem pW.blind {D : va_G} {cI cL cZ : ClassId} {ws : va_W} {av : List Value} : FrameBlind (va_Pc av (pW D cI cL cZ ws)) := fun _ _ _ _ q => ⟨q.1, q.2.1, q.2.2.calling⟩
theorem pW.pre {D : va_G} {cI cL cZ : ClassId} {ws : va_W} {s : State} {H : Heap} (hP : va_P D vwCl ws H) (hk : kk D cI cL cZ s) {av : List Value} : ∀ U : State, U.heap = H → s.WarmedH U.vm → va_Pc av (pW D cI cL cZ ws) av.toArray U := fun U hU hW => ⟨rfl, by rw [hU]; exact hP, hk.warm hW⟩
def bz (r : Int32) : Prop := narrow .boolean (.int r) = .int r
abbrev qI (D : va_G) (A : Nat → Prop) (v : Int32) (w : va_W) : Array Value → State → Outcome → State → Prop := va_Qi (fun (r : Int32) (_ : Unit) => r = v) (fun _ t => va_P D vwCl w t.heap) A
abbrev qZ (D : va_G) (A : Nat → Prop) (v : Int32) (w : va_W) : Array Value → State → Outcome → State → Prop := va_Qi (fun (r : Int32) (_ : Unit) => r = v ∧ bz r) (fun _ t => va_P D vwCl w t.heap) A
abbrev qL (D : va_G) (A : Nat → Prop) (v : Int64) (w : va_W) : Array Value → State → Outcome → State → Prop := va_Ql (fun (r : Int64) (_ : Unit) => r = v) (fun _ t => va_P D vwCl w t.heap) A
abbrev qV (D : va_G) (A : Nat → Prop) (w : va_W) : Array Value → State → Outcome → State → Prop := va_Qv (fun (_ : Unit) => True) (fun _ t => va_P D vwCl w t.heap) A
abbrev rmS (fr lo : Nat) : Room := { frames := fr, cells := 0, slots := 0, locals := lo }
abbrev MI (l : Launch) (y : MethodName) (wy : List Cond) (fr lo : Nat) (D : va_G) (cI cL cZ : ClassId) (A : Nat → Prop) (av : List Value) (w0 : va_W) (v : Int32) (w1 : va_W) : Prop := Met l y wy (rmS fr lo) (va_Pc av (pW D cI cL cZ w0)) (qI D A v w1) 0 0 A
abbrev MZ (l : Launch) (y : MethodName) (wy : List Cond) (fr lo : Nat) (D : va_G) (cI cL cZ : ClassId) (A : Nat → Prop) (av : List Value) (w0 : va_W) (v : Int32) (w1 : va_W) : Prop := Met l y wy (rmS fr lo) (va_Pc av (pW D cI cL cZ w0)) (qZ D A v w1) 0 0 A
abbrev ML (l : Launch) (y : MethodName) (wy : List Cond) (fr lo : Nat) (D : va_G) (cI cL cZ : ClassId) (A : Nat → Prop) (av : List Value) (w0 : va_W) (v : Int64) (w1 : va_W) : Prop := Met l y wy (rmS fr lo) (va_Pc av (pW D cI cL cZ w0)) (qL D A v w1) 0 0 A
abbrev MV (l : Launch) (y : MethodName) (wy : List Cond) (fr lo : Nat) (D : va_G) (cI cL cZ : ClassId) (A : Nat → Prop) (av : List Value) (w0 w1 : va_W) : Prop := Met l y wy (rmS fr lo) (va_Pc av (pW D cI cL cZ w0)) (qV D A w1) 0 0 A
/-- what a walk stands on -/
def Cx (p : Program) (s : State) (m : MethodId) (args : Array Value) (meth : Method) (c : Code) (cc : ByteArray) (nL : Nat) (ret : Option FieldType) (Ts : List Cond) (own : String) (D : va_G) (cI cL cZ : ClassId) : Prop :=
  p.tables.exec = Jvm.exec ∧ c.code = cc ∧ c.maxLocals = nL ∧ meth.sig.returnType = ret ∧ meth.locks = false ∧ s.vm.findClass own = some m.cls ∧ (∀ w ∈ Ts, w.before args s = true) ∧ kk D cI cL cZ s
theorem mk_start {l : Launch} {y : MethodName} {ws' : List Cond} {rm : Room} {D : va_G} {cI cL cZ : ClassId} {w0 : va_W} {av : List Value} {Qc : Array Value → State → Outcome → State → Prop} {A : Addr → Prop} {cc : ByteArray} {maxL : Nat} {ret : Option FieldType}
    (hy : plainName y.cls = true) (hw : Cond.code y cc maxL ret :: ws' = Cond.code y cc maxL ret :: ws') (hn : (lg_sl av).length ≤ maxL)
    (body : ∀ (p : Program) (e : Env) (s : State) (m : MethodId) (below : List Frame) (meth : Method) (c : Code) (ls : Array Slot), Cx p s m av.toArray meth c cc maxL ret ws' y.cls D cI cL cZ → va_P D vwCl w0 s.heap → va_S A s.heap s.heap [] → lv_has ls maxL (lv_args 0 av) → W p l e rm s m av.toArray below meth c s.heap [] 0 0 (MQ below Qc av.toArray s 0 0 A) (F0 m 0 ls [])) :
    Met l y (Cond.code y cc maxL ret :: ws') rm (va_Pc av (pW D cI cL cZ w0)) Qc 0 0 A := by
  refine Met.ofW (cc := cc) (maxL := maxL) (ret := ret) hy hw ?_
  intro p e s m args below meth c s₁ B hml hv
  obtain ⟨rfl, hP, hk⟩ := hv
  rw [lg_entry_eq]
  exact body p e s m below meth c _ ⟨B.exec, B.bytes, hml, B.returns, B.notSynchronized, findClass_of_methodNamed B.named, fun w hw1 => atoms_spec (ws := Cond.code y cc maxL ret :: ws') B.pre w (List.mem_cons_of_mem _ hw1), hk⟩ hP va_S.rf (lv_entry av (n := maxL) hn)
theorem va_P.same {D : va_G} {cl : List vw_C} {ws : va_W} {H H1 : Heap} (h : va_P D cl ws H) (hk : ∀ q : Nat, q < H.size → H1[q]? = H[q]?) : va_P D cl ws H1 := fun k q hq => (h k q hq).kept (hk q.1 (h k q hq).lt)
section OW
variable {p : Program} {l : Launch} {e : Env} {R : Room} {s : State} {m : MethodId} {args : Array Value} {below : List Frame} {meth : Method} {c : Code} {H H0 : Heap} {locs : List Loc} {cells slots : Nat} {Q : State → Prop}
variable {D : va_G} {cI cL cZ : ClassId} {w0 w1 : va_W} {A A0 A1 : Nat → Prop} {pc : Nat} {ls : Array Slot} {st0 rest As : List Value} {cc bytes : ByteArray} {nL maxL n index : Nat} {ret : Option FieldType} {wy Ts : List Cond} {rm : Room} {y : MethodName} {own C host : String} {b : Addr} {a0 : Array Value}
theorem ret_i {v : Int32} (hx : p.tables.exec = Jvm.exec) (hb : c.code = cc) (hr : meth.sig.returnType = some .int) (hlocks : meth.locks = false) (hP : va_P D vwCl w1 H) (hS : va_S A s.heap H locs) (hdg : decode cc pc = .ok (.ireturn, 1)) : W p l e R s m args below meth c H locs cells slots (MQ below (qI D A v w1) args s cells slots A) (F0 m pc ls [.int v]) :=
  W.iret hx hb hr (fun t ht _ => ⟨⟨v, (), rfl, rfl, by subst ht; exact hP⟩, hS.F ht⟩) hS.2.2 hdg (hlocks := hlocks)
theorem ret_z {v : Int32} (hx : p.tables.exec = Jvm.exec) (hb : c.code = cc) (hr : meth.sig.returnType = some .boolean) (hlocks : meth.locks = false) (hz : bz v) (hP : va_P D vwCl w1 H) (hS : va_S A s.heap H locs) (hdg : decode cc pc = .ok (.ireturn, 1)) : W p l e R s m args below meth c H locs cells slots (MQ below (qZ D A v w1) args s cells slots A) (F0 m pc ls [.int v]) :=
  W.zret hx hb hr hz (fun t ht _ => ⟨⟨v, (), rfl, ⟨rfl, hz⟩, by subst ht; exact hP⟩, hS.F ht⟩) hS.2.2 hdg (hlocks := hlocks)
theorem ret_l {v : Int64} (hx : p.tables.exec = Jvm.exec) (hb : c.code = cc) (hr : meth.sig.returnType = some .long) (hlocks : meth.locks = false) (hP : va_P D vwCl w1 H) (hS : va_S A s.heap H locs) (hdg : decode cc pc = .ok (.lreturn, 1)) : W p l e R s m args below meth c H locs cells slots (MQ below (qL D A v w1) args s cells slots A) (F0 m pc ls [.long v]) :=
  W.lret hx hb hr (fun t ht _ => ⟨⟨v, (), rfl, rfl, by subst ht; exact hP⟩, hS.F ht⟩) hS.2.2 hdg (hlocks := hlocks)
theorem ret_v (hx : p.tables.exec = Jvm.exec) (hb : c.code = cc) (hr : meth.sig.returnType = none) (hlocks : meth.locks = false) (hP : va_P D vwCl w1 H) (hS : va_S A s.heap H locs) (hdg : decode cc pc = .ok (.return_, 1)) : W p l e R s m args below meth c H locs cells slots (MQ below (qV D A w1) args s cells slots A) (F0 m pc ls []) :=
  W.vret hx hb hr (fun t ht _ => ⟨⟨(), rfl, trivial, by subst ht; exact hP⟩, hS.F ht⟩) hS.2.2 hdg (hlocks := hlocks)
theorem go_i {v : Int32} (hr : va_Run p l e R s m args below meth c H locs cells slots 0 0 (F0 m pc ls st0) rest (qI D A1 v w1 a0) A1) (hS : va_S A0 H0 H locs) (hA : ∀ q, A1 q → A0 q)
    (k : ∀ (H1 : Heap) (locs1 : List Loc), va_P D vwCl w1 H1 → va_S A0 H0 H1 locs1 → W p l e R s m args below meth c H1 locs1 cells slots Q (F0 m (pc + 3) ls (.int v :: rest))) : W p l e R s m args below meth c H locs cells slots Q (F0 m pc ls st0) :=
  va_calli hr hS (fun q _ h => hA q h) hA (fun r u t H1 locs1 ht _ hw hB _ _ hS1 => by
    subst hw
    rw [ht] at hB
    exact k H1 locs1 hB hS1)
theorem go_z {v : Int32} (hr : va_Run p l e R s m args below meth c H locs cells slots 0 0 (F0 m pc ls st0) rest (qZ D A1 v w1 a0) A1) (hS : va_S A0 H0 H locs) (hA : ∀ q, A1 q → A0 q)
    (k : ∀ (H1 : Heap) (locs1 : List Loc), bz v → va_P D vwCl w1 H1 → va_S A0 H0 H1 locs1 → W p l e R s m args below meth c H1 locs1 cells slots Q (F0 m (pc + 3) ls (.int v :: rest))) : W p l e R s m args below meth c H locs cells slots Q (F0 m pc ls st0) :=
  va_calli hr hS (fun q _ h => hA q h) hA (fun r u t H1 locs1 ht _ hw hB _ _ hS1 => by
    obtain ⟨hw, hz⟩ := hw
    subst hw
    rw [ht] at hB
    exact k H1 locs1 hz hB hS1)
theorem go_l {v : Int64} (hr : va_Run p l e R s m args below meth c H locs cells slots 0 0 (F0 m pc ls st0) rest (qL D A1 v w1 a0) A1) (hS : va_S A0 H0 H locs) (hA : ∀ q, A1 q → A0 q)
    (k : ∀ (H1 : Heap) (locs1 : List Loc), va_P D vwCl w1 H1 → va_S A0 H0 H1 locs1 → W p l e R s m args below meth c H1 locs1 cells slots Q (F0 m (pc + 3) ls (.long v :: rest))) : W p l e R s m args below meth c H locs cells slots Q (F0 m pc ls st0) :=
  va_calll hr hS (fun q _ h => hA q h) hA (fun r u t H1 locs1 ht _ hw hB _ _ hS1 => by
    subst hw
    rw [ht] at hB
    exact k H1 locs1 hB hS1)
theorem go_v (hr : va_Run p l e R s m args below meth c H locs cells slots 0 0 (F0 m pc ls st0) rest (qV D A1 w1 a0) A1) (hS : va_S A0 H0 H locs) (hA : ∀ q, A1 q → A0 q)
    (k : ∀ (H1 : Heap) (locs1 : List Loc), va_P D vwCl w1 H1 → va_S A0 H0 H1 locs1 → W p l e R s m args below meth c H1 locs1 cells slots Q (F0 m (pc + 3) ls rest)) : W p l e R s m args below meth c H locs cells slots Q (F0 m pc ls st0) :=
  va_callv hr hS (fun q _ h => hA q h) hA (fun u t H1 locs1 ht _ _ hB _ _ hS1 => by
    rw [ht] at hB
    exact k H1 locs1 hB hS1)
variable {Qc : Array Value → State → Outcome → State → Prop}
/-- an instance method's run -/
theorem ru_V (S : CallFix p m c cc nL s args Ts own) (hk : kk D cI cL cZ s) (hP : va_P D vwCl w0 H) (hM : Met l y wy rm (va_Pc (.ref b :: As) (pW D cI cL cZ w0)) Qc 0 0 A1) (cw : CallW R s args own C index y bytes maxL ret wy rm 0 0 n) (hr : ∃ cellB : Cell, H[b]? = some cellB ∧ cellB.vm.isStatics = false ∧ s.vm.findClass C = some cellB.cls) (hn : As.length = n) (hsize : ls.size = nL) (hst : st0 = As.reverse ++ .ref b :: rest) (hroom : (rest.map fun v => v.category).sum ≤ 8) (hdg : decode cc pc = .ok (.invokevirtual index, 3)) (hf : cells ≤ R.cells ∧ slots ≤ R.slots) :
    va_Run p l e R s m args below meth c H locs cells slots 0 0 (F0 m pc ls st0) rest (Qc (Value.ref b :: As).toArray) A1 :=
  va_runV (As := As) (rest := rest) S hM cw ⟨pW.blind, hr, pW.pre hP hk⟩ rfl hn hsize hst (lv_room hroom) hdg hf
theorem ru_S (S : CallFix p m c cc nL s args Ts own) (hk : kk D cI cL cZ s) (hP : va_P D vwCl w0 H) (hM : Met l y wy rm (va_Pc As (pW D cI cL cZ w0)) Qc 0 0 A1) (cw : CallB R s args own index y bytes maxL ret wy rm 0 0 n ∧ (Cond.static y).before args s = true) (hn : As.length = n) (hsize : ls.size = nL) (hst : st0 = As.reverse ++ rest) (hroom : (rest.map fun v => v.category).sum ≤ 8) (hdg : decode cc pc = .ok (.invokestatic index, 3)) (hf : cells ≤ R.cells ∧ slots ≤ R.slots) :
    va_Run p l e R s m args below meth c H locs cells slots 0 0 (F0 m pc ls st0) rest (Qc As.toArray) A1 :=
  va_runS (As := As) (rest := rest) S hM cw ⟨pW.blind, pW.pre hP hk⟩ rfl hn hsize hst (lv_room hroom) hdg hf
theorem ru_N (S : CallFix p m c cc nL s args Ts own) (hk : kk D cI cL cZ s) (hP : va_P D vwCl w0 H) (hM : Met l y wy rm (va_Pc As (pW D cI cL cZ w0)) Qc 0 0 A1) (cw : va_CN R s args own index y host bytes maxL ret wy rm 0 0 n ∧ (Cond.static y).before args s = true ∧ True) (hn : As.length = n) (hsize : ls.size = nL) (hst : st0 = As.reverse ++ rest) (hroom : (rest.map fun v => v.category).sum ≤ 8) (hdg : decode cc pc = .ok (.invokestatic index, 3)) (hf : cells ≤ R.cells ∧ slots ≤ R.slots) :
    va_Run p l e R s m args below meth c H locs cells slots 0 0 (F0 m pc ls st0) rest (Qc As.toArray) A1 :=
  va_runSN (As := As) (rest := rest) S hM cw ⟨pW.blind, pW.pre hP hk⟩ rfl hn hsize hst (lv_room hroom) hdg hf
end OW
