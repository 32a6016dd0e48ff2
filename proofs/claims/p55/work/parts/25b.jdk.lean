/-! STRINGBUILDER: the JDK's methods, walked over a world of few cells. n0: all that a chain makes lies from there on -/
def bA (n0 : Nat) : Nat → Prop := fun q => n0 ≤ q
def bDg (d1 : Nat) (tab : Nat → Int32) (n0 : Nat) (U : State) : Prop := va_Z RJ6 "DigitOnes" "[B" (.ref d1) (bA n0) U U.heap ∧ va_T .byte d1 100 (fun j => .int (tab j)) (bA n0) U U.heap ∧ ∀ r, r < 10 → tab r = nI (48 + r)
def bPr : List MethodName := [yJ5_ensureCapacityInternal_d00df, yJ5_newCapacity_0f7a4, yJ5_putStringAt_47b60, yJ5_inflateIfNeededFor_a7421]
theorem bPr_0 : yJ5_ensureCapacityInternal_d00df ∈ bPr := List.mem_cons_self
theorem bPr_1 : yJ5_newCapacity_0f7a4 ∈ bPr := List.mem_cons_of_mem _ List.mem_cons_self
theorem bPr_2 : yJ5_putStringAt_47b60 ∈ bPr := List.mem_cons_of_mem _ (List.mem_cons_of_mem _ List.mem_cons_self)
theorem bPr_3 : yJ5_inflateIfNeededFor_a7421 ∈ bPr := List.mem_cons_of_mem _ (List.mem_cons_of_mem _ (List.mem_cons_of_mem _ List.mem_cons_self))
def bB (G : gT) (q b : Nat) (ml n : Int32) (c : Nat) (f : Nat → Int32) : va_W := [(q, .inr (1, [.ref b, .int 0, .int ml, .int n])), (b, .inl (G.2.1 5, c, .inl f))]
def bW (U : State) : Prop := (∀ y ∈ bPr, va_Nw (.privateMethod y) U) ∧ va_Nw (.castable "[B" "java/lang/Cloneable") U
theorem bW.warm {s U : State} (h : bW s) (hW : s.WarmedH U.vm) : bW U := ⟨fun y hy => Cond.privateMethod_warm hW (h.1 y hy), va_Nw.warmC hW h.2⟩
def bC (G : gT) (n0 : Nat) (U : State) : Prop := n0 ≤ U.heap.size ∧ va_K (gtD G) vwCl (gtys G) U ∧ gCST G (bA n0) U ∧ bW U ∧ ∃ d1 tab, bDg d1 tab n0 U
def bM (G : gT) (n0 : Nat) (ws : va_W) (s : State) (H : Heap) (locs : List Loc) : Prop := va_P (gtD G) vwCl ws H ∧ va_D (bA n0) ws ∧ va_S (bA n0) s.heap H locs
theorem bA_in {n0 : Nat} {s : State} {G : gT} (h : bC G n0 s) : ∀ q, s.heap.size ≤ q → bA n0 q := fun q hq => Nat.le_trans h.1 hq
theorem bC.call {G : gT} {n0 : Nat} {s U : State} {H : Heap} {locs : List Loc} (h : bC G n0 s) (hS : va_S (bA n0) s.heap H locs) (hU : U.heap = H) (hW : s.WarmedH U.vm) : bC G n0 U := by
  obtain ⟨h0, hK, ⟨h1, h2, h3, ⟨h4, h6, h7, h8⟩, h5⟩, hPr, d1, tab, hZ, hT, hd⟩ := h
  refine ⟨by rw [hU]; exact Nat.le_trans h0 hS.1, hK.moved hW.alike, ⟨fun w hw => word_at hW (good_of_word (List.mem_filter.mp hw).2) (h1 w hw), fun w hw => g_warmN (List.all_eq_true.mp gNs_ok w hw) hW (h2 w hw), fun i hi => (h3 i hi).warm hW, ⟨fun q hq => (h4 q hq).moved hW.alike, ?_, fun x hx => ?_, fun k h16 h34 => ?_⟩, ?_⟩, hPr.warm hW, d1, tab, ?_, ?_, hd⟩
  · rw [hU]; exact (va_T.moved hW.alike h6).kept hS.2.1
  · rw [hU]; exact (vk_S.moved hW.alike (h7 x hx)).kept hS.2.1
  · rw [hU]; exact (vk_S.moved hW.alike (h8 k h16 h34)).kept hS.2.1
  · rw [hU]; exact (h5.moved hW.alike).kept hS.2.1
  · rw [hU]; exact (va_Z.moved hW.alike hZ).kept hS.2.1
  · rw [hU]; exact (va_T.moved hW.alike hT).kept hS.2.1
def bPc (G : gT) (n0 : Nat) (av : List Value) (ws : va_W) : Array Value → State → Prop := va_Pc av (fun U => va_P (gtD G) vwCl ws U.heap ∧ va_D (bA n0) ws ∧ bC G n0 U)
def bQc (G : gT) (n0 : Nat) (post : Option Value → va_W → Prop) : Array Value → State → Outcome → State → Prop := fun _ st o t => (∃ (v : Option Value) (ws : va_W), o = .returned v ∧ post v ws ∧ va_P (gtD G) vwCl ws t.heap ∧ va_D (bA n0) ws) ∧ va_F (bA n0) st t
def bCT (l : Launch) (y : MethodName) (cc : ByteArray) (maxL : Nat) (ret : Option FieldType) (rm : Room) (G : gT) (n0 : Nat) (av : List Value) (ws : va_W) (post : Option Value → va_W → Prop) : Prop :=
  Met l y [.code y cc maxL ret] rm (bPc G n0 av ws) (bQc G n0 post) rm.cells rm.slots (bA n0)
theorem bPc_blind {G : gT} {n0 : Nat} {av : List Value} {ws : va_W} : FrameBlind (bPc G n0 av ws) := by
  rintro a U g mk ⟨h1, hP, hD, h0, hK, hC, hPr, d1, tab, hZ, hT, hd⟩
  exact ⟨h1, hP, hD, h0, va_K.moved (u := U) (U := U.calling g mk a) (Vm.Alike.refl U.vm) hK, gCST_calling hC, ⟨fun y hy => va_tabs rfl (rfl : U.vm = (U.calling g mk a).vm) (hPr.1 y hy), va_tabs rfl (rfl : U.vm = (U.calling g mk a).vm) hPr.2⟩, d1, tab, va_Z.moved (u := U) (U := U.calling g mk a) (Vm.Alike.refl U.vm) hZ, va_T.moved (u := U) (U := U.calling g mk a) (Vm.Alike.refl U.vm) hT, hd⟩
theorem bCT_of {l : Launch} {y : MethodName} {cc : ByteArray} {maxL : Nat} {ret : Option FieldType} {rm : Room} {G : gT} {n0 : Nat} {av : List Value} {ws : va_W} {post : Option Value → va_W → Prop} (hy : plainName y.cls = true) (hlen : (lg_sl av).length ≤ maxL)
    (body : ∀ (p : Program) (e : Env) (s : State) (m : MethodId) (args : Array Value) (below : List Frame) (meth : Method) (c : Code) (ls : Array Slot), CallFix p m c cc maxL s args gTs y.cls → meth.sig.returnType = ret → meth.locks = false → meth.name = y.name → bC G n0 s → lv_has ls maxL (lv_args 0 av) → ∀ (H : Heap) (locs : List Loc), bM G n0 ws s H locs →
      W p l e rm s m args below meth c H locs 0 0 (MQ below (bQc G n0 post) args s rm.cells rm.slots (bA n0)) (F0 m 0 ls [])) : bCT l y cc maxL ret rm G n0 av ws post := by
  refine Met.ofW (cc := cc) (maxL := maxL) (ret := ret) hy rfl ?_
  intro p e s m args below meth c s₁ B hml hv
  obtain ⟨rfl, hP, hD, hC⟩ := hv
  have hl := lv_entry av hlen
  rw [lg_entry_eq]
  exact body p e s m av.toArray below meth c _ ⟨B.exec, B.bytes, hml, findClass_of_methodNamed B.named, fun w hw => g_at hw hC.2.2.1.1⟩ B.returns B.notSynchronized (name_of_methodNamed B.named B.method).1 hC hl _ _ ⟨hP, hD, va_S.rf⟩
section BROWS
variable {p : Program} {l : Launch} {e : Env} {R : Room} {s : State} {m : MethodId} {args : Array Value} {below : List Frame} {meth : Method} {c : Code} {H : Heap} {locs : List Loc} {cells slots : Nat} {Q : State → Prop}
variable {cc : ByteArray} {nL : Nat} {own : String} {pc : Nat} {ls : Array Slot} {rest As : List Value} {G : gT} {n0 : Nat} {ws : va_W} {post : Option Value → va_W → Prop} {lv : List (Nat × Value)}
variable {y : MethodName} {bytes : ByteArray} {maxL n index : Nat} {ret : Option FieldType} {rm : Room} {b : Addr}
theorem b_pre {av : List Value} (M : bM G n0 ws s H locs) (C0 : bC G n0 s) : FrameBlind (bPc G n0 av ws) ∧ ∀ U : State, U.heap = H → s.WarmedH U.vm → bPc G n0 av ws av.toArray U :=
  ⟨bPc_blind, fun U hU hW => ⟨rfl, by rw [hU]; exact M.1, M.2.1, C0.call M.2.2 hU hW⟩⟩
/-- behind a call -/
theorem b_go {mc ms : Nat} {st0 : List Value} {a : Array Value} (M : bM G n0 ws s H locs) (hr : va_Run p l e R s m args below meth c H locs cells slots mc ms (F0 m pc ls st0) rest (bQc G n0 post a) (bA n0)) {cells' slots' : Nat} (hc : cells + mc = cells') (hs : slots + ms = slots')
    (kk : ∀ (v : Option Value) (ws : va_W) (H : Heap) (locs : List Loc), post v ws → bM G n0 ws s H locs → W p l e R s m args below meth c H locs cells' slots' Q (F0 m (pc + 3) ls (v.toList ++ rest))) : W p l e R s m args below meth c H locs cells slots Q (F0 m pc ls st0) := by
  subst hc; subst hs
  intro T hT X
  obtain ⟨v, st₀, t, T', L, h0, X', hL, e1, e2, ⟨⟨v2, w2, hv, hp, hP, hD⟩, hz, hk⟩, st⟩ := hr T hT X
  cases hv
  rw [h0] at hz hk
  have hS := M.2.2
  have hM : bM G n0 w2 s T'.heap (locs ++ L) := by
    refine ⟨by rw [e1]; exact hP, hD, Nat.le_trans hS.1 (by rw [e1]; exact hz), fun q h1 h2 => ?_, fun q hq => ?_⟩
    · rw [e1, hk q (Nat.lt_of_lt_of_le h1 hS.1) h2]
      exact hS.2.1 q h1 h2
    · rcases List.mem_append.mp hq with h | h
      · exact hS.2.2 q h
      · exact hL q h
  obtain ⟨t2, a1, b1⟩ := kk v w2 T'.heap (locs ++ L) hp hM T' rfl X'
  exact ⟨t2, st t2 a1, b1⟩
/-- behind a call whose answer and world are told -/
theorem b_go1 {mc ms : Nat} {st0 : List Value} {a : Array Value} {v0 : Option Value} {w0 : va_W} (M : bM G n0 ws s H locs) (hr : va_Run p l e R s m args below meth c H locs cells slots mc ms (F0 m pc ls st0) rest (bQc G n0 post a) (bA n0)) (hpost : ∀ v w, post v w → v = v0 ∧ w = w0) {cells' slots' : Nat} (hc : cells + mc = cells') (hs : slots + ms = slots')
    (kk : ∀ (H : Heap) (locs : List Loc), bM G n0 w0 s H locs → W p l e R s m args below meth c H locs cells' slots' Q (F0 m (pc + 3) ls (v0.toList ++ rest))) : W p l e R s m args below meth c H locs cells slots Q (F0 m pc ls st0) :=
  b_go M hr hc hs (fun v w H locs hp M => by
    obtain ⟨e1, e2⟩ := hpost v w hp
    rw [e1]
    rw [e2] at M
    exact kk H locs M)
theorem b_stat (S : CallFix p m c cc nL s args gTs own) (M : bM G n0 ws s H locs) (C0 : bC G n0 s) (hl : lv_has ls nL lv) (hM : bCT l y bytes maxL ret rm G n0 As ws post) (hk : gMV y bytes maxL ret n) (hst1 : Cond.static y ∈ gTs) (hlink : Cond.methodLink own index y ∈ gTs)
    (hn : As.length = n) {st0 : List Value} (hst : st0 = As.reverse ++ rest) (hW : Nat.ble (0 + (rest.map fun v => v.category).sum) 8 = true) (r1 : rm.frames + 1 ≤ R.frames ∧ 8 + (maxL + 11) + rm.locals ≤ R.locals) (r2 : cells + rm.cells ≤ R.cells ∧ slots + rm.slots ≤ R.slots) (hdg : decode cc pc = .ok (.invokestatic index, 3)) :
    va_Run p l e R s m args below meth c H locs cells slots rm.cells rm.slots (F0 m pc ls st0) rest (bQc G n0 post As.toArray) (bA n0) := by
  obtain ⟨k1, k2, k3⟩ := hk
  have hts := S.2.2.2.2
  exact va_runS S hM ⟨callB_of n hts (gGood k1) rfl rfl rfl (hts _ k2) (hts _ hlink) k3 r1, hts _ hst1⟩ (b_pre M C0) rfl hn hl.1 hst (Nat.le_of_ble_eq_true hW) hdg r2
/-- a method of the object's own class -/
theorem b_virt {C : String} (S : CallFix p m c cc nL s args gTs own) (M : bM G n0 ws s H locs) (C0 : bC G n0 s) (hl : lv_has ls nL lv) (hM : bCT l y bytes maxL ret rm G n0 (.ref b :: As) ws post) (hk : gMV y bytes maxL ret n) (hin : Cond.instanceMethod y ∈ gTs) (hsel : Cond.selects C y y ∈ gTs) (hlink : Cond.methodLink own index y ∈ gTs) (hrecv : ∃ cellB : Cell, H[b]? = some cellB ∧ cellB.vm.isStatics = false ∧ s.vm.findClass C = some cellB.cls)
    (hn : As.length = n) {st0 : List Value} (hst : st0 = As.reverse ++ .ref b :: rest) (hW : Nat.ble (0 + (rest.map fun v => v.category).sum) 8 = true) (r1 : rm.frames + 1 ≤ R.frames ∧ 8 + (maxL + 11) + rm.locals ≤ R.locals) (r2 : cells + rm.cells ≤ R.cells ∧ slots + rm.slots ≤ R.slots) (hdg : decode cc pc = .ok (.invokevirtual index, 3)) :
    va_Run p l e R s m args below meth c H locs cells slots rm.cells rm.slots (F0 m pc ls st0) rest (bQc G n0 post (Value.ref b :: As).toArray) (bA n0) := by
  obtain ⟨k1, k2, k3⟩ := hk
  have hts := S.2.2.2.2
  exact va_runV S hM ⟨callB_of n hts (gGood k1) rfl rfl rfl (hts _ k2) (hts _ hlink) k3 r1, hts _ hin, hts _ hsel⟩ ⟨(b_pre M C0).1, hrecv, (b_pre M C0).2⟩ rfl hn hl.1 hst (Nat.le_of_ble_eq_true hW) hdg r2
/-- a constructor -/
theorem b_init (S : CallFix p m c cc nL s args gTs own) (M : bM G n0 ws s H locs) (C0 : bC G n0 s) (hl : lv_has ls nL lv) (hM : bCT l y bytes maxL none rm G n0 (.ref b :: As) ws post) (hk : gMV y bytes maxL none n) (hin : Cond.instanceMethod y ∈ gTs) (hnm : y.name = "<init>") (hlink : Cond.methodLink own index y ∈ gTs)
    (hn : As.length = n) {st0 : List Value} (hst : st0 = As.reverse ++ .ref b :: rest) (hW : Nat.ble (0 + (rest.map fun v => v.category).sum) 8 = true) (r1 : rm.frames + 1 ≤ R.frames ∧ 8 + (maxL + 11) + rm.locals ≤ R.locals) (r2 : cells + rm.cells ≤ R.cells ∧ slots + rm.slots ≤ R.slots) (hdg : decode cc pc = .ok (.invokespecial index, 3)) :
    va_Run p l e R s m args below meth c H locs cells slots rm.cells rm.slots (F0 m pc ls st0) rest (bQc G n0 post (Value.ref b :: As).toArray) (bA n0) := by
  obtain ⟨k1, k2, k3⟩ := hk
  have hts := S.2.2.2.2
  exact va_runI S hM ⟨callB_of n hts (gGood k1) rfl rfl rfl (hts _ k2) (hts _ hlink) k3 r1, hnm, hts _ hin⟩ (b_pre M C0) rfl hn hl.1 hst (Nat.le_of_ble_eq_true hW) hdg r2
/-- super.m(..) -/
theorem b_sup {C : String} {cC : ClassId} (hat : ClassAt s C cC) (S : CallFix p m c cc nL s args gTs own) (M : bM G n0 ws s H locs) (C0 : bC G n0 s) (hl : lv_has ls nL lv) (hM : bCT l y bytes maxL ret rm G n0 (.ref b :: As) ws post) (hT : GoodIn gTs (va_wsSU own index y [.code y bytes maxL ret])) (hd : y.name ≠ "<init>" ∧ (parseMethodDescriptor y.desc).map (fun d => d.parameters.length) = some n) (hrecv : ∃ cellB : Cell, H[b]? = some cellB ∧ cellB.vm.isStatics = false ∧ s.vm.findClass C = some cellB.cls)
    (hn : As.length = n) {st0 : List Value} (hst : st0 = As.reverse ++ .ref b :: rest) (hW : Nat.ble (0 + (rest.map fun v => v.category).sum) 8 = true) (r1 : rm.frames + 1 ≤ R.frames ∧ 8 + (maxL + 11) + rm.locals ≤ R.locals) (r2 : cells + rm.cells ≤ R.cells ∧ slots + rm.slots ≤ R.slots) (hdg : decode cc pc = .ok (.invokespecial index, 3)) :
    va_Run p l e R s m args below meth c H locs cells slots rm.cells rm.slots (F0 m pc ls st0) rest (bQc G n0 post (Value.ref b :: As).toArray) (bA n0) :=
  va_runSU hat S hM (va_cwSU n S.2.2.2.2 hT rfl rfl rfl hd r1) ⟨(b_pre M C0).1, hrecv, (b_pre M C0).2⟩ rfl hn hl.1 hst (Nat.le_of_ble_eq_true hW) hdg r2
/-- a method of the superclass, by the subclass's object -/
theorem b_inh {C owner : String} {x : MethodName} (S : CallFix p m c cc nL s args gTs own) (M : bM G n0 ws s H locs) (C0 : bC G n0 s) (hl : lv_has ls nL lv) (hM : bCT l y bytes maxL ret rm G n0 (.ref b :: As) ws post) (cw : va_CU R s args own C owner index x y bytes maxL ret [.code y bytes maxL ret] rm rm.cells rm.slots n) (hrecv : ∃ cellB : Cell, H[b]? = some cellB ∧ cellB.vm.isStatics = false ∧ s.vm.findClass C = some cellB.cls)
    (hn : As.length = n) {st0 : List Value} (hst : st0 = As.reverse ++ .ref b :: rest) (hW : Nat.ble (0 + (rest.map fun v => v.category).sum) 8 = true) (r2 : cells + rm.cells ≤ R.cells ∧ slots + rm.slots ≤ R.slots) (hdg : decode cc pc = .ok (.invokevirtual index, 3)) :
    va_Run p l e R s m args below meth c H locs cells slots rm.cells rm.slots (F0 m pc ls st0) rest (bQc G n0 post (Value.ref b :: As).toArray) (bA n0) :=
  va_runU S hM cw ⟨(b_pre M C0).1, hrecv, (b_pre M C0).2⟩ rfl hn hl.1 hst (Nat.le_of_ble_eq_true hW) hdg r2
/-- a private method of the superclass, on the subclass's object -/
theorem b_priv {C : String} {x : MethodName} (S : CallFix p m c cc nL s args gTs own) (M : bM G n0 ws s H locs) (C0 : bC G n0 s) (hl : lv_has ls nL lv) (hM : bCT l y bytes maxL ret rm G n0 (.ref b :: As) ws post) (hk : gMV y bytes maxL ret n) (hin : Cond.instanceMethod y ∈ gTs) (hpriv : (Cond.privateMethod y).before args s = true) (hsel : (Cond.selects C x x).before args s = true) (hxy : x.cls = y.cls) (hlink : Cond.methodLink own index y ∈ gTs) (hrecv : ∃ cellB : Cell, H[b]? = some cellB ∧ cellB.vm.isStatics = false ∧ s.vm.findClass C = some cellB.cls)
    (hn : As.length = n) {st0 : List Value} (hst : st0 = As.reverse ++ .ref b :: rest) (hW : Nat.ble (0 + (rest.map fun v => v.category).sum) 8 = true) (r1 : rm.frames + 1 ≤ R.frames ∧ 8 + (maxL + 11) + rm.locals ≤ R.locals) (r2 : cells + rm.cells ≤ R.cells ∧ slots + rm.slots ≤ R.slots) (hdg : decode cc pc = .ok (.invokevirtual index, 3)) :
    va_Run p l e R s m args below meth c H locs cells slots rm.cells rm.slots (F0 m pc ls st0) rest (bQc G n0 post (Value.ref b :: As).toArray) (bA n0) := by
  obtain ⟨k1, k2, k3⟩ := hk
  have hts := S.2.2.2.2
  have cb : CallB R s args own index y bytes maxL ret [.code y bytes maxL ret] rm rm.cells rm.slots n := callB_of n hts (gGood k1) rfl rfl rfl (hts _ k2) (hts _ hlink) k3 r1
  have hK : Back l R p e below s args y 3 8 (PreOf R rm.cells rm.slots (bPc G n0 (.ref b :: As) ws)) (PostOf (bQc G n0 post) rm.cells rm.slots (bA n0)) := callBack cb hM (b_pre M C0).1
  obtain ⟨-, -, -, -, -, -, hcode, -, hy, hlen, hl1⟩ := cb
  obtain ⟨hx, hb, hml, hown, -⟩ := S
  obtain ⟨cellB, hcB, hoB, -⟩ := hrecv
  have hPc := (b_pre (av := .ref b :: As) M C0).2
  intro T hT X
  obtain ⟨mk, methM, hnamed, hmethM, hstM, habM⟩ := Cond.instanceMethod_spec (hts _ hin)
  obtain ⟨methM', cM, hmethM', -, -, -, -, -, -, hsigM⟩ := Cond.code_spec hnamed hcode
  cases hmethM.symm.trans hmethM'
  obtain ⟨c2, r2', m2, -, -, q3, -, kP, hkP, hkPi⟩ := Cond.selects_spec hsel
  have e0 : mk.cls = m2.cls := Option.some.inj ((findClass_of_methodNamed hnamed).symm.trans (by rw [← hxy]; exact findClass_of_methodNamed q3))
  rw [← e0] at hkP
  have hselP : selectMethod e.platform s.vm cellB.cls mk = .method mk := selectMethod_private hmethM (Cond.privateMethod_at hpriv mk methM hnamed hmethM)
  obtain ⟨vm₁, X₁, hstep₁⟩ := X.invokevirtual hx hown hl1 hnamed hmethM hstM hkP hkPi hy (a := b) (cell := cellB) (by rw [hT]; exact hcB)
    (fun z h => by rw [h] at hoB; cases hoB) hselP hmethM habM hkP hkPi (g := F0 m pc ls st0) rfl (argsL := As) (rest := rest) (hn.trans (hlen _ hsigM)) hst (by rw [hb]; exact hdg)
  obtain ⟨v, ⟨U', l2, c2, s2⟩, X', ⟨g', mk2, t, L, e1, e2, hq, h1, hL, h2, h3⟩, hsteps⟩ := hK m meth c ⟨T.setVm vm₁, locs, cells, slots⟩ { F0 m pc ls st0 with stack := rest } (.invokevirtual index) mk (Value.ref b :: As).toArray X₁ rfl (hl.1.trans hml.symm) (by rw [hb]; exact hdg) (Nat.le_of_ble_eq_true hW) (X₁.named hnamed) ⟨r2.1, r2.2, hPc (T.setVm vm₁) hT X₁.warmed⟩
  dsimp only [Pt.U, Pt.locs, Pt.cells, Pt.slots] at X' e1 e2 h1 h2 h3 hsteps
  subst h1; subst h2; subst h3
  exact ⟨v, (T.setVm vm₁).calling g' mk2 (Value.ref b :: As).toArray, t, U', L, hT, X', hL, e1, e2, hq, fun target h => hstep₁ _ fun acts => by rw [doInvoke_state]; exact hsteps.trans h⟩
/-! the ends -/
theorem b_ret0 (S : CallFix p m c cc nL s args gTs own) (M : bM G n0 ws s H locs) (hr : meth.sig.returnType = none) (hlk : meth.locks = false) (hp : post none ws) (hc : cells ≤ rm.cells) (hs : slots ≤ rm.slots) (hdg : decode cc pc = .ok (.return_, 1)) : W p l e R s m args below meth c H locs cells slots (MQ below (bQc G n0 post) args s rm.cells rm.slots (bA n0)) (F0 m pc ls []) := by
  obtain ⟨hP, hD, hS⟩ := M
  exact W.widen hc hs (W.vret S.1 S.2.1 hr (fun t ht hW => ⟨⟨none, ws, rfl, hp, by rw [ht]; exact hP, hD⟩, hS.F ht⟩) hS.2.2 hdg hlk)
theorem b_retI {x : Int32} (S : CallFix p m c cc nL s args gTs own) (M : bM G n0 ws s H locs) (hr : meth.sig.returnType = some .int) (hlk : meth.locks = false) (hp : post (some (.int x)) ws) (hc : cells ≤ rm.cells) (hs : slots ≤ rm.slots) (hdg : decode cc pc = .ok (.ireturn, 1)) : W p l e R s m args below meth c H locs cells slots (MQ below (bQc G n0 post) args s rm.cells rm.slots (bA n0)) (F0 m pc ls [.int x]) := by
  obtain ⟨hP, hD, hS⟩ := M
  exact W.widen hc hs (W.iret S.1 S.2.1 hr (fun t ht hW => ⟨⟨_, ws, rfl, hp, by rw [ht]; exact hP, hD⟩, hS.F ht⟩) hS.2.2 hdg hlk)
theorem b_retZ {x : Int32} {ty : FieldType} (S : CallFix p m c cc nL s args gTs own) (M : bM G n0 ws s H locs) (hr : meth.sig.returnType = some ty) (hlk : meth.locks = false) (hnar : narrow ty (.int x) = .int x) (hp : post (some (.int x)) ws) (hc : cells ≤ rm.cells) (hs : slots ≤ rm.slots) (hdg : decode cc pc = .ok (.ireturn, 1)) : W p l e R s m args below meth c H locs cells slots (MQ below (bQc G n0 post) args s rm.cells rm.slots (bA n0)) (F0 m pc ls [.int x]) := by
  obtain ⟨hP, hD, hS⟩ := M
  exact W.widen hc hs (W.zret S.1 S.2.1 hr hnar (fun t ht hW => ⟨⟨_, ws, rfl, hp, by rw [ht]; exact hP, hD⟩, hS.F ht⟩) hS.2.2 hdg hlk)
theorem b_retA {a : Nat} {rt : FieldType} (S : CallFix p m c cc nL s args gTs own) (M : bM G n0 ws s H locs) (hr : meth.sig.returnType = some rt) (hrt : (∃ n, rt = .object n) ∨ ∃ t, rt = .array t) (hlk : meth.locks = false) (hp : post (some (.ref a)) ws) (hc : cells ≤ rm.cells) (hs : slots ≤ rm.slots) (hdg : decode cc pc = .ok (.areturn, 1)) : W p l e R s m args below meth c H locs cells slots (MQ below (bQc G n0 post) args s rm.cells rm.slots (bA n0)) (F0 m pc ls [.ref a]) := by
  obtain ⟨hP, hD, hS⟩ := M
  exact W.widen hc hs (W.aret S.1 S.2.1 hr hrt (Or.inr ⟨a, rfl⟩) (fun t ht hW => ⟨⟨_, ws, rfl, hp, by rw [ht]; exact hP, hD⟩, hS.F ht⟩) hS.2.2 hdg hlk)
/-! fields, arrays -/
theorem b_get {ref C : String} {T : u_T} {N ci index a : Nat} (S : CallFix p m c cc nL s args gTs own) (C0 : bC G n0 s) (M : bM G n0 ws s H locs) (hin : ∀ w ∈ u_ws C T N, w ∈ gTs) (q0 : Nat) {fs : List Value} (he : ws[q0]? = some (a, .inr (ci, fs))) (hc : vwCl[ci]? = some (C, T, N)) (k : Nat) (hk : k < N) (hlink : Cond.fieldLink own index ref (T k).2.1 (T k).2.2.1 ∈ gTs) (href : ref = (T k).1) {v : Value} (hv : fs[k]? = some v) (hdg : decode cc pc = .ok (.getfield index, 3))
    (kk : W p l e R s m args below meth c H locs cells slots Q (F0 m (pc + 3) ls (v :: rest))) : W p l e R s m args below meth c H locs cells slots Q (F0 m pc ls (.ref a :: rest)) := by
  obtain ⟨hx, hb, -, hown, hts⟩ := S
  exact va_get hx hb hts hin hown C0.2.1 M.1 q0 he hc k hk (hts _ hlink) (fun x h => by rw [href]; exact h) hv hdg kk
theorem b_put {ref C : String} {T : u_T} {N ci index a : Nat} (S : CallFix p m c cc nL s args gTs own) (C0 : bC G n0 s) (M : bM G n0 ws s H locs) (hin : ∀ w ∈ u_ws C T N, w ∈ gTs) (ty0 : Nat → FieldType) (hty : ∀ k, k < N → parseFieldDescriptor (T k).2.2.1 = some (ty0 k)) (hnm : ∀ a, a < N → ∀ b, b < N → a ≠ b → (T a).2.1 ≠ (T b).2.1) (q0 : Nat) {fs : List Value} (he : ws[q0]? = some (a, .inr (ci, fs))) (hc : vwCl[ci]? = some (C, T, N)) (k : Nat) (hk : k < N) (hlink : Cond.fieldLink own index ref (T k).2.1 (T k).2.2.1 ∈ gTs) (href : ref = (T k).1) (hfin : (T k).2.2.2 = false) {v : Value} (hn : narrow (ty0 k) v = v) (hfit : fits (ty0 k) v = true) (hl : k < fs.length) {ws' : va_W} (hws : ws.set q0 (a, .inr (ci, fs.set k v)) = ws') (hdg : decode cc pc = .ok (.putfield index, 3))
    (kk : ∀ (H : Heap) (locs : List Loc), bM G n0 ws' s H locs → W p l e R s m args below meth c H locs cells slots Q (F0 m (pc + 3) ls rest)) : W p l e R s m args below meth c H locs cells slots Q (F0 m pc ls (v :: .ref a :: rest)) := by
  subst hws
  obtain ⟨hx, hb, -, hown, hts⟩ := S
  exact va_put hx hb hts hin ty0 hty hnm hown C0.2.1 M.1 M.2.1 M.2.2 q0 he hc k hk (hts _ hlink) (fun x h => by rw [href]; exact h) hfin (hty k hk) hn hfit hl hdg (fun H1 locs1 hP1 hD1 hS1 => kk H1 locs1 ⟨hP1, hD1, hS1⟩)
theorem b_putF {ref C : String} {T : u_T} {N ci index a : Nat} (S : CallFix p m c cc nL s args gTs own) (C0 : bC G n0 s) (M : bM G n0 ws s H locs) (hin : ∀ w ∈ u_ws C T N, w ∈ gTs) (ty0 : Nat → FieldType) (hty : ∀ k, k < N → parseFieldDescriptor (T k).2.2.1 = some (ty0 k)) (hnm : ∀ a, a < N → ∀ b, b < N → a ≠ b → (T a).2.1 ≠ (T b).2.1) (q0 : Nat) {fs : List Value} (he : ws[q0]? = some (a, .inr (ci, fs))) (hc : vwCl[ci]? = some (C, T, N)) (k : Nat) (hk : k < N) (hlink : Cond.fieldLink own index ref (T k).2.1 (T k).2.2.1 ∈ gTs) (href : ref = (T k).1) (hfin : (T k).2.2.2 = true) (hin2 : meth.name = "<init>") (hdecl : (T k).1 = own) {v : Value} (hn : narrow (ty0 k) v = v) (hfit : fits (ty0 k) v = true) (hl : k < fs.length) {ws' : va_W} (hws : ws.set q0 (a, .inr (ci, fs.set k v)) = ws') (hdg : decode cc pc = .ok (.putfield index, 3))
    (kk : ∀ (H : Heap) (locs : List Loc), bM G n0 ws' s H locs → W p l e R s m args below meth c H locs cells slots Q (F0 m (pc + 3) ls rest)) : W p l e R s m args below meth c H locs cells slots Q (F0 m pc ls (v :: .ref a :: rest)) := by
  subst hws
  obtain ⟨hx, hb, -, hown, hts⟩ := S
  exact va_putF hx hb hts hin ty0 hty hnm hown C0.2.1 M.1 M.2.1 M.2.2 q0 he hc k hk (hts _ hlink) (fun x h => by rw [href]; exact h) hfin hin2 hdecl (hty k hk) hn hfit hl hdg (fun H1 locs1 hP1 hD1 hS1 => kk H1 locs1 ⟨hP1, hD1, hS1⟩)
theorem b_alen {a : Nat} {cA : ClassId} {x : vp_A} {t : Nat} {ty : FieldType} (S : CallFix p m c cc nL s args gTs own) (C0 : bC G n0 s) (M : bM G n0 ws s H locs) (q0 : Nat) (he : ws[q0]? = some (a, .inl (cA, x))) (ht : (gtys G)[t]? = some (cA, ty)) {v : Int32} (hv : Int32.ofNat x.1 = v) (hdg : decode cc pc = .ok (.arraylength, 1))
    (kk : W p l e R s m args below meth c H locs cells slots Q (F0 m (pc + 1) ls (.int v :: rest))) : W p l e R s m args below meth c H locs cells slots Q (F0 m pc ls (.ref a :: rest)) :=
  va_alen S.1 S.2.1 C0.2.1 M.1 q0 t he ht hv hdg kk
theorem b_newb (S : CallFix p m c cc nL s args gTs own) (C0 : bC G n0 s) (M : bM G n0 ws s H locs) (harr : Cond.arrayClass .byte ∈ gTs) {x : Int32} {N : Nat} (hx : ¬ x < 0) (hN : x.toNatClampNeg = N) (hbytes : N ≤ 65536) (hcells : cells + 1 ≤ R.cells) (hslots : slots + N ≤ R.slots) {cells' slots' : Nat} (e1' : cells + 1 = cells') (e2' : slots + N = slots') (hdg : decode cc pc = .ok (.newarray .byte, 2))
    (kk : ∀ (q : Nat) (H : Heap), bM G n0 (ws ++ [(q, .inl (G.2.1 5, N, .inl (fun _ => 0)))]) s H locs → W p l e R s m args below meth c H locs cells' slots' Q (F0 m (pc + 2) ls (.ref q :: rest))) : W p l e R s m args below meth c H locs cells slots Q (F0 m pc ls (.int x :: rest)) := by
  subst e1'; subst e2'
  have hts := S.2.2.2.2
  obtain ⟨hP, hD, hS⟩ := M
  refine va_newaK S.1 S.2.1 (atype := .byte) (hts _ harr) rfl hdg rfl hx hN (by show N * 1 ≤ _; omega) hcells hslots rfl fun H1 cA e1 z1 o1 hAr hNm => ?_
  have hcA : cA = G.2.1 5 := Option.some.inj (hNm.symm.trans (C0.2.1.2 5 _ rfl).2)
  subst hcA
  have hk : ∀ (k : Nat) (x : Nat × va_E), ws[k]? = some x → H1[x.1]? = H[x.1]? := fun k x hx => o1 x.1 ((hP k x hx).lt)
  refine kk H.size H1 ⟨(hP.kept hk).app (fun k x hx => ?_), hD.push hP rfl (bA_in C0 _ hS.1), Nat.le_trans hS.1 (by omega), fun x h1 h2 => (o1 x (Nat.lt_of_lt_of_le h1 hS.1)).trans (hS.2.1 x h1 h2), hS.2.2⟩
  have hz : k < 1 := (List.getElem?_eq_some_iff.mp hx).1
  rw [show k = 0 by omega] at hx
  cases hx
  exact e1
theorem b_recv {a ci : Nat} {q : vw_C} {fs : List Value} (C0 : bC G n0 s) (M : bM G n0 ws s H locs) (q0 : Nat) (he : ws[q0]? = some (a, .inr (ci, fs))) (hc : vwCl[ci]? = some q) : ∃ cell : Cell, H[a]? = some cell ∧ cell.vm.isStatics = false ∧ s.vm.findClass q.1 = some cell.cls := va_recv C0.2.1 M.1 hc he
/-- a world of fewer cells -/
theorem bM.sub {ws' : va_W} (M : bM G n0 ws s H locs) (is : List Nat) (hn : va_nd is = true) (hs : is.map (fun i => ws[i]?) = ws'.map some) : bM G n0 ws' s H locs := by
  refine ⟨fun k q hk => ?_, M.2.1.sub is hn hs, M.2.2⟩
  have h1 : (is.map (fun i => ws[i]?))[k]? = some (some q) := by rw [hs, List.getElem?_map, hk]; rfl
  rw [List.getElem?_map] at h1
  cases hi : is[k]? with
  | none => rw [hi] at h1; cases h1
  | some i => rw [hi] at h1; exact M.1 i q (Option.some.inj h1)
end BROWS
theorem inJ4 : ∀ w ∈ u_ws RJ4 TJ4 4, w ∈ gTs := by
  show ∀ w ∈ [u_lay RJ4 TJ4 0, u_lay RJ4 TJ4 1, u_lay RJ4 TJ4 2, u_lay RJ4 TJ4 3], w ∈ gTs
  exact List.forall_mem_cons.mpr ⟨tw_6_31, List.forall_mem_cons.mpr ⟨tw_6_33, List.forall_mem_cons.mpr ⟨tw_6_35, List.forall_mem_cons.mpr ⟨tw_6_37, fun _ h => absurd h List.not_mem_nil⟩⟩⟩⟩
theorem inJ0 : ∀ w ∈ u_ws RJ0 TJ0 4, w ∈ gTs := by
  show ∀ w ∈ [u_lay RJ0 TJ0 0, u_lay RJ0 TJ0 1, u_lay RJ0 TJ0 2, u_lay RJ0 TJ0 3], w ∈ gTs
  exact List.forall_mem_cons.mpr ⟨tw_5_171, List.forall_mem_cons.mpr ⟨tw_5_173, List.forall_mem_cons.mpr ⟨tw_6_215, List.forall_mem_cons.mpr ⟨tw_6_217, fun _ h => absurd h List.not_mem_nil⟩⟩⟩⟩
theorem b_super : Cond.superclass RJ4 RJ5 ∈ gTs := g_tw tm_6 39 (by decide +kernel)
theorem b_goodw {w : Cond} (h : w ∈ gTs) : GoodIn gTs [w] := gGood h
theorem b_goods {ws : List Cond} (h : ∀ w ∈ ws, w ∈ gTs) : GoodIn gTs ws := fun w hw => ⟨h w hw, good_of_word (List.mem_filter.mp (h w hw)).2⟩
theorem b_good6 {w1 w2 w3 w4 w5 w6 : Cond} (h1 : w1 ∈ gTs) (h2 : w2 ∈ gTs) (h3 : w3 ∈ gTs) (h4 : w4 ∈ gTs) (h5 : w5 ∈ gTs) (h6 : w6 ∈ gTs) : GoodIn gTs [w1, w2, w3, w4, w5, w6] := b_goods (by
  intro w hw
  simp only [List.mem_cons, List.not_mem_nil, or_false] at hw
  rcases hw with rfl | rfl | rfl | rfl | rfl | rfl <;> assumption)
theorem b_good7 {w1 w2 w3 w4 w5 w6 w7 : Cond} (h1 : w1 ∈ gTs) (h2 : w2 ∈ gTs) (h3 : w3 ∈ gTs) (h4 : w4 ∈ gTs) (h5 : w5 ∈ gTs) (h6 : w6 ∈ gTs) (h7 : w7 ∈ gTs) : GoodIn gTs [w1, w2, w3, w4, w5, w6, w7] := b_goods (by
  intro w hw
  simp only [List.mem_cons, List.not_mem_nil, or_false] at hw
  rcases hw with rfl | rfl | rfl | rfl | rfl | rfl | rfl <;> assumption)
theorem b_set_last {ws : va_W} {x y : Nat × va_E} : (ws ++ [x]).set ws.length y = ws ++ [y] := by
  rw [List.set_append, if_neg (by omega), Nat.sub_self]
  rfl
theorem b_fitT {tx : List Int32} (h : ∀ j, j < tx.length → fits .byte (.int (tx.getD j 0)) = true) : sb_Fit (fun j => tx.getD j 0) := fun j => by
  by_cases hj : j < tx.length
  · exact h j hj
  · show fits .byte (.int (tx.getD j 0)) = true
    rw [List.getD_eq_getElem?_getD, List.getElem?_eq_none (by omega)]
    decide
section BNEW
variable {p : Program} {l : Launch} {e : Env} {R : Room} {s : State} {m : MethodId} {args : Array Value} {below : List Frame} {meth : Method} {c : Code} {H : Heap} {locs : List Loc} {cells slots : Nat} {Q : State → Prop}
variable {cc : ByteArray} {nL : Nat} {own : String} {pc : Nat} {ls : Array Slot} {rest : List Value} {G : gT} {n0 : Nat} {ws : va_W}
theorem b_newS {index : Nat} (S : CallFix p m c cc nL s args gTs own) (C0 : bC G n0 s) (M : bM G n0 ws s H locs) (hcl : Cond.classLink own index "java/lang/String" ∈ gTs) (hinst : Cond.instantiable "java/lang/String" 4 ∈ gTs) (hini : Cond.initialized "java/lang/String" ∈ gTs) (hin : ∀ w ∈ u_ws RJ0 TJ0 4, w ∈ gTs) (hcells : cells + 1 ≤ R.cells) (hslots : slots + 4 ≤ R.slots) {cells' slots' : Nat} (e1' : cells + 1 = cells') (e2' : slots + 4 = slots') (hdg : decode cc pc = .ok (.new index, 3))
    (kk : ∀ (q : Nat) (H : Heap), bM G n0 (ws ++ [(q, .inr (0, [.null, .int 0, .int 0, .int 0]))]) s H locs → W p l e R s m args below meth c H locs cells' slots' Q (F0 m (pc + 3) ls (.ref q :: rest))) : W p l e R s m args below meth c H locs cells slots Q (F0 m pc ls rest) := by
  subst e1'; subst e2'
  have hts := S.2.2.2.2
  exact va_new S.1 S.2.1 hts hin tyJ0 tyJ0_ok S.2.2.2.1 (hts _ hcl) (hts _ hinst) (hts _ hini) C0.2.1 M.1 M.2.1 M.2.2 (bA_in C0) (ci := 0) rfl (fs := [.null, .int 0, .int 0, .int 0]) (fun j hj => by
    match j, hj with
    | 0, _ => rfl
    | 1, _ => rfl
    | 2, _ => rfl
    | 3, _ => rfl) hcells hslots hdg (fun q H1 hP hD hS => kk q H1 ⟨hP, hD, hS⟩)
end BNEW
theorem k_J0_coder_7d493 : gMV yJ0_coder_7d493 cJ0_coder_7d493 1 (some .byte) 0 := ⟨tw_4_198, tw_1_17, by decide⟩
theorem c_J0_coder_7d493 (l : Launch) (G : gT) (n0 : Nat) (ws : va_W) {qs vs : Nat} {tx : List Int32} (hq : gStr G qs vs tx) : bCT l yJ0_coder_7d493 cJ0_coder_7d493 1 (some .byte) { frames := 0, cells := 0, slots := 0, locals := 0 } G n0 [.ref qs] ws (fun v ws' => v = some (.int 0) ∧ ws' = ws) := by
  refine bCT_of (by decide) (Nat.le_of_ble_eq_true rfl) (fun p e s m args below meth c ls S hr hlk hnm C0 hl H locs M => ?_)
  have hx := S.1
  have hb := S.2.1
  have hS := (hq.1 _ _ C0.2.2.1).1 0 (by decide)
  refine va_gets hx hb C0.2.2.1.2.2.2.2.2.2.2.2.2.1 M.2.2 S.2.2.2.1 (S.2.2.2.2 _ tw_4_199) (fun _ h => h) dJ0_coder_7d493_0 ?_
  refine lv_if_eq (tgt := 13) hx hb dJ0_coder_7d493_3 (by decide) (fun c1 => absurd c1 (by decide)) (fun c1 => ?_)
  refine lv_aload_n hx hb dJ0_coder_7d493_6 rfl (lv_at hl 0 rfl) ?_
  refine vk_getf hx hb hS.2.1 M.2.2 S.2.2.2.1 (S.2.2.2.2 _ tw_6_214) (fun _ h => h) dJ0_coder_7d493_7 ?_
  refine lv_goto (tgt := 14) hx hb dJ0_coder_7d493_10 (by decide) ?_
  exact b_retZ S M hr hlk rfl ⟨rfl, rfl⟩ (by first | omega | (dsimp only; omega) | dsimp only) (by first | omega | (dsimp only; omega) | dsimp only) dJ0_coder_7d493_14
theorem k_J0_length_8abf5 : gMV yJ0_length_8abf5 cJ0_length_8abf5 1 (some .int) 0 := ⟨tw_4_194, tw_1_17, by decide⟩
theorem c_J0_length_8abf5 (l : Launch) (G : gT) (n0 : Nat) (ws : va_W) {qs vs : Nat} {tx : List Int32} (hq : gStr G qs vs tx) : bCT l yJ0_length_8abf5 cJ0_length_8abf5 1 (some .int) { frames := 1, cells := 0, slots := 0, locals := 20 } G n0 [.ref qs] ws (fun v ws' => v = some (.int (nI tx.length)) ∧ ws' = ws) := by
  refine bCT_of (by decide) (Nat.le_of_ble_eq_true rfl) (fun p e s m args below meth c ls S hr hlk hnm C0 hl H locs M => ?_)
  have hx := S.1
  have hb := S.2.1
  have hS := (hq.1 _ _ C0.2.2.1).1 0 (by decide)
  refine lv_aload_n hx hb dJ0_length_8abf5_0 rfl (lv_at hl 0 rfl) ?_
  refine vk_getf hx hb hS.2.2.1 M.2.2 S.2.2.2.1 (S.2.2.2.2 _ tw_6_213) (fun _ h => h) dJ0_length_8abf5_1 ?_
  refine va_tlen hx hb hS.2.2.2 M.2.2 (v := nI tx.length) rfl dJ0_length_8abf5_4 ?_
  refine lv_aload_n hx hb dJ0_length_8abf5_5 rfl (lv_at hl 0 rfl) ?_
  refine b_go1 M (b_virt (C := "java/lang/String") S M C0 hl (c_J0_coder_7d493 l G n0 ws hq) k_J0_coder_7d493 tw_4_196 tw_4_197 tw_4_195 (vk_recv (i := 0) (hq.1 _ _ C0.2.2.1) (by decide) M.2.2) rfl rfl rfl ⟨Nat.le_of_ble_eq_true rfl, Nat.le_of_ble_eq_true rfl⟩ ⟨(by first | omega | (dsimp only; omega) | dsimp only), (by first | omega | (dsimp only; omega) | dsimp only)⟩ dJ0_length_8abf5_6) (fun _ _ h => h) rfl rfl (fun H locs M => ?_)
  show W p l e _ s m args below meth c H locs _ _ _ (F0 m 9 ls [.int 0, .int (nI tx.length)])
  refine lv_ishr hx hb dJ0_length_8abf5_9 ?_
  rw [sb_shr0]
  exact b_retI S M hr hlk ⟨rfl, rfl⟩ (by first | omega | (dsimp only; omega) | dsimp only) (by first | omega | (dsimp only; omega) | dsimp only) dJ0_length_8abf5_10
theorem k_J0_getBytes_840e7 : gMV yJ0_getBytes_840e7 cJ0_getBytes_840e7 4 none 3 := ⟨tw_6_132, tw_1_17, by decide⟩
theorem c_J0_getBytes_840e7 (l : Launch) (G : gT) (n0 : Nat) (ws : va_W) {b mm n k : Nat} {f : Nat → Int32} (hw : ws[k]? = some (b, .inl (G.2.1 5, mm, .inl f))) {qs vs : Nat} {tx : List Int32} (hq : gStr G qs vs tx) (hf : ∀ j, j < tx.length → fits .byte (.int (tx.getD j 0)) = true) (hm : n + tx.length ≤ mm) (hm2 : mm ≤ 65536) : bCT l yJ0_getBytes_840e7 cJ0_getBytes_840e7 4 none { frames := 1, cells := 0, slots := 0, locals := 60 } G n0 [.ref qs, .ref b, .int (nI n), .int 0] ws (fun v ws' => v = none ∧ ws' = ws.set k (b, .inl (G.2.1 5, mm, .inl (va_cpy (fun j => tx.getD j 0) f 0 n tx.length)))) := by
  refine bCT_of (by decide) (Nat.le_of_ble_eq_true rfl) (fun p e s m args below meth c ls S hr hlk hnm C0 hl H locs M => ?_)
  have hx := S.1
  have hb := S.2.1
  have hS := (hq.1 _ _ C0.2.2.1).1 0 (by decide)
  have hlen := hq.2.1
  refine lv_aload_n hx hb dJ0_getBytes_840e7_0 rfl (lv_at hl 0 rfl) ?_
  refine b_go1 M (b_virt (C := "java/lang/String") S M C0 hl (c_J0_coder_7d493 l G n0 ws hq) k_J0_coder_7d493 tw_4_196 tw_4_197 tw_4_195 (vk_recv (i := 0) (hq.1 _ _ C0.2.2.1) (by decide) M.2.2) rfl rfl rfl ⟨Nat.le_of_ble_eq_true rfl, Nat.le_of_ble_eq_true rfl⟩ ⟨(by first | omega | (dsimp only; omega) | dsimp only), (by first | omega | (dsimp only; omega) | dsimp only)⟩ dJ0_getBytes_840e7_1) (fun _ _ h => h) rfl rfl (fun H locs M => ?_)
  show W p l e _ s m args below meth c H locs _ _ _ (F0 m 4 ls [.int 0])
  refine lv_iload_n hx hb dJ0_getBytes_840e7_4 rfl (lv_at hl 3 rfl) ?_
  refine lv_icmp_ne (tgt := 28) hx hb dJ0_getBytes_840e7_5 (by decide) (fun c1 => absurd c1 (fun h => h rfl)) (fun c1 => ?_)
  refine lv_aload_n hx hb dJ0_getBytes_840e7_8 rfl (lv_at hl 0 rfl) ?_
  refine vk_getf hx hb hS.2.2.1 M.2.2 S.2.2.2.1 (S.2.2.2.2 _ tw_6_213) (fun _ h => h) dJ0_getBytes_840e7_9 ?_
  refine lv_iconst (v := 0) hx hb dJ0_getBytes_840e7_12 (by decide) ?_
  refine lv_aload_n hx hb dJ0_getBytes_840e7_13 rfl (lv_at hl 1 rfl) ?_
  refine lv_iload_n hx hb dJ0_getBytes_840e7_14 rfl (lv_at hl 2 rfl) ?_
  refine lv_iload_n hx hb dJ0_getBytes_840e7_15 rfl (lv_at hl 3 rfl) ?_
  refine lv_ishl hx hb dJ0_getBytes_840e7_16 ?_
  rw [sb_shl0]
  refine lv_aload_n hx hb dJ0_getBytes_840e7_17 rfl (lv_at hl 0 rfl) ?_
  refine vk_getf hx hb hS.2.2.1 M.2.2 S.2.2.2.1 (S.2.2.2.2 _ tw_6_213) (fun _ h => h) dJ0_getBytes_840e7_18 ?_
  refine va_tlen hx hb hS.2.2.2 M.2.2 (v := nI tx.length) rfl dJ0_getBytes_840e7_21 ?_
  have ec : (nI tx.length).toNatClampNeg = tx.length := nI_clamp (by omega)
  have en : (nI n).toNatClampNeg = n := nI_clamp (by omega)
  have ez : (0 : Int32).toNatClampNeg = 0 := sb_cl0
  refine vk_copyt (ws := ws) (f := fun j => tx.getD j 0) hx hb (S.2.2.1.trans hl.1.symm) S.2.2.2.1 (S.2.2.2.2 _ tw_6_133) (S.2.2.2.2 _ tw_2_53) (S.2.2.2.2 _ tw_2_52) (S.2.2.2.2 _ tw_1_18) C0.2.1 M.1 M.2.1 M.2.2 hS.2.2.2 k 5 hw rfl (by decide) (nI_pos (by omega)) (nI_pos (by omega)) (by rw [ez, ec]; show 0 + tx.length ≤ tx.length; omega) (by rw [en, ec]; exact hm) (fun i hi => ?_) (Nat.le_of_ble_eq_true rfl) (Nat.le_of_ble_eq_true rfl) dJ0_getBytes_840e7_22 (fun H locs hP hD hS => ?_)
  · rw [ez, Nat.zero_add]; rw [ec] at hi; exact hf i hi
  rw [ez, en, ec] at hP hD
  have M : bM G n0 _ s H locs := ⟨hP, hD, hS⟩
  refine lv_goto (tgt := 43) hx hb dJ0_getBytes_840e7_25 (by decide) ?_
  exact b_ret0 S M hr hlk ⟨rfl, rfl⟩ (by first | omega | (dsimp only; omega) | dsimp only) (by first | omega | (dsimp only; omega) | dsimp only) dJ0_getBytes_840e7_43
theorem k_J5_isLatin1_aae02 : gMV yJ5_isLatin1_aae02 cJ5_isLatin1_aae02 1 (some .boolean) 0 := ⟨tw_6_84, tw_1_24, by decide⟩
theorem c_J5_isLatin1_aae02 (l : Launch) (G : gT) (n0 : Nat) (ws : va_W) {q b k : Nat} {ml cnt : Int32} (hw : ws[k]? = some (q, .inr (1, [.ref b, .int 0, .int ml, .int cnt]))) : bCT l yJ5_isLatin1_aae02 cJ5_isLatin1_aae02 1 (some .boolean) { frames := 0, cells := 0, slots := 0, locals := 0 } G n0 [.ref q] ws (fun v ws' => v = some (.int 1) ∧ ws' = ws) := by
  refine bCT_of (by decide) (Nat.le_of_ble_eq_true rfl) (fun p e s m args below meth c ls S hr hlk hnm C0 hl H locs M => ?_)
  have hx := S.1
  have hb := S.2.1
  refine va_gets hx hb C0.2.2.1.2.2.2.2.2.2.2.2.2.1 M.2.2 S.2.2.2.1 (S.2.2.2.2 _ tw_6_19) (fun _ h => h) dJ5_isLatin1_aae02_0 ?_
  refine lv_if_eq (tgt := 17) hx hb dJ5_isLatin1_aae02_3 (by decide) (fun c1 => absurd c1 (by decide)) (fun c1 => ?_)
  refine lv_aload_n hx hb dJ5_isLatin1_aae02_6 rfl (lv_at hl 0 rfl) ?_
  refine b_get S C0 M inJ4 k (hw) rfl 1 (by decide) tw_6_28 rfl rfl dJ5_isLatin1_aae02_7 ?_
  refine lv_if_ne (tgt := 17) hx hb dJ5_isLatin1_aae02_10 (by decide) (fun c1 => absurd c1 (fun h => h rfl)) (fun c1 => ?_)
  refine lv_iconst (v := 1) hx hb dJ5_isLatin1_aae02_13 (by decide) ?_
  refine lv_goto (tgt := 18) hx hb dJ5_isLatin1_aae02_14 (by decide) ?_
  exact b_retZ S M hr hlk rfl ⟨rfl, rfl⟩ (by first | omega | (dsimp only; omega) | dsimp only) (by first | omega | (dsimp only; omega) | dsimp only) dJ5_isLatin1_aae02_18
theorem k_J5_inflateIfNeededFor_a7421 : gMV yJ5_inflateIfNeededFor_a7421 cJ5_inflateIfNeededFor_a7421 2 none 1 := ⟨tw_6_108, tw_1_24, by decide⟩
theorem c_J5_inflateIfNeededFor_a7421 (l : Launch) (G : gT) (n0 : Nat) {q b mm : Nat} {ml cnt : Int32} {f : Nat → Int32} {qs vs : Nat} {tx : List Int32} (hq : gStr G qs vs tx) : bCT l yJ5_inflateIfNeededFor_a7421 cJ5_inflateIfNeededFor_a7421 2 none { frames := 1, cells := 0, slots := 0, locals := 20 } G n0 [.ref q, .ref qs] (bB G q b ml cnt mm f) (fun v ws' => v = none ∧ ws' = bB G q b ml cnt mm f) := by
  refine bCT_of (by decide) (Nat.le_of_ble_eq_true rfl) (fun p e s m args below meth c ls S hr hlk hnm C0 hl H locs M => ?_)
  have hx := S.1
  have hb := S.2.1
  refine va_gets hx hb C0.2.2.1.2.2.2.2.2.2.2.2.2.1 M.2.2 S.2.2.2.1 (S.2.2.2.2 _ tw_6_19) (fun _ h => h) dJ5_inflateIfNeededFor_a7421_0 ?_
  refine lv_if_eq (tgt := 21) hx hb dJ5_inflateIfNeededFor_a7421_3 (by decide) (fun c1 => absurd c1 (by decide)) (fun c1 => ?_)
  refine lv_aload_n hx hb dJ5_inflateIfNeededFor_a7421_6 rfl (lv_at hl 0 rfl) ?_
  refine b_get S C0 M inJ4 0 (rfl) rfl 1 (by decide) tw_6_28 rfl rfl dJ5_inflateIfNeededFor_a7421_7 ?_
  refine lv_aload_n hx hb dJ5_inflateIfNeededFor_a7421_10 rfl (lv_at hl 1 rfl) ?_
  refine b_go1 M (b_virt (C := "java/lang/String") S M C0 hl (c_J0_coder_7d493 l G n0 _ hq) k_J0_coder_7d493 tw_4_196 tw_4_197 tw_6_109 (vk_recv (i := 0) (hq.1 _ _ C0.2.2.1) (by decide) M.2.2) rfl rfl rfl ⟨Nat.le_of_ble_eq_true rfl, Nat.le_of_ble_eq_true rfl⟩ ⟨(by first | omega | (dsimp only; omega) | dsimp only), (by first | omega | (dsimp only; omega) | dsimp only)⟩ dJ5_inflateIfNeededFor_a7421_11) (fun _ _ h => h) rfl rfl (fun H locs M => ?_)
  show W p l e _ s m args below meth c H locs _ _ _ (F0 m 14 ls [.int 0, .int 0])
  refine lv_icmp_eq (tgt := 21) hx hb dJ5_inflateIfNeededFor_a7421_14 (by decide) (fun c1 => ?_) (fun c1 => absurd rfl c1)
  exact b_ret0 S M hr hlk ⟨rfl, rfl⟩ (by first | omega | (dsimp only; omega) | dsimp only) (by first | omega | (dsimp only; omega) | dsimp only) dJ5_inflateIfNeededFor_a7421_21
theorem k_J5_putStringAt_47b60 : gMV yJ5_putStringAt_47b60 cJ5_putStringAt_47b60 3 none 2 := ⟨tw_6_104, tw_1_24, by decide⟩
theorem c_J5_putStringAt_47b60 (l : Launch) (G : gT) (n0 : Nat) {q b mm : Nat} {ml cnt : Int32} {f : Nat → Int32} {n : Nat} {qs vs : Nat} {tx : List Int32} (hq : gStr G qs vs tx) (hf : ∀ j, j < tx.length → fits .byte (.int (tx.getD j 0)) = true) (hm : n + tx.length ≤ mm) (hm2 : mm ≤ 65536) : bCT l yJ5_putStringAt_47b60 cJ5_putStringAt_47b60 3 none { frames := 2, cells := 0, slots := 0, locals := 83 } G n0 [.ref q, .int (nI n), .ref qs] (bB G q b ml cnt mm f) (fun v ws' => v = none ∧ ws' = bB G q b ml cnt mm (va_cpy (fun j => tx.getD j 0) f 0 n tx.length)) := by
  refine bCT_of (by decide) (Nat.le_of_ble_eq_true rfl) (fun p e s m args below meth c ls S hr hlk hnm C0 hl H locs M => ?_)
  have hx := S.1
  have hb := S.2.1
  refine lv_aload_n hx hb dJ5_putStringAt_47b60_0 rfl (lv_at hl 0 rfl) ?_
  refine lv_aload_n hx hb dJ5_putStringAt_47b60_1 rfl (lv_at hl 2 rfl) ?_
  refine b_go1 M (b_priv (C := RJ4) (x := yJ5_isLatin1_aae02) S M C0 hl (c_J5_inflateIfNeededFor_a7421 l G n0 hq) k_J5_inflateIfNeededFor_a7421 tw_6_107 (va_Nw.use rfl (C0.2.2.2.1.1 _ bPr_3)) (S.2.2.2.2 _ tw_6_83) rfl tw_6_105 (b_recv (ci := 1) (q := (RJ4, TJ4, 4)) C0 M 0 rfl rfl) rfl rfl rfl ⟨Nat.le_of_ble_eq_true rfl, Nat.le_of_ble_eq_true rfl⟩ ⟨(by first | omega | (dsimp only; omega) | dsimp only), (by first | omega | (dsimp only; omega) | dsimp only)⟩ dJ5_putStringAt_47b60_2) (fun _ _ h => h) rfl rfl (fun H locs M => ?_)
  show W p l e _ s m args below meth c H locs _ _ _ (F0 m 5 ls [])
  refine lv_aload_n hx hb dJ5_putStringAt_47b60_5 rfl (lv_at hl 2 rfl) ?_
  refine lv_aload_n hx hb dJ5_putStringAt_47b60_6 rfl (lv_at hl 0 rfl) ?_
  refine b_get S C0 M inJ4 0 (rfl) rfl 0 (by decide) tw_6_27 rfl rfl dJ5_putStringAt_47b60_7 ?_
  refine lv_iload_n hx hb dJ5_putStringAt_47b60_10 rfl (lv_at hl 1 rfl) ?_
  refine lv_aload_n hx hb dJ5_putStringAt_47b60_11 rfl (lv_at hl 0 rfl) ?_
  refine b_get S C0 M inJ4 0 (rfl) rfl 1 (by decide) tw_6_28 rfl rfl dJ5_putStringAt_47b60_12 ?_
  refine b_go1 M (b_virt (C := "java/lang/String") S M C0 hl (c_J0_getBytes_840e7 l G n0 _ (k := 1) rfl hq hf hm hm2) k_J0_getBytes_840e7 tw_6_130 tw_6_131 tw_6_129 (vk_recv (i := 0) (hq.1 _ _ C0.2.2.1) (by decide) M.2.2) rfl rfl rfl ⟨Nat.le_of_ble_eq_true rfl, Nat.le_of_ble_eq_true rfl⟩ ⟨(by first | omega | (dsimp only; omega) | dsimp only), (by first | omega | (dsimp only; omega) | dsimp only)⟩ dJ5_putStringAt_47b60_15) (fun _ _ h => h) rfl rfl (fun H locs M => ?_)
  show W p l e _ s m args below meth c H locs _ _ _ (F0 m 18 ls [])
  exact b_ret0 S M hr hlk ⟨rfl, rfl⟩ (by first | omega | (dsimp only; omega) | dsimp only) (by first | omega | (dsimp only; omega) | dsimp only) dJ5_putStringAt_47b60_18
theorem k_J8_newLength_cabcc : gMV yJ8_newLength_cabcc cJ8_newLength_cabcc 4 (some .int) 3 := ⟨tw_6_61, tw_1_27, by decide⟩
theorem c_J8_newLength_cabcc (l : Launch) (G : gT) (n0 : Nat) (ws : va_W) {mm d p1 r : Nat} (e3 : nI mm + (if nI d < nI p1 then nI p1 else nI d) = nI r) (h0 : 0 < r) (hr9 : r ≤ 65536) : bCT l yJ8_newLength_cabcc cJ8_newLength_cabcc 4 (some .int) { frames := 1, cells := 0, slots := 0, locals := 24 } G n0 [.int (nI mm), .int (nI d), .int (nI p1)] ws (fun v ws' => v = some (.int (nI r)) ∧ ws' = ws) := by
  refine bCT_of (by decide) (Nat.le_of_ble_eq_true rfl) (fun p e s m args below meth c ls S hr hlk hnm C0 hl H locs M => ?_)
  have hx := S.1
  have hb := S.2.1
  refine lv_iload_n hx hb dJ8_newLength_cabcc_0 rfl (lv_at hl 0 rfl) ?_
  refine lv_iload_n hx hb dJ8_newLength_cabcc_1 rfl (lv_at hl 1 rfl) ?_
  refine lv_iload_n hx hb dJ8_newLength_cabcc_2 rfl (lv_at hl 2 rfl) ?_
  refine va_mmax hx hb (S.2.2.1.trans hl.1.symm) S.2.2.2.1 (S.2.2.2.2 _ tw_6_62) (S.2.2.2.2 _ tw_4_39) (S.2.2.2.2 _ tw_1_23) (S.2.2.2.2 _ tw_4_40) (Nat.le_of_ble_eq_true rfl) (Nat.le_of_ble_eq_true rfl) (by first | omega | (dsimp only; omega) | dsimp only) (by first | omega | (dsimp only; omega) | dsimp only) dJ8_newLength_cabcc_3 ?_
  refine lv_iadd hx hb dJ8_newLength_cabcc_6 ?_
  rw [e3]
  refine lv_istore_n (lv' := [(3, .int (nI r)), (0, .int (nI mm)), (1, .int (nI d)), (2, .int (nI p1))]) hx hb dJ8_newLength_cabcc_7 rfl hl (by decide) rfl (fun ls hl => ?_)
  refine lv_iconst (v := 0) hx hb dJ8_newLength_cabcc_8 (by decide) ?_
  refine lv_iload_n hx hb dJ8_newLength_cabcc_9 rfl (lv_at hl 0 rfl) ?_
  refine lv_icmp_ge (tgt := 21) hx hb dJ8_newLength_cabcc_10 (by decide) (fun c1 => absurd c1 (nI_nle (by omega) (by omega))) (fun c1 => ?_)
  refine lv_iload_n hx hb dJ8_newLength_cabcc_13 rfl (lv_at hl 0 rfl) ?_
  refine lv_ldc hx hb S.2.2.2.1 (S.2.2.2.2 _ tw_6_63) dJ8_newLength_cabcc_14 ?_
  refine lv_icmp_gt (tgt := 21) hx hb dJ8_newLength_cabcc_16 (by decide) (fun c1 => absurd c1 (show ¬ nI 2147483639 < nI r from nI_nlt (by omega) (by decide))) (fun c1 => ?_)
  refine lv_iload_n hx hb dJ8_newLength_cabcc_19 rfl (lv_at hl 0 rfl) ?_
  exact b_retI S M hr hlk ⟨rfl, rfl⟩ (by first | omega | (dsimp only; omega) | dsimp only) (by first | omega | (dsimp only; omega) | dsimp only) dJ8_newLength_cabcc_20
theorem k_J5_newCapacity_0f7a4 : gMV yJ5_newCapacity_0f7a4 cJ5_newCapacity_0f7a4 6 (some .int) 1 := ⟨tw_6_58, tw_1_24, by decide⟩
theorem c_J5_newCapacity_0f7a4 (l : Launch) (G : gT) (n0 : Nat) {q b mm : Nat} {ml cnt : Int32} {f : Nat → Int32} {q1 : Nat} (h : mm < q1) (hm : mm ≤ 65536) (hc : sb_cap q1 mm ≤ 65536) (hq1 : q1 ≤ 131072) : bCT l yJ5_newCapacity_0f7a4 cJ5_newCapacity_0f7a4 6 (some .int) { frames := 2, cells := 0, slots := 0, locals := 47 } G n0 [.ref q, .int (nI q1)] (bB G q b ml cnt mm f) (fun v ws' => v = some (.int (nI (sb_cap q1 mm))) ∧ ws' = bB G q b ml cnt mm f) := by
  have e1 : nI q1 - nI mm = nI (q1 - mm) := pk_sub (by omega)
  have e2 : nI mm + 2 = nI (mm + 2) := nI_add mm 2
  have hcap : sb_cap q1 mm = mm + (if q1 - mm < mm + 2 then mm + 2 else q1 - mm) := by
    unfold sb_cap
    rw [if_neg (by omega)]
    split <;> split <;> omega
  have h0 : 0 < sb_cap q1 mm := by have := sb_cap_ge q1 mm; omega
  have e3 : nI mm + (if nI (q1 - mm) < nI (mm + 2) then nI (mm + 2) else nI (q1 - mm)) = nI (sb_cap q1 mm) := by
    rw [hcap]
    by_cases h2 : q1 - mm < mm + 2
    · rw [if_pos h2, if_pos (nI_lt h2 (by omega))]
      exact nI_add mm (mm + 2)
    · rw [if_neg h2, if_neg (nI_nlt (by omega) (by omega))]
      exact nI_add mm (q1 - mm)
  refine bCT_of (by decide) (Nat.le_of_ble_eq_true rfl) (fun p e s m args below meth c ls S hr hlk hnm C0 hl H locs M => ?_)
  have hx := S.1
  have hb := S.2.1
  refine lv_aload_n hx hb dJ5_newCapacity_0f7a4_0 rfl (lv_at hl 0 rfl) ?_
  refine b_get S C0 M inJ4 0 (rfl) rfl 0 (by decide) tw_6_27 rfl rfl dJ5_newCapacity_0f7a4_1 ?_
  refine b_alen S C0 M 1 (rfl) (t := 5) rfl (v := nI mm) rfl dJ5_newCapacity_0f7a4_4 ?_
  refine lv_istore_n (lv' := [(2, .int (nI mm)), (0, .ref q), (1, .int (nI q1))]) hx hb dJ5_newCapacity_0f7a4_5 rfl hl (by decide) rfl (fun ls hl => ?_)
  refine lv_iload_n hx hb dJ5_newCapacity_0f7a4_6 rfl (lv_at hl 2 rfl) ?_
  refine lv_aload_n hx hb dJ5_newCapacity_0f7a4_7 rfl (lv_at hl 1 rfl) ?_
  refine b_get S C0 M inJ4 0 (rfl) rfl 1 (by decide) tw_6_28 rfl rfl dJ5_newCapacity_0f7a4_8 ?_
  refine lv_ishl hx hb dJ5_newCapacity_0f7a4_11 ?_
  rw [sb_shl0]
  refine lv_istore_n (lv' := [(3, .int (nI q1)), (2, .int (nI mm)), (0, .ref q), (1, .int (nI q1))]) hx hb dJ5_newCapacity_0f7a4_12 rfl hl (by decide) rfl (fun ls hl => ?_)
  refine lv_iload_n hx hb dJ5_newCapacity_0f7a4_13 rfl (lv_at hl 0 rfl) ?_
  refine lv_iload_n hx hb dJ5_newCapacity_0f7a4_14 rfl (lv_at hl 1 rfl) ?_
  refine lv_isub hx hb dJ5_newCapacity_0f7a4_15 ?_
  rw [e1]
  refine lv_istore (lv' := [(4, .int (nI (q1 - mm))), (3, .int (nI q1)), (2, .int (nI mm)), (0, .ref q), (1, .int (nI q1))]) hx hb dJ5_newCapacity_0f7a4_16 hl (by decide) rfl (fun ls hl => ?_)
  refine lv_iload_n hx hb dJ5_newCapacity_0f7a4_18 rfl (lv_at hl 2 rfl) ?_
  refine lv_iload hx hb dJ5_newCapacity_0f7a4_19 (lv_at hl 0 rfl) ?_
  refine lv_iload_n hx hb dJ5_newCapacity_0f7a4_21 rfl (lv_at hl 2 rfl) ?_
  refine lv_iconst (v := 2) hx hb dJ5_newCapacity_0f7a4_22 (by decide) ?_
  refine lv_aload_n hx hb dJ5_newCapacity_0f7a4_23 rfl (lv_at hl 3 rfl) ?_
  refine b_get S C0 M inJ4 0 (rfl) rfl 1 (by decide) tw_6_28 rfl rfl dJ5_newCapacity_0f7a4_24 ?_
  refine lv_ishl hx hb dJ5_newCapacity_0f7a4_27 ?_
  rw [sb_shl0]
  refine lv_iadd hx hb dJ5_newCapacity_0f7a4_28 ?_
  rw [e2]
  refine b_go1 M (b_stat S M C0 hl (c_J8_newLength_cabcc l G n0 _ e3 h0 hc) k_J8_newLength_cabcc tw_6_60 tw_6_59 rfl rfl rfl ⟨Nat.le_of_ble_eq_true rfl, Nat.le_of_ble_eq_true rfl⟩ ⟨(by first | omega | (dsimp only; omega) | dsimp only), (by first | omega | (dsimp only; omega) | dsimp only)⟩ dJ5_newCapacity_0f7a4_29) (fun _ _ h => h) rfl rfl (fun H locs M => ?_)
  show W p l e _ s m args below meth c H locs _ _ _ (F0 m 32 ls [.int (nI (sb_cap q1 mm))])
  refine lv_istore (lv' := [(5, .int (nI (sb_cap q1 mm))), (4, .int (nI (q1 - mm))), (3, .int (nI q1)), (2, .int (nI mm)), (0, .ref q), (1, .int (nI q1))]) hx hb dJ5_newCapacity_0f7a4_32 hl (by decide) rfl (fun ls hl => ?_)
  refine lv_iload hx hb dJ5_newCapacity_0f7a4_34 (lv_at hl 0 rfl) ?_
  refine lv_ldc hx hb S.2.2.2.1 (S.2.2.2.2 _ tw_6_67) dJ5_newCapacity_0f7a4_36 ?_
  refine lv_icmp_ne (tgt := 51) hx hb dJ5_newCapacity_0f7a4_38 (by decide) (fun c1 => ?_) (fun c1 => absurd c1 (show ¬ nI (sb_cap q1 mm) = 2147483647 from fun z9 => by have := (nI_eq (a := sb_cap q1 mm) (b := 2147483647) (by omega) (by decide)).mp z9; omega))
  refine lv_iload hx hb dJ5_newCapacity_0f7a4_51 (lv_at hl 0 rfl) ?_
  refine lv_aload_n hx hb dJ5_newCapacity_0f7a4_53 rfl (lv_at hl 4 rfl) ?_
  refine b_get S C0 M inJ4 0 (rfl) rfl 1 (by decide) tw_6_28 rfl rfl dJ5_newCapacity_0f7a4_54 ?_
  refine lv_ishr hx hb dJ5_newCapacity_0f7a4_57 ?_
  rw [sb_shr0]
  exact b_retI S M hr hlk ⟨rfl, rfl⟩ (by first | omega | (dsimp only; omega) | dsimp only) (by first | omega | (dsimp only; omega) | dsimp only) dJ5_newCapacity_0f7a4_58
theorem k_J7_copyOf_9075b : gMV yJ7_copyOf_9075b cJ7_copyOf_9075b 3 (some (.array .byte)) 2 := ⟨tw_6_70, tw_1_28, by decide⟩
theorem c_J7_copyOf_9075b (l : Launch) (G : gT) (n0 : Nat) (ws : va_W) {b mm q1 k ms : Nat} {f : Nat → Int32} (hw : ws[k]? = some (b, .inl (G.2.1 5, mm, .inl f))) (h : mm < q1) (hq : q1 ≤ 65536) (hf : sb_Fit f) (hms : q1 ≤ ms) : bCT l yJ7_copyOf_9075b cJ7_copyOf_9075b 3 (some (.array .byte)) { frames := 1, cells := 1, slots := ms, locals := 60 } G n0 [.ref b, .int (nI q1)] ws (fun v ws' => ∃ b2, v = some (.ref b2) ∧ ws' = ws ++ [(b2, .inl (G.2.1 5, q1, .inl (va_cpy f (fun _ => 0) 0 0 mm)))]) := by
  refine bCT_of (by decide) (Nat.le_of_ble_eq_true rfl) (fun p e s m args below meth c ls S hr hlk hnm C0 hl H locs M => ?_)
  have hx := S.1
  have hb := S.2.1
  refine lv_iload_n hx hb dJ7_copyOf_9075b_0 rfl (lv_at hl 1 rfl) ?_
  refine lv_aload_n hx hb dJ7_copyOf_9075b_1 rfl (lv_at hl 0 rfl) ?_
  refine b_alen S C0 M k (hw) (t := 5) rfl (v := nI mm) rfl dJ7_copyOf_9075b_2 ?_
  refine lv_icmp_ne (tgt := 14) hx hb dJ7_copyOf_9075b_3 (by decide) (fun c1 => ?_) (fun c1 => absurd c1 (show ¬ nI q1 = nI mm from fun z => by have := (nI_eq (a := q1) (b := mm) (by omega) (by omega)).mp z; omega))
  refine lv_iload_n hx hb dJ7_copyOf_9075b_14 rfl (lv_at hl 1 rfl) ?_
  refine b_newb S C0 M tw_2_165 (nI_pos (by omega)) (nI_clamp (by omega)) (by omega) (by first | omega | (dsimp only; omega) | dsimp only) (by first | omega | (dsimp only; omega) | dsimp only) rfl rfl dJ7_copyOf_9075b_15 (fun b2 H M => ?_)
  refine lv_astore_n (lv' := [(2, .ref b2), (0, .ref b), (1, .int (nI q1))]) hx hb dJ7_copyOf_9075b_17 rfl hl (by decide) rfl (fun ls hl => ?_)
  refine lv_aload_n hx hb dJ7_copyOf_9075b_18 rfl (lv_at hl 1 rfl) ?_
  refine lv_iconst (v := 0) hx hb dJ7_copyOf_9075b_19 (by decide) ?_
  refine lv_aload_n hx hb dJ7_copyOf_9075b_20 rfl (lv_at hl 0 rfl) ?_
  refine lv_iconst (v := 0) hx hb dJ7_copyOf_9075b_21 (by decide) ?_
  refine lv_aload_n hx hb dJ7_copyOf_9075b_22 rfl (lv_at hl 1 rfl) ?_
  have hk : k < ws.length := (List.getElem?_eq_some_iff.mp hw).1
  have hw9 : (ws ++ [(b2, .inl (G.2.1 5, q1, .inl (fun _ => 0)))])[k]? = some (b, .inl (G.2.1 5, mm, .inl f)) := by rw [List.getElem?_append_left hk]; exact hw
  have hw8 : (ws ++ [((b2, .inl (G.2.1 5, q1, .inl (fun _ => 0))) : Nat × va_E)])[ws.length]? = some (b2, .inl (G.2.1 5, q1, .inl (fun _ => 0))) := by rw [List.getElem?_append_right (Nat.le_refl _), Nat.sub_self]; rfl
  refine b_alen S C0 M k (hw9) (t := 5) rfl (v := nI mm) rfl dJ7_copyOf_9075b_23 ?_
  refine lv_iload_n hx hb dJ7_copyOf_9075b_24 rfl (lv_at hl 2 rfl) ?_
  refine va_mmin hx hb (S.2.2.1.trans hl.1.symm) S.2.2.2.1 (S.2.2.2.2 _ tw_6_78) (S.2.2.2.2 _ tw_2_235) (S.2.2.2.2 _ tw_1_23) (S.2.2.2.2 _ tw_2_236) (Nat.le_of_ble_eq_true rfl) (Nat.le_of_ble_eq_true rfl) (by first | omega | (dsimp only; omega) | dsimp only) (by first | omega | (dsimp only; omega) | dsimp only) dJ7_copyOf_9075b_25 ?_
  rw [if_neg (nI_nlt (a := q1) (b := mm) (by omega) (by omega))]
  have ec : (nI mm).toNatClampNeg = mm := nI_clamp (by omega)
  have ez : (0 : Int32).toNatClampNeg = 0 := sb_cl0
  refine va_copyi (ty := .byte) hx hb (S.2.2.1.trans hl.1.symm) S.2.2.2.1 (S.2.2.2.2 _ tw_6_79) (S.2.2.2.2 _ tw_2_53) (S.2.2.2.2 _ tw_2_52) (S.2.2.2.2 _ tw_1_18) C0.2.1 M.1 M.2.1 M.2.2 k ws.length 5 5 (hw9) (hw8) rfl rfl rfl (by decide) (by decide) (nI_pos (by omega)) (by rw [ez, ec]; omega) (by rw [ez, ec]; omega) (fun i _ => hf _) (Nat.le_of_ble_eq_true rfl) (Nat.le_of_ble_eq_true rfl) dJ7_copyOf_9075b_28 (fun H locs hP hD hS => ?_)
  rw [ez, ec] at hP hD
  rw [b_set_last] at hP hD
  have M : bM G n0 (ws ++ [(b2, .inl (G.2.1 5, q1, .inl (va_cpy f (fun _ => 0) 0 0 mm)))]) s H locs := ⟨hP, hD, hS⟩
  refine lv_aload_n hx hb dJ7_copyOf_9075b_31 rfl (lv_at hl 0 rfl) ?_
  exact b_retA S M hr (Or.inr ⟨_, rfl⟩) hlk ⟨b2, rfl, rfl⟩ (by first | omega | (dsimp only; omega) | dsimp only) (by first | omega | (dsimp only; omega) | dsimp only) dJ7_copyOf_9075b_32
theorem k_J5_ensureCapacityInternal_d00df : gMV yJ5_ensureCapacityInternal_d00df cJ5_ensureCapacityInternal_d00df 3 none 1 := ⟨tw_6_54, tw_1_24, by decide⟩
theorem c_J5_ensureCapacityInternal_d00df (l : Launch) (G : gT) (n0 : Nat) {q b mm : Nat} {ml cnt : Int32} {f : Nat → Int32} {q1 ms : Nat} (hm : mm ≤ 65536) (hq1 : q1 ≤ 131072) (hf : sb_Fit f) (hr9 : q1 ≤ mm ∨ (sb_cap q1 mm ≤ ms ∧ sb_cap q1 mm ≤ 65536)) : bCT l yJ5_ensureCapacityInternal_d00df cJ5_ensureCapacityInternal_d00df 3 none { frames := 3, cells := 1, slots := ms, locals := 82 } G n0 [.ref q, .int (nI q1)] (bB G q b ml cnt mm f) (fun v ws' => ∃ b' f', v = none ∧ ws' = bB G q b' ml cnt (sb_cap q1 mm) f' ∧ sb_Fit f' ∧ ∀ j, j < mm → f' j = f j) := by
  have e1 : (nI q1 - nI mm).toInt = (q1 : Int) - mm := pk_sub_toInt (by omega) (by omega)
  refine bCT_of (by decide) (Nat.le_of_ble_eq_true rfl) (fun p e s m args below meth c ls S hr hlk hnm C0 hl H locs M => ?_)
  have hx := S.1
  have hb := S.2.1
  refine lv_aload_n hx hb dJ5_ensureCapacityInternal_d00df_0 rfl (lv_at hl 0 rfl) ?_
  refine b_get S C0 M inJ4 0 (rfl) rfl 0 (by decide) tw_6_27 rfl rfl dJ5_ensureCapacityInternal_d00df_1 ?_
  refine b_alen S C0 M 1 (rfl) (t := 5) rfl (v := nI mm) rfl dJ5_ensureCapacityInternal_d00df_4 ?_
  refine lv_aload_n hx hb dJ5_ensureCapacityInternal_d00df_5 rfl (lv_at hl 0 rfl) ?_
  refine b_get S C0 M inJ4 0 (rfl) rfl 1 (by decide) tw_6_28 rfl rfl dJ5_ensureCapacityInternal_d00df_6 ?_
  refine lv_ishr hx hb dJ5_ensureCapacityInternal_d00df_9 ?_
  rw [sb_shr0]
  refine lv_istore_n (lv' := [(2, .int (nI mm)), (0, .ref q), (1, .int (nI q1))]) hx hb dJ5_ensureCapacityInternal_d00df_10 rfl hl (by decide) rfl (fun ls hl => ?_)
  refine lv_iload_n hx hb dJ5_ensureCapacityInternal_d00df_11 rfl (lv_at hl 2 rfl) ?_
  refine lv_iload_n hx hb dJ5_ensureCapacityInternal_d00df_12 rfl (lv_at hl 0 rfl) ?_
  refine lv_isub hx hb dJ5_ensureCapacityInternal_d00df_13 ?_
  by_cases h : q1 ≤ mm
  · refine lv_if_le (tgt := 38) hx hb dJ5_ensureCapacityInternal_d00df_14 (by decide) (fun c1 => ?_) (fun c1 => absurd (by rw [Int32.le_iff_toInt_le, e1, Int32.toInt_zero]; omega) c1)
    exact b_ret0 S M hr hlk ⟨b, f, rfl, by rw [sb_cap, if_pos h], hf, fun _ _ => rfl⟩ (Nat.zero_le _) (Nat.zero_le _) dJ5_ensureCapacityInternal_d00df_38
  obtain ⟨hr1, hr2⟩ := hr9.resolve_left h
  have hg := sb_cap_ge q1 mm
  refine lv_if_le (tgt := 38) hx hb dJ5_ensureCapacityInternal_d00df_14 (by decide) (fun c1 => absurd c1 (fun hc => h (by rw [Int32.le_iff_toInt_le, e1, Int32.toInt_zero] at hc; omega))) (fun c1 => ?_)
  refine lv_aload_n hx hb dJ5_ensureCapacityInternal_d00df_17 rfl (lv_at hl 1 rfl) ?_
  refine lv_aload_n hx hb dJ5_ensureCapacityInternal_d00df_18 rfl (lv_at hl 1 rfl) ?_
  refine b_get S C0 M inJ4 0 (rfl) rfl 0 (by decide) tw_6_27 rfl rfl dJ5_ensureCapacityInternal_d00df_19 ?_
  refine lv_aload_n hx hb dJ5_ensureCapacityInternal_d00df_22 rfl (lv_at hl 1 rfl) ?_
  refine lv_iload_n hx hb dJ5_ensureCapacityInternal_d00df_23 rfl (lv_at hl 2 rfl) ?_
  refine b_go1 M (b_priv (C := RJ4) (x := yJ5_isLatin1_aae02) S M C0 hl (c_J5_newCapacity_0f7a4 l G n0 (by omega) hm hr2 hq1) k_J5_newCapacity_0f7a4 tw_6_57 (va_Nw.use rfl (C0.2.2.2.1.1 _ bPr_1)) (S.2.2.2.2 _ tw_6_83) rfl tw_6_55 (b_recv (ci := 1) (q := (RJ4, TJ4, 4)) C0 M 0 rfl rfl) rfl rfl rfl ⟨Nat.le_of_ble_eq_true rfl, Nat.le_of_ble_eq_true rfl⟩ ⟨(by first | omega | (dsimp only; omega) | dsimp only), (by first | omega | (dsimp only; omega) | dsimp only)⟩ dJ5_ensureCapacityInternal_d00df_24) (fun _ _ h => h) rfl rfl (fun H locs M => ?_)
  show W p l e _ s m args below meth c H locs _ _ _ (F0 m 27 ls [.int (nI (sb_cap q1 mm)), .ref b, .ref q])
  refine lv_aload_n hx hb dJ5_ensureCapacityInternal_d00df_27 rfl (lv_at hl 1 rfl) ?_
  refine b_get S C0 M inJ4 0 (rfl) rfl 1 (by decide) tw_6_28 rfl rfl dJ5_ensureCapacityInternal_d00df_28 ?_
  refine lv_ishl hx hb dJ5_ensureCapacityInternal_d00df_31 ?_
  rw [sb_shl0]
  refine b_go M (b_stat S M C0 hl (c_J7_copyOf_9075b l G n0 _ (k := 1) (ms := ms) rfl (by omega) hr2 hf hr1) k_J7_copyOf_9075b tw_6_69 tw_6_68 rfl rfl rfl ⟨Nat.le_of_ble_eq_true rfl, Nat.le_of_ble_eq_true rfl⟩ ⟨(by first | omega | (dsimp only; omega) | dsimp only), (by first | omega | (dsimp only; omega) | dsimp only)⟩ dJ5_ensureCapacityInternal_d00df_32) rfl rfl (fun v ws1 H locs hp M => ?_)
  obtain ⟨b2, rfl, rfl⟩ := hp
  show W p l e _ s m args below meth c H locs _ _ _ (F0 m 35 ls [.ref b2, .ref q])
  refine b_put (ws' := [(q, .inr (1, [.ref b2, .int 0, .int ml, .int cnt])), (b, .inl (G.2.1 5, mm, .inl f)), (b2, .inl (G.2.1 5, sb_cap q1 mm, .inl (va_cpy f (fun _ => 0) 0 0 mm)))]) S C0 M inJ4 tyJ4 tyJ4_ok nmJ4 0 rfl rfl 0 (by decide) tw_6_27 rfl rfl rfl rfl (Nat.le_of_ble_eq_true rfl) rfl dJ5_ensureCapacityInternal_d00df_35 (fun H locs M => ?_)
  have M : bM G n0 (bB G q b2 ml cnt (sb_cap q1 mm) (va_cpy f (fun _ => 0) 0 0 mm)) s H locs := M.sub [0, 2] rfl rfl
  exact b_ret0 S M hr hlk ⟨b2, _, rfl, rfl, sb_fitC hf sb_fit0, fun j hj => sb_cpy0 hj⟩ (by first | omega | (dsimp only; omega) | dsimp only) (by first | omega | (dsimp only; omega) | dsimp only) dJ5_ensureCapacityInternal_d00df_38
theorem k_J5_append_cf1ce : gMV yJ5_append_cf1ce cJ5_append_cf1ce 3 (some (.object "java/lang/AbstractStringBuilder")) 1 := ⟨tw_6_46, tw_1_24, by decide⟩
theorem c_J5_append_cf1ce (l : Launch) (G : gT) (n0 : Nat) {q b mm n : Nat} {ml : Int32} {f : Nat → Int32} {qs vs : Nat} {tx : List Int32} (hq : gStr G qs vs tx) {ms : Nat} (hle : n ≤ mm) (hm : mm ≤ 65536) (hf : sb_Fit f) (hft : ∀ j, j < tx.length → fits .byte (.int (tx.getD j 0)) = true) (hr9 : n + tx.length ≤ mm ∨ (sb_cap (n + tx.length) mm ≤ ms ∧ sb_cap (n + tx.length) mm ≤ 65536)) : bCT l yJ5_append_cf1ce cJ5_append_cf1ce 3 (some (.object "java/lang/AbstractStringBuilder")) { frames := 4, cells := 1, slots := ms, locals := 105 } G n0 [.ref q, .ref qs] (bB G q b ml (nI n) mm f) (fun v ws' => ∃ b' f', v = some (.ref q) ∧ ws' = bB G q b' ml (nI (n + tx.length)) (sb_cap (n + tx.length) mm) f' ∧ sb_Fit f' ∧ (∀ j, j < n → f' j = f j) ∧ ∀ j, j < tx.length → f' (n + j) = tx.getD j 0) := by
  have hlen := hq.2.1
  have hcl : sb_cap (n + tx.length) mm ≤ 65536 := by
    rcases hr9 with h | h
    · rw [sb_cap, if_pos h]; exact hm
    · exact h.2
  refine bCT_of (by decide) (Nat.le_of_ble_eq_true rfl) (fun p e s m args below meth c ls S hr hlk hnm C0 hl H locs M => ?_)
  have hx := S.1
  have hb := S.2.1
  refine lv_aload_n hx hb dJ5_append_cf1ce_0 rfl (lv_at hl 1 rfl) ?_
  refine lv_ifnonnull (tgt := 9) hx hb dJ5_append_cf1ce_1 (by decide) ?_
  refine lv_aload_n hx hb dJ5_append_cf1ce_9 rfl (lv_at hl 1 rfl) ?_
  refine b_go1 M (b_virt (C := "java/lang/String") S M C0 hl (c_J0_length_8abf5 l G n0 _ hq) k_J0_length_8abf5 tw_4_192 tw_4_193 tw_6_100 (vk_recv (i := 0) (hq.1 _ _ C0.2.2.1) (by decide) M.2.2) rfl rfl rfl ⟨Nat.le_of_ble_eq_true rfl, Nat.le_of_ble_eq_true rfl⟩ ⟨(by first | omega | (dsimp only; omega) | dsimp only), (by first | omega | (dsimp only; omega) | dsimp only)⟩ dJ5_append_cf1ce_10) (fun _ _ h => h) rfl rfl (fun H locs M => ?_)
  show W p l e _ s m args below meth c H locs _ _ _ (F0 m 13 ls [.int (nI tx.length)])
  refine lv_istore_n (lv' := [(2, .int (nI tx.length)), (0, .ref q), (1, .ref qs)]) hx hb dJ5_append_cf1ce_13 rfl hl (by decide) rfl (fun ls hl => ?_)
  refine lv_aload_n hx hb dJ5_append_cf1ce_14 rfl (lv_at hl 1 rfl) ?_
  refine lv_aload_n hx hb dJ5_append_cf1ce_15 rfl (lv_at hl 1 rfl) ?_
  refine b_get S C0 M inJ4 0 (rfl) rfl 3 (by decide) tw_6_30 rfl rfl dJ5_append_cf1ce_16 ?_
  refine lv_iload_n hx hb dJ5_append_cf1ce_19 rfl (lv_at hl 0 rfl) ?_
  refine lv_iadd hx hb dJ5_append_cf1ce_20 ?_
  rw [nI_add]
  refine b_go M (b_priv (C := RJ4) (x := yJ5_isLatin1_aae02) S M C0 hl (c_J5_ensureCapacityInternal_d00df l G n0 (ms := ms) hm (by omega) hf hr9) k_J5_ensureCapacityInternal_d00df tw_6_53 (va_Nw.use rfl (C0.2.2.2.1.1 _ bPr_0)) (S.2.2.2.2 _ tw_6_83) rfl tw_6_51 (b_recv (ci := 1) (q := (RJ4, TJ4, 4)) C0 M 0 rfl rfl) rfl rfl rfl ⟨Nat.le_of_ble_eq_true rfl, Nat.le_of_ble_eq_true rfl⟩ ⟨(by first | omega | (dsimp only; omega) | dsimp only), (by first | omega | (dsimp only; omega) | dsimp only)⟩ dJ5_append_cf1ce_21) rfl rfl (fun v ws1 H locs hp M => ?_)
  obtain ⟨b1, f1, rfl, rfl, hf1, hk1⟩ := hp
  show W p l e _ s m args below meth c H locs _ _ _ (F0 m 24 ls [])
  refine lv_aload_n hx hb dJ5_append_cf1ce_24 rfl (lv_at hl 1 rfl) ?_
  refine lv_aload_n hx hb dJ5_append_cf1ce_25 rfl (lv_at hl 1 rfl) ?_
  refine b_get S C0 M inJ4 0 (rfl) rfl 3 (by decide) tw_6_30 rfl rfl dJ5_append_cf1ce_26 ?_
  refine lv_aload_n hx hb dJ5_append_cf1ce_29 rfl (lv_at hl 2 rfl) ?_
  refine b_go1 M (b_priv (C := RJ4) (x := yJ5_isLatin1_aae02) S M C0 hl (c_J5_putStringAt_47b60 l G n0 hq hft (sb_cap_ge _ _) hcl) k_J5_putStringAt_47b60 tw_6_103 (va_Nw.use rfl (C0.2.2.2.1.1 _ bPr_2)) (S.2.2.2.2 _ tw_6_83) rfl tw_6_101 (b_recv (ci := 1) (q := (RJ4, TJ4, 4)) C0 M 0 rfl rfl) rfl rfl rfl ⟨Nat.le_of_ble_eq_true rfl, Nat.le_of_ble_eq_true rfl⟩ ⟨(by first | omega | (dsimp only; omega) | dsimp only), (by first | omega | (dsimp only; omega) | dsimp only)⟩ dJ5_append_cf1ce_30) (fun _ _ h => h) rfl rfl (fun H locs M => ?_)
  show W p l e _ s m args below meth c H locs _ _ _ (F0 m 33 ls [])
  refine lv_aload_n hx hb dJ5_append_cf1ce_33 rfl (lv_at hl 1 rfl) ?_
  refine lv_dup hx hb dJ5_append_cf1ce_34 rfl ?_
  refine b_get S C0 M inJ4 0 (rfl) rfl 3 (by decide) tw_6_30 rfl rfl dJ5_append_cf1ce_35 ?_
  refine lv_iload_n hx hb dJ5_append_cf1ce_38 rfl (lv_at hl 0 rfl) ?_
  refine lv_iadd hx hb dJ5_append_cf1ce_39 ?_
  rw [nI_add]
  refine b_put (ws' := (bB G q b1 ml (nI (n + tx.length)) (sb_cap (n + tx.length) mm) (va_cpy (fun j => tx.getD j 0) f1 0 n tx.length))) S C0 M inJ4 tyJ4 tyJ4_ok nmJ4 0 rfl rfl 3 (by decide) tw_6_30 rfl rfl rfl rfl (Nat.le_of_ble_eq_true rfl) rfl dJ5_append_cf1ce_40 (fun H locs M => ?_)
  refine lv_aload_n hx hb dJ5_append_cf1ce_43 rfl (lv_at hl 1 rfl) ?_
  exact b_retA S M hr (Or.inl ⟨_, rfl⟩) hlk ⟨b1, _, rfl, rfl, sb_fitC (b_fitT hft) hf1, fun j hj => (pk_cpy_out (Or.inl hj)).trans (hk1 j (by omega)), fun j hj => by rw [pk_cpy_in (by omega) (by omega), show 0 + (n + j - n) = j by omega]⟩ (by first | omega | (dsimp only; omega) | dsimp only) (by first | omega | (dsimp only; omega) | dsimp only) dJ5_append_cf1ce_44
theorem k_J4_append_15ec4 : gMV yJ4_append_15ec4 cJ4_append_15ec4 2 (some (.object "java/lang/StringBuilder")) 1 := ⟨tw_6_43, tw_1_25, by decide⟩
theorem c_J4_append_15ec4 (l : Launch) (G : gT) (n0 : Nat) {q b mm n : Nat} {ml : Int32} {f : Nat → Int32} {qs vs : Nat} {tx : List Int32} (hq : gStr G qs vs tx) {ms : Nat} (hle : n ≤ mm) (hm : mm ≤ 65536) (hf : sb_Fit f) (hft : ∀ j, j < tx.length → fits .byte (.int (tx.getD j 0)) = true) (hr9 : n + tx.length ≤ mm ∨ (sb_cap (n + tx.length) mm ≤ ms ∧ sb_cap (n + tx.length) mm ≤ 65536)) : bCT l yJ4_append_15ec4 cJ4_append_15ec4 2 (some (.object "java/lang/StringBuilder")) { frames := 5, cells := 1, slots := ms, locals := 127 } G n0 [.ref q, .ref qs] (bB G q b ml (nI n) mm f) (fun v ws' => ∃ b' f', v = some (.ref q) ∧ ws' = bB G q b' ml (nI (n + tx.length)) (sb_cap (n + tx.length) mm) f' ∧ sb_Fit f' ∧ (∀ j, j < n → f' j = f j) ∧ ∀ j, j < tx.length → f' (n + j) = tx.getD j 0) := by
  refine bCT_of (by decide) (Nat.le_of_ble_eq_true rfl) (fun p e s m args below meth c ls S hr hlk hnm C0 hl H locs M => ?_)
  have hx := S.1
  have hb := S.2.1
  refine lv_aload_n hx hb dJ4_append_15ec4_0 rfl (lv_at hl 0 rfl) ?_
  refine lv_aload_n hx hb dJ4_append_15ec4_1 rfl (lv_at hl 1 rfl) ?_
  refine b_go M (b_sup (C := RJ4) (n := 1) (C0.2.1.1 1 _ rfl).2 S M C0 hl (c_J5_append_cf1ce l G n0 hq (ms := ms) hle hm hf hft hr9) (b_good6 tw_6_44 tw_7_0 b_super tw_6_45 tw_1_24 tw_6_46) (by decide) (b_recv (ci := 1) (q := (RJ4, TJ4, 4)) C0 M 0 rfl rfl) rfl rfl rfl ⟨Nat.le_of_ble_eq_true rfl, Nat.le_of_ble_eq_true rfl⟩ ⟨(by first | omega | (dsimp only; omega) | dsimp only), (by first | omega | (dsimp only; omega) | dsimp only)⟩ dJ4_append_15ec4_2) rfl rfl (fun v ws1 H locs hp M => ?_)
  obtain ⟨b1, f1, rfl, rfl, hf1, hk1, hk2⟩ := hp
  show W p l e _ s m args below meth c H locs _ _ _ (F0 m 5 ls [.ref q])
  refine lv_pop hx hb dJ4_append_15ec4_5 rfl ?_
  refine lv_aload_n hx hb dJ4_append_15ec4_6 rfl (lv_at hl 0 rfl) ?_
  exact b_retA S M hr (Or.inl ⟨_, rfl⟩) hlk ⟨b1, f1, rfl, rfl, hf1, hk1, hk2⟩ (by first | omega | (dsimp only; omega) | dsimp only) (by first | omega | (dsimp only; omega) | dsimp only) dJ4_append_15ec4_7
theorem b_dgt : ∀ d, d < 10 → (¬ nI d < 0) ∧ (¬ -(nI d) ≤ -10) ∧ (0 ≤ nI d) ∧ (-100 < -(nI d)) ∧ (-9 ≤ -(nI d)) ∧ -(-(nI d)) = nI d ∧ vp_nar .byte (nI (48 + d)) = nI (48 + d) ∧ fits .byte (.int (nI (48 + d))) = true := by decide +kernel
theorem k_J6_stringSize_0f7a4 : gMV yJ6_stringSize_0f7a4 cJ6_stringSize_0f7a4 4 (some .int) 1 := ⟨tw_6_144, tw_1_32, by decide⟩
theorem c_J6_stringSize_0f7a4 (l : Launch) (G : gT) (n0 : Nat) (ws : va_W) {d : Nat} (hd : d < 10) : bCT l yJ6_stringSize_0f7a4 cJ6_stringSize_0f7a4 4 (some .int) { frames := 0, cells := 0, slots := 0, locals := 0 } G n0 [.int (nI d)] ws (fun v ws' => v = some (.int 1) ∧ ws' = ws) := by
  refine bCT_of (by decide) (Nat.le_of_ble_eq_true rfl) (fun p e s m args below meth c ls S hr hlk hnm C0 hl H locs M => ?_)
  have hx := S.1
  have hb := S.2.1
  obtain ⟨g1, g2, -⟩ := b_dgt d hd
  refine lv_iconst (v := 1) hx hb dJ6_stringSize_0f7a4_0 (by decide) ?_
  refine lv_istore_n (lv' := [(1, .int 1), (0, .int (nI d))]) hx hb dJ6_stringSize_0f7a4_1 rfl hl (by decide) rfl (fun ls hl => ?_)
  refine lv_iload_n hx hb dJ6_stringSize_0f7a4_2 rfl (lv_at hl 1 rfl) ?_
  refine lv_if_lt (tgt := 11) hx hb dJ6_stringSize_0f7a4_3 (by decide) (fun c1 => absurd c1 g1) (fun c1 => ?_)
  refine lv_iconst (v := 0) hx hb dJ6_stringSize_0f7a4_6 (by decide) ?_
  refine lv_istore_n (lv' := [(1, .int 0), (0, .int (nI d))]) hx hb dJ6_stringSize_0f7a4_7 rfl hl (by decide) rfl (fun ls hl => ?_)
  refine lv_iload_n hx hb dJ6_stringSize_0f7a4_8 rfl (lv_at hl 1 rfl) ?_
  refine lv_ineg hx hb dJ6_stringSize_0f7a4_9 ?_
  refine lv_istore_n (lv' := [(0, .int (-(nI d))), (1, .int 0)]) hx hb dJ6_stringSize_0f7a4_10 rfl hl (by decide) rfl (fun ls hl => ?_)
  refine lv_bipush (v := (-10)) hx hb dJ6_stringSize_0f7a4_11 (by decide) ?_
  refine lv_istore_n (lv' := [(2, .int (-10)), (0, .int (-(nI d))), (1, .int 0)]) hx hb dJ6_stringSize_0f7a4_13 rfl hl (by decide) rfl (fun ls hl => ?_)
  refine lv_iconst (v := 1) hx hb dJ6_stringSize_0f7a4_14 (by decide) ?_
  refine lv_istore_n (lv' := [(3, .int 1), (2, .int (-10)), (0, .int (-(nI d))), (1, .int 0)]) hx hb dJ6_stringSize_0f7a4_15 rfl hl (by decide) rfl (fun ls hl => ?_)
  refine lv_iload_n hx hb dJ6_stringSize_0f7a4_16 rfl (lv_at hl 0 rfl) ?_
  refine lv_bipush (v := 10) hx hb dJ6_stringSize_0f7a4_17 (by decide) ?_
  refine lv_icmp_ge (tgt := 42) hx hb dJ6_stringSize_0f7a4_19 (by decide) (fun c1 => absurd c1 (by decide)) (fun c1 => ?_)
  refine lv_iload_n hx hb dJ6_stringSize_0f7a4_22 rfl (lv_at hl 2 rfl) ?_
  refine lv_iload_n hx hb dJ6_stringSize_0f7a4_23 rfl (lv_at hl 1 rfl) ?_
  refine lv_icmp_le (tgt := 31) hx hb dJ6_stringSize_0f7a4_24 (by decide) (fun c1 => absurd c1 g2) (fun c1 => ?_)
  refine lv_iload_n hx hb dJ6_stringSize_0f7a4_27 rfl (lv_at hl 0 rfl) ?_
  refine lv_iload_n hx hb dJ6_stringSize_0f7a4_28 rfl (lv_at hl 3 rfl) ?_
  refine lv_iadd hx hb dJ6_stringSize_0f7a4_29 ?_
  show W p l e _ s m args below meth c H locs _ _ _ (F0 m 30 ls [.int 1])
  exact b_retI S M hr hlk ⟨rfl, rfl⟩ (by first | omega | (dsimp only; omega) | dsimp only) (by first | omega | (dsimp only; omega) | dsimp only) dJ6_stringSize_0f7a4_30
theorem k_J6_getChars_ba4f3 : gMV yJ6_getChars_ba4f3 cJ6_getChars_ba4f3 7 (some .int) 3 := ⟨tw_6_147, tw_1_32, by decide⟩
theorem c_J6_getChars_ba4f3 (l : Launch) (G : gT) (n0 : Nat) (ws : va_W) {b mm d k k1 : Nat} {f : Nat → Int32} (hw : ws[k]? = some (b, .inl (G.2.1 5, mm, .inl f))) (hd : d < 10) (hk : k1 < mm) (hm : mm ≤ 65536) : bCT l yJ6_getChars_ba4f3 cJ6_getChars_ba4f3 7 (some .int) { frames := 0, cells := 0, slots := 0, locals := 0 } G n0 [.int (nI d), .int (nI (k1 + 1)), .ref b] ws (fun v ws' => v = some (.int (nI k1)) ∧ ws' = ws.set k (b, .inl (G.2.1 5, mm, .inl (upd f k1 (nI (48 + d)))))) := by
  refine bCT_of (by decide) (Nat.le_of_ble_eq_true rfl) (fun p e s m args below meth c ls S hr hlk hnm C0 hl H locs M => ?_)
  have hx := S.1
  have hb := S.2.1
  obtain ⟨g1, g2, g3, g4, g5, g6, g7, g8⟩ := b_dgt d hd
  obtain ⟨d1, tab, hZ, hT, htab⟩ := C0.2.2.2.2
  refine lv_iload_n hx hb dJ6_getChars_ba4f3_0 rfl (lv_at hl 1 rfl) ?_
  refine lv_istore (lv' := [(5, .int (nI (k1 + 1))), (0, .int (nI d)), (1, .int (nI (k1 + 1))), (2, .ref b)]) hx hb dJ6_getChars_ba4f3_1 hl (by decide) rfl (fun ls hl => ?_)
  refine lv_iload_n hx hb dJ6_getChars_ba4f3_3 rfl (lv_at hl 1 rfl) ?_
  refine lv_if_ge (tgt := 11) hx hb dJ6_getChars_ba4f3_4 (by decide) (fun c1 => ?_) (fun c1 => absurd g3 c1)
  refine lv_iconst (v := 0) hx hb dJ6_getChars_ba4f3_11 (by decide) ?_
  refine lv_istore (lv' := [(6, .int 0), (5, .int (nI (k1 + 1))), (0, .int (nI d)), (1, .int (nI (k1 + 1))), (2, .ref b)]) hx hb dJ6_getChars_ba4f3_12 hl (by decide) rfl (fun ls hl => ?_)
  refine lv_iload hx hb dJ6_getChars_ba4f3_14 (lv_at hl 0 rfl) ?_
  refine lv_if_ne (tgt := 22) hx hb dJ6_getChars_ba4f3_16 (by decide) (fun c1 => absurd c1 (fun h => h rfl)) (fun c1 => ?_)
  refine lv_iload_n hx hb dJ6_getChars_ba4f3_19 rfl (lv_at hl 2 rfl) ?_
  refine lv_ineg hx hb dJ6_getChars_ba4f3_20 ?_
  refine lv_istore_n (lv' := [(0, .int (-(nI d))), (6, .int 0), (5, .int (nI (k1 + 1))), (1, .int (nI (k1 + 1))), (2, .ref b)]) hx hb dJ6_getChars_ba4f3_21 rfl hl (by decide) rfl (fun ls hl => ?_)
  refine lv_iload_n hx hb dJ6_getChars_ba4f3_22 rfl (lv_at hl 0 rfl) ?_
  refine lv_bipush (v := (-100)) hx hb dJ6_getChars_ba4f3_23 (by decide) ?_
  refine lv_icmp_gt (tgt := 72) hx hb dJ6_getChars_ba4f3_25 (by decide) (fun c1 => ?_) (fun c1 => absurd g4 c1)
  refine lv_aload_n hx hb dJ6_getChars_ba4f3_72 rfl (lv_at hl 4 rfl) ?_
  refine lv_iinc (v := nI k1) (lv' := [(5, .int (nI k1)), (0, .int (-(nI d))), (6, .int 0), (1, .int (nI (k1 + 1))), (2, .ref b)]) hx hb dJ6_getChars_ba4f3_73 hl (k := 2) rfl (show nI (k1 + 1) + (-1) = nI k1 from pk_m1 k1) (by decide) rfl (fun ls hl => ?_)
  refine lv_iload hx hb dJ6_getChars_ba4f3_76 (lv_at hl 0 rfl) ?_
  refine va_gets hx hb hZ M.2.2 S.2.2.2.1 (S.2.2.2.2 _ tw_6_148) (fun _ h => h) dJ6_getChars_ba4f3_78 ?_
  refine lv_iload_n hx hb dJ6_getChars_ba4f3_81 rfl (lv_at hl 1 rfl) ?_
  refine lv_ineg hx hb dJ6_getChars_ba4f3_82 ?_
  rw [g6]
  refine va_tb hx hb hT M.2.2 (vp_in_nI (by omega) (by omega)) (v := .int (nI (48 + d))) (by show Value.int (tab (nI d).toNatClampNeg) = _; rw [nI_clamp (by omega), htab d hd]) dJ6_getChars_ba4f3_83 ?_
  refine va_bast hx hb C0.2.1 M.1 M.2.1 M.2.2 k 5 hw rfl (vp_in_nI hk (by omega)) dJ6_getChars_ba4f3_84 (fun H locs hP hD hS => ?_)
  rw [nI_clamp (by omega), g7] at hP hD
  have M : bM G n0 _ s H locs := ⟨hP, hD, hS⟩
  refine lv_iload_n hx hb dJ6_getChars_ba4f3_85 rfl (lv_at hl 1 rfl) ?_
  refine lv_bipush (v := (-9)) hx hb dJ6_getChars_ba4f3_86 (by decide) ?_
  refine lv_icmp_ge (tgt := 104) hx hb dJ6_getChars_ba4f3_88 (by decide) (fun c1 => ?_) (fun c1 => absurd g5 c1)
  refine lv_iload hx hb dJ6_getChars_ba4f3_104 (lv_at hl 2 rfl) ?_
  refine lv_if_eq (tgt := 118) hx hb dJ6_getChars_ba4f3_106 (by decide) (fun c1 => ?_) (fun c1 => absurd rfl c1)
  refine lv_iload hx hb dJ6_getChars_ba4f3_118 (lv_at hl 0 rfl) ?_
  exact b_retI S M hr hlk ⟨rfl, rfl⟩ (by first | omega | (dsimp only; omega) | dsimp only) (by first | omega | (dsimp only; omega) | dsimp only) dJ6_getChars_ba4f3_120
theorem k_J5_append_c97b9 : gMV yJ5_append_c97b9 cJ5_append_c97b9 4 (some (.object "java/lang/AbstractStringBuilder")) 1 := ⟨tw_6_141, tw_1_24, by decide⟩
theorem c_J5_append_c97b9 (l : Launch) (G : gT) (n0 : Nat) {q b mm n : Nat} {ml : Int32} {f : Nat → Int32} {d ms : Nat} (hd : d < 10) (hle : n ≤ mm) (hm : mm ≤ 65536) (hf : sb_Fit f) (hr9 : n + 1 ≤ mm ∨ (sb_cap (n + 1) mm ≤ ms ∧ sb_cap (n + 1) mm ≤ 65536)) : bCT l yJ5_append_c97b9 cJ5_append_c97b9 4 (some (.object "java/lang/AbstractStringBuilder")) { frames := 4, cells := 1, slots := ms, locals := 104 } G n0 [.ref q, .int (nI d)] (bB G q b ml (nI n) mm f) (fun v ws' => ∃ b' f', v = some (.ref q) ∧ ws' = bB G q b' ml (nI (n + 1)) (sb_cap (n + 1) mm) f' ∧ sb_Fit f' ∧ (∀ j, j < n → f' j = f j) ∧ f' n = nI (48 + d)) := by
  have hcl : sb_cap (n + 1) mm ≤ 65536 := by
    rcases hr9 with h | h
    · rw [sb_cap, if_pos h]; exact hm
    · exact h.2
  refine bCT_of (by decide) (Nat.le_of_ble_eq_true rfl) (fun p e s m args below meth c ls S hr hlk hnm C0 hl H locs M => ?_)
  have hx := S.1
  have hb := S.2.1
  refine lv_aload_n hx hb dJ5_append_c97b9_0 rfl (lv_at hl 0 rfl) ?_
  refine b_get S C0 M inJ4 0 (rfl) rfl 3 (by decide) tw_6_30 rfl rfl dJ5_append_c97b9_1 ?_
  refine lv_istore_n (lv' := [(2, .int (nI n)), (0, .ref q), (1, .int (nI d))]) hx hb dJ5_append_c97b9_4 rfl hl (by decide) rfl (fun ls hl => ?_)
  refine lv_iload_n hx hb dJ5_append_c97b9_5 rfl (lv_at hl 0 rfl) ?_
  refine lv_iload_n hx hb dJ5_append_c97b9_6 rfl (lv_at hl 2 rfl) ?_
  refine b_go1 M (b_stat S M C0 hl (c_J6_stringSize_0f7a4 l G n0 _ hd) k_J6_stringSize_0f7a4 tw_6_143 tw_6_142 rfl rfl rfl ⟨Nat.le_of_ble_eq_true rfl, Nat.le_of_ble_eq_true rfl⟩ ⟨(by first | omega | (dsimp only; omega) | dsimp only), (by first | omega | (dsimp only; omega) | dsimp only)⟩ dJ5_append_c97b9_7) (fun _ _ h => h) rfl rfl (fun H locs M => ?_)
  show W p l e _ s m args below meth c H locs _ _ _ (F0 m 10 ls [.int 1, .int (nI n)])
  refine lv_iadd hx hb dJ5_append_c97b9_10 ?_
  rw [nI_1]
  refine lv_istore_n (lv' := [(3, .int (nI (n + 1))), (2, .int (nI n)), (0, .ref q), (1, .int (nI d))]) hx hb dJ5_append_c97b9_11 rfl hl (by decide) rfl (fun ls hl => ?_)
  refine lv_aload_n hx hb dJ5_append_c97b9_12 rfl (lv_at hl 2 rfl) ?_
  refine lv_iload_n hx hb dJ5_append_c97b9_13 rfl (lv_at hl 0 rfl) ?_
  refine b_go M (b_priv (C := RJ4) (x := yJ5_isLatin1_aae02) S M C0 hl (c_J5_ensureCapacityInternal_d00df l G n0 (ms := ms) hm (by omega) hf hr9) k_J5_ensureCapacityInternal_d00df tw_6_53 (va_Nw.use rfl (C0.2.2.2.1.1 _ bPr_0)) (S.2.2.2.2 _ tw_6_83) rfl tw_6_51 (b_recv (ci := 1) (q := (RJ4, TJ4, 4)) C0 M 0 rfl rfl) rfl rfl rfl ⟨Nat.le_of_ble_eq_true rfl, Nat.le_of_ble_eq_true rfl⟩ ⟨(by first | omega | (dsimp only; omega) | dsimp only), (by first | omega | (dsimp only; omega) | dsimp only)⟩ dJ5_append_c97b9_14) rfl rfl (fun v ws1 H locs hp M => ?_)
  obtain ⟨b1, f1, rfl, rfl, hf1, hk1⟩ := hp
  show W p l e _ s m args below meth c H locs _ _ _ (F0 m 17 ls [])
  refine lv_aload_n hx hb dJ5_append_c97b9_17 rfl (lv_at hl 2 rfl) ?_
  refine b_go1 M (b_inh (C := RJ4) (owner := RJ5) S M C0 hl (c_J5_isLatin1_aae02 l G n0 _ (k := 0) rfl) (va_cwU 0 S.2.2.2.2 (b_good6 tw_6_80 tw_6_82 tw_6_83 tw_6_81 tw_1_24 tw_6_84) rfl rfl rfl rfl (by decide) ⟨Nat.le_of_ble_eq_true rfl, Nat.le_of_ble_eq_true rfl⟩) (b_recv (ci := 1) (q := (RJ4, TJ4, 4)) C0 M 0 rfl rfl) rfl rfl rfl ⟨(by first | omega | (dsimp only; omega) | dsimp only), (by first | omega | (dsimp only; omega) | dsimp only)⟩ dJ5_append_c97b9_18) (fun _ _ h => h) rfl rfl (fun H locs M => ?_)
  show W p l e _ s m args below meth c H locs _ _ _ (F0 m 21 ls [.int 1])
  refine lv_if_eq (tgt := 37) hx hb dJ5_append_c97b9_21 (by decide) (fun c1 => absurd c1 (by decide)) (fun c1 => ?_)
  refine lv_iload_n hx hb dJ5_append_c97b9_24 rfl (lv_at hl 3 rfl) ?_
  refine lv_iload_n hx hb dJ5_append_c97b9_25 rfl (lv_at hl 0 rfl) ?_
  refine lv_aload_n hx hb dJ5_append_c97b9_26 rfl (lv_at hl 2 rfl) ?_
  refine b_get S C0 M inJ4 0 (rfl) rfl 0 (by decide) tw_6_27 rfl rfl dJ5_append_c97b9_27 ?_
  refine b_go1 M (b_stat S M C0 hl (c_J6_getChars_ba4f3 l G n0 _ (k := 1) rfl hd (by have := sb_cap_ge (n + 1) mm; omega) hcl) k_J6_getChars_ba4f3 tw_6_146 tw_6_145 rfl rfl rfl ⟨Nat.le_of_ble_eq_true rfl, Nat.le_of_ble_eq_true rfl⟩ ⟨(by first | omega | (dsimp only; omega) | dsimp only), (by first | omega | (dsimp only; omega) | dsimp only)⟩ dJ5_append_c97b9_30) (fun _ _ h => h) rfl rfl (fun H locs M => ?_)
  show W p l e _ s m args below meth c H locs _ _ _ (F0 m 33 ls [.int (nI n)])
  refine lv_pop hx hb dJ5_append_c97b9_33 rfl ?_
  refine lv_goto (tgt := 48) hx hb dJ5_append_c97b9_34 (by decide) ?_
  refine lv_aload_n hx hb dJ5_append_c97b9_48 rfl (lv_at hl 2 rfl) ?_
  refine lv_iload_n hx hb dJ5_append_c97b9_49 rfl (lv_at hl 0 rfl) ?_
  refine b_put (ws' := (bB G q b1 ml (nI (n + 1)) (sb_cap (n + 1) mm) (upd f1 n (nI (48 + d))))) S C0 M inJ4 tyJ4 tyJ4_ok nmJ4 0 rfl rfl 3 (by decide) tw_6_30 rfl rfl rfl rfl (Nat.le_of_ble_eq_true rfl) rfl dJ5_append_c97b9_50 (fun H locs M => ?_)
  refine lv_aload_n hx hb dJ5_append_c97b9_53 rfl (lv_at hl 2 rfl) ?_
  exact b_retA S M hr (Or.inl ⟨_, rfl⟩) hlk ⟨b1, _, rfl, rfl, sb_fitU hf1 (b_dgt d hd).2.2.2.2.2.2.2, fun j hj => (pk_un (by omega)).trans (hk1 j (by omega)), pk_us⟩ (by first | omega | (dsimp only; omega) | dsimp only) (by first | omega | (dsimp only; omega) | dsimp only) dJ5_append_c97b9_54
theorem k_J4_append_bf812 : gMV yJ4_append_bf812 cJ4_append_bf812 2 (some (.object "java/lang/StringBuilder")) 1 := ⟨tw_6_138, tw_1_25, by decide⟩
theorem c_J4_append_bf812 (l : Launch) (G : gT) (n0 : Nat) {q b mm n : Nat} {ml : Int32} {f : Nat → Int32} {d ms : Nat} (hd : d < 10) (hle : n ≤ mm) (hm : mm ≤ 65536) (hf : sb_Fit f) (hr9 : n + 1 ≤ mm ∨ (sb_cap (n + 1) mm ≤ ms ∧ sb_cap (n + 1) mm ≤ 65536)) : bCT l yJ4_append_bf812 cJ4_append_bf812 2 (some (.object "java/lang/StringBuilder")) { frames := 5, cells := 1, slots := ms, locals := 127 } G n0 [.ref q, .int (nI d)] (bB G q b ml (nI n) mm f) (fun v ws' => ∃ b' f', v = some (.ref q) ∧ ws' = bB G q b' ml (nI (n + 1)) (sb_cap (n + 1) mm) f' ∧ sb_Fit f' ∧ (∀ j, j < n → f' j = f j) ∧ f' n = nI (48 + d)) := by
  refine bCT_of (by decide) (Nat.le_of_ble_eq_true rfl) (fun p e s m args below meth c ls S hr hlk hnm C0 hl H locs M => ?_)
  have hx := S.1
  have hb := S.2.1
  refine lv_aload_n hx hb dJ4_append_bf812_0 rfl (lv_at hl 0 rfl) ?_
  refine lv_iload_n hx hb dJ4_append_bf812_1 rfl (lv_at hl 1 rfl) ?_
  refine b_go M (b_sup (C := RJ4) (n := 1) (C0.2.1.1 1 _ rfl).2 S M C0 hl (c_J5_append_c97b9 l G n0 (ms := ms) hd hle hm hf hr9) (b_good6 tw_6_139 tw_7_7 b_super tw_6_140 tw_1_24 tw_6_141) (by decide) (b_recv (ci := 1) (q := (RJ4, TJ4, 4)) C0 M 0 rfl rfl) rfl rfl rfl ⟨Nat.le_of_ble_eq_true rfl, Nat.le_of_ble_eq_true rfl⟩ ⟨(by first | omega | (dsimp only; omega) | dsimp only), (by first | omega | (dsimp only; omega) | dsimp only)⟩ dJ4_append_bf812_2) rfl rfl (fun v ws1 H locs hp M => ?_)
  obtain ⟨b1, f1, rfl, rfl, hf1, hk1, hk2⟩ := hp
  show W p l e _ s m args below meth c H locs _ _ _ (F0 m 5 ls [.ref q])
  refine lv_pop hx hb dJ4_append_bf812_5 rfl ?_
  refine lv_aload_n hx hb dJ4_append_bf812_6 rfl (lv_at hl 0 rfl) ?_
  exact b_retA S M hr (Or.inl ⟨_, rfl⟩) hlk ⟨b1, f1, rfl, rfl, hf1, hk1, hk2⟩ (by first | omega | (dsimp only; omega) | dsimp only) (by first | omega | (dsimp only; omega) | dsimp only) dJ4_append_bf812_7
theorem k_J5_init_d00df : gMV yJ5_init_d00df cJ5_init_d00df 2 none 1 := ⟨tw_6_17, tw_1_24, by decide⟩
theorem c_J5_init_d00df (l : Launch) (G : gT) (n0 : Nat) {q : Nat} : bCT l yJ5_init_d00df cJ5_init_d00df 2 none { frames := 1, cells := 1, slots := 16, locals := 20 } G n0 [.ref q, .int (nI 16)] [(q, .inr (1, [.null, .int 0, .int 0, .int 0]))] (fun v ws' => ∃ b', v = none ∧ ws' = bB G q b' 0 (nI 0) 16 (fun _ => 0)) := by
  refine bCT_of (by decide) (Nat.le_of_ble_eq_true rfl) (fun p e s m args below meth c ls S hr hlk hnm C0 hl H locs M => ?_)
  have hx := S.1
  have hb := S.2.1
  refine lv_aload_n hx hb dJ5_init_d00df_0 rfl (lv_at hl 0 rfl) ?_
  refine n_obj S hl tw_6_18 tw_1_41 tw_1_42 rfl rfl dJ5_init_d00df_1 ?_
  refine va_gets hx hb C0.2.2.1.2.2.2.2.2.2.2.2.2.1 M.2.2 S.2.2.2.1 (S.2.2.2.2 _ tw_6_19) (fun _ h => h) dJ5_init_d00df_4 ?_
  refine lv_if_eq (tgt := 25) hx hb dJ5_init_d00df_7 (by decide) (fun c1 => absurd c1 (by decide)) (fun c1 => ?_)
  refine lv_aload_n hx hb dJ5_init_d00df_10 rfl (lv_at hl 0 rfl) ?_
  refine lv_iload_n hx hb dJ5_init_d00df_11 rfl (lv_at hl 1 rfl) ?_
  refine b_newb S C0 M tw_2_165 (nI_pos (by omega)) (nI_clamp (by omega)) (by omega) (by first | omega | (dsimp only; omega) | dsimp only) (by first | omega | (dsimp only; omega) | dsimp only) rfl rfl dJ5_init_d00df_12 (fun b2 H M => ?_)
  refine b_put (ws' := [(q, .inr (1, [.ref b2, .int 0, .int 0, .int 0])), (b2, .inl (G.2.1 5, 16, .inl (fun _ => 0)))]) S C0 M inJ4 tyJ4 tyJ4_ok nmJ4 0 rfl rfl 0 (by decide) tw_6_27 rfl rfl rfl rfl (Nat.le_of_ble_eq_true rfl) rfl dJ5_init_d00df_14 (fun H locs M => ?_)
  refine lv_aload_n hx hb dJ5_init_d00df_17 rfl (lv_at hl 0 rfl) ?_
  refine lv_iconst (v := 0) hx hb dJ5_init_d00df_18 (by decide) ?_
  refine b_put (ws' := [(q, .inr (1, [.ref b2, .int 0, .int 0, .int 0])), (b2, .inl (G.2.1 5, 16, .inl (fun _ => 0)))]) S C0 M inJ4 tyJ4 tyJ4_ok nmJ4 0 rfl rfl 1 (by decide) tw_6_28 rfl rfl rfl rfl (Nat.le_of_ble_eq_true rfl) rfl dJ5_init_d00df_19 (fun H locs M => ?_)
  refine lv_goto (tgt := 38) hx hb dJ5_init_d00df_22 (by decide) ?_
  exact b_ret0 S M hr hlk ⟨b2, rfl, rfl⟩ (by first | omega | (dsimp only; omega) | dsimp only) (by first | omega | (dsimp only; omega) | dsimp only) dJ5_init_d00df_38
theorem k_J4_init_da8c8 : gMV yJ4_init_da8c8 cJ4_init_da8c8 1 none 0 := ⟨tw_6_14, tw_1_25, by decide⟩
theorem c_J4_init_da8c8 (l : Launch) (G : gT) (n0 : Nat) {q : Nat} : bCT l yJ4_init_da8c8 cJ4_init_da8c8 1 none { frames := 2, cells := 1, slots := 16, locals := 41 } G n0 [.ref q] [(q, .inr (1, [.null, .int 0, .int 0, .int 0]))] (fun v ws' => ∃ b', v = none ∧ ws' = bB G q b' 0 (nI 0) 16 (fun _ => 0)) := by
  refine bCT_of (by decide) (Nat.le_of_ble_eq_true rfl) (fun p e s m args below meth c ls S hr hlk hnm C0 hl H locs M => ?_)
  have hx := S.1
  have hb := S.2.1
  refine lv_aload_n hx hb dJ4_init_da8c8_0 rfl (lv_at hl 0 rfl) ?_
  refine lv_bipush (v := 16) hx hb dJ4_init_da8c8_1 (by decide) ?_
  refine b_go M (b_init S M C0 hl (c_J5_init_d00df l G n0) k_J5_init_d00df tw_6_16 rfl tw_6_15 rfl rfl rfl ⟨Nat.le_of_ble_eq_true rfl, Nat.le_of_ble_eq_true rfl⟩ ⟨(by first | omega | (dsimp only; omega) | dsimp only), (by first | omega | (dsimp only; omega) | dsimp only)⟩ dJ4_init_da8c8_3) rfl rfl (fun v ws1 H locs hp M => ?_)
  obtain ⟨b2, rfl, rfl⟩ := hp
  show W p l e _ s m args below meth c H locs _ _ _ (F0 m 6 ls [])
  exact b_ret0 S M hr hlk ⟨b2, rfl, rfl⟩ (by first | omega | (dsimp only; omega) | dsimp only) (by first | omega | (dsimp only; omega) | dsimp only) dJ4_init_da8c8_6
theorem k_J5_getValue_6d5f1 : gMV yJ5_getValue_6d5f1 cJ5_getValue_6d5f1 1 (some (.array .byte)) 0 := ⟨tw_6_176, tw_1_24, by decide⟩
theorem c_J5_getValue_6d5f1 (l : Launch) (G : gT) (n0 : Nat) (ws : va_W) {q b k : Nat} {ml cnt : Int32} (hw : ws[k]? = some (q, .inr (1, [.ref b, .int 0, .int ml, .int cnt]))) : bCT l yJ5_getValue_6d5f1 cJ5_getValue_6d5f1 1 (some (.array .byte)) { frames := 0, cells := 0, slots := 0, locals := 0 } G n0 [.ref q] ws (fun v ws' => v = some (.ref b) ∧ ws' = ws) := by
  refine bCT_of (by decide) (Nat.le_of_ble_eq_true rfl) (fun p e s m args below meth c ls S hr hlk hnm C0 hl H locs M => ?_)
  have hx := S.1
  have hb := S.2.1
  refine lv_aload_n hx hb dJ5_getValue_6d5f1_0 rfl (lv_at hl 0 rfl) ?_
  refine b_get S C0 M inJ4 k (hw) rfl 0 (by decide) tw_6_27 rfl rfl dJ5_getValue_6d5f1_1 ?_
  exact b_retA S M hr (Or.inr ⟨_, rfl⟩) hlk ⟨rfl, rfl⟩ (by first | omega | (dsimp only; omega) | dsimp only) (by first | omega | (dsimp only; omega) | dsimp only) dJ5_getValue_6d5f1_4
theorem k_J5_length_8abf5 : gMV yJ5_length_8abf5 cJ5_length_8abf5 1 (some .int) 0 := ⟨tw_6_184, tw_1_24, by decide⟩
theorem c_J5_length_8abf5 (l : Launch) (G : gT) (n0 : Nat) (ws : va_W) {q b k : Nat} {ml cnt : Int32} (hw : ws[k]? = some (q, .inr (1, [.ref b, .int 0, .int ml, .int cnt]))) : bCT l yJ5_length_8abf5 cJ5_length_8abf5 1 (some .int) { frames := 0, cells := 0, slots := 0, locals := 0 } G n0 [.ref q] ws (fun v ws' => v = some (.int cnt) ∧ ws' = ws) := by
  refine bCT_of (by decide) (Nat.le_of_ble_eq_true rfl) (fun p e s m args below meth c ls S hr hlk hnm C0 hl H locs M => ?_)
  have hx := S.1
  have hb := S.2.1
  refine lv_aload_n hx hb dJ5_length_8abf5_0 rfl (lv_at hl 0 rfl) ?_
  refine b_get S C0 M inJ4 k (hw) rfl 3 (by decide) tw_6_30 rfl rfl dJ5_length_8abf5_1 ?_
  exact b_retI S M hr hlk ⟨rfl, rfl⟩ (by first | omega | (dsimp only; omega) | dsimp only) (by first | omega | (dsimp only; omega) | dsimp only) dJ5_length_8abf5_4
theorem k_J4_length_8abf5 : gMV yJ4_length_8abf5 cJ4_length_8abf5 1 (some .int) 0 := ⟨tw_6_182, tw_1_25, by decide⟩
theorem c_J4_length_8abf5 (l : Launch) (G : gT) (n0 : Nat) (ws : va_W) {q b : Nat} {ml cnt : Int32} (hw : ws[0]? = some (q, .inr (1, [.ref b, .int 0, .int ml, .int cnt]))) : bCT l yJ4_length_8abf5 cJ4_length_8abf5 1 (some .int) { frames := 1, cells := 0, slots := 0, locals := 20 } G n0 [.ref q] ws (fun v ws' => v = some (.int cnt) ∧ ws' = ws) := by
  refine bCT_of (by decide) (Nat.le_of_ble_eq_true rfl) (fun p e s m args below meth c ls S hr hlk hnm C0 hl H locs M => ?_)
  have hx := S.1
  have hb := S.2.1
  refine lv_aload_n hx hb dJ4_length_8abf5_0 rfl (lv_at hl 0 rfl) ?_
  refine b_go1 M (b_sup (C := RJ4) (n := 0) (C0.2.1.1 1 _ rfl).2 S M C0 hl (c_J5_length_8abf5 l G n0 _ (k := 0) hw) (b_good6 tw_6_183 tw_6_179 b_super tw_6_178 tw_1_24 tw_6_184) (by decide) (b_recv (ci := 1) (q := (RJ4, TJ4, 4)) C0 M 0 hw rfl) rfl rfl rfl ⟨Nat.le_of_ble_eq_true rfl, Nat.le_of_ble_eq_true rfl⟩ ⟨(by first | omega | (dsimp only; omega) | dsimp only), (by first | omega | (dsimp only; omega) | dsimp only)⟩ dJ4_length_8abf5_1) (fun _ _ h => h) rfl rfl (fun H locs M => ?_)
  show W p l e _ s m args below meth c H locs _ _ _ (F0 m 4 ls [.int cnt])
  exact b_retI S M hr hlk ⟨rfl, rfl⟩ (by first | omega | (dsimp only; omega) | dsimp only) (by first | omega | (dsimp only; omega) | dsimp only) dJ4_length_8abf5_4
theorem k_J7_checkLength_df160 : gMV yJ7_checkLength_df160 cJ7_checkLength_df160 2 none 2 := ⟨tw_6_194, tw_1_28, by decide⟩
theorem c_J7_checkLength_df160 (l : Launch) (G : gT) (n0 : Nat) (ws : va_W) {n : Nat} (hn : n ≤ 65536) : bCT l yJ7_checkLength_df160 cJ7_checkLength_df160 2 none { frames := 0, cells := 0, slots := 0, locals := 0 } G n0 [.int 0, .int (nI n)] ws (fun v ws' => v = none ∧ ws' = ws) := by
  refine bCT_of (by decide) (Nat.le_of_ble_eq_true rfl) (fun p e s m args below meth c ls S hr hlk hnm C0 hl H locs M => ?_)
  have hx := S.1
  have hb := S.2.1
  refine lv_iload_n hx hb dJ7_checkLength_df160_0 rfl (lv_at hl 1 rfl) ?_
  refine lv_iload_n hx hb dJ7_checkLength_df160_1 rfl (lv_at hl 0 rfl) ?_
  refine lv_icmp_ge (tgt := 37) hx hb dJ7_checkLength_df160_2 (by decide) (fun c1 => ?_) (fun c1 => absurd (show nI n ≥ 0 from nI_pos' (by omega)) c1)
  exact b_ret0 S M hr hlk ⟨rfl, rfl⟩ (by first | omega | (dsimp only; omega) | dsimp only) (by first | omega | (dsimp only; omega) | dsimp only) dJ7_checkLength_df160_37
theorem k_J7_copyOfRangeByte_39247 : gMV yJ7_copyOfRangeByte_39247 cJ7_copyOfRangeByte_39247 5 (some (.array .byte)) 3 := ⟨tw_6_191, tw_1_28, by decide⟩
theorem c_J7_copyOfRangeByte_39247 (l : Launch) (G : gT) (n0 : Nat) (ws : va_W) {b mm n k ms : Nat} {f : Nat → Int32} (hw : ws[k]? = some (b, .inl (G.2.1 5, mm, .inl f))) (h : n < mm) (hm : mm ≤ 65536) (hf : sb_Fit f) (hms : n ≤ ms) : bCT l yJ7_copyOfRangeByte_39247 cJ7_copyOfRangeByte_39247 5 (some (.array .byte)) { frames := 1, cells := 1, slots := ms, locals := 60 } G n0 [.ref b, .int 0, .int (nI n)] ws (fun v ws' => ∃ b2 f2, v = some (.ref b2) ∧ ws' = ws ++ [(b2, .inl (G.2.1 5, n, .inl f2))] ∧ sb_Fit f2 ∧ ∀ j, j < n → f2 j = f j) := by
  refine bCT_of (by decide) (Nat.le_of_ble_eq_true rfl) (fun p e s m args below meth c ls S hr hlk hnm C0 hl H locs M => ?_)
  have hx := S.1
  have hb := S.2.1
  refine lv_iload_n hx hb dJ7_copyOfRangeByte_39247_0 rfl (lv_at hl 1 rfl) ?_
  refine lv_iload_n hx hb dJ7_copyOfRangeByte_39247_1 rfl (lv_at hl 2 rfl) ?_
  refine b_go1 M (b_stat S M C0 hl (c_J7_checkLength_df160 l G n0 ws (by omega)) k_J7_checkLength_df160 tw_6_193 tw_6_192 rfl rfl rfl ⟨Nat.le_of_ble_eq_true rfl, Nat.le_of_ble_eq_true rfl⟩ ⟨(by first | omega | (dsimp only; omega) | dsimp only), (by first | omega | (dsimp only; omega) | dsimp only)⟩ dJ7_copyOfRangeByte_39247_2) (fun _ _ h => h) rfl rfl (fun H locs M => ?_)
  show W p l e _ s m args below meth c H locs _ _ _ (F0 m 5 ls [])
  refine lv_iload_n hx hb dJ7_copyOfRangeByte_39247_5 rfl (lv_at hl 2 rfl) ?_
  refine lv_iload_n hx hb dJ7_copyOfRangeByte_39247_6 rfl (lv_at hl 1 rfl) ?_
  refine lv_isub hx hb dJ7_copyOfRangeByte_39247_7 ?_
  rw [Int32.sub_zero]
  refine lv_istore_n (lv' := [(3, .int (nI n)), (0, .ref b), (1, .int 0), (2, .int (nI n))]) hx hb dJ7_copyOfRangeByte_39247_8 rfl hl (by decide) rfl (fun ls hl => ?_)
  refine lv_iload_n hx hb dJ7_copyOfRangeByte_39247_9 rfl (lv_at hl 0 rfl) ?_
  refine b_newb S C0 M tw_2_165 (nI_pos (by omega)) (nI_clamp (by omega)) (by omega) (by first | omega | (dsimp only; omega) | dsimp only) (by first | omega | (dsimp only; omega) | dsimp only) rfl rfl dJ7_copyOfRangeByte_39247_10 (fun b2 H M => ?_)
  have hk : k < ws.length := (List.getElem?_eq_some_iff.mp hw).1
  have hw9 : (ws ++ [(b2, .inl (G.2.1 5, n, .inl (fun _ => 0)))])[k]? = some (b, .inl (G.2.1 5, mm, .inl f)) := by rw [List.getElem?_append_left hk]; exact hw
  have hw8 : (ws ++ [((b2, .inl (G.2.1 5, n, .inl (fun _ => 0))) : Nat × va_E)])[ws.length]? = some (b2, .inl (G.2.1 5, n, .inl (fun _ => 0))) := by rw [List.getElem?_append_right (Nat.le_refl _), Nat.sub_self]; rfl
  refine lv_astore (lv' := [(4, .ref b2), (3, .int (nI n)), (0, .ref b), (1, .int 0), (2, .int (nI n))]) hx hb dJ7_copyOfRangeByte_39247_12 hl (by decide) rfl (fun ls hl => ?_)
  refine lv_aload_n hx hb dJ7_copyOfRangeByte_39247_14 rfl (lv_at hl 2 rfl) ?_
  refine lv_iload_n hx hb dJ7_copyOfRangeByte_39247_15 rfl (lv_at hl 3 rfl) ?_
  refine lv_aload hx hb dJ7_copyOfRangeByte_39247_16 (lv_at hl 0 rfl) ?_
  refine lv_iconst (v := 0) hx hb dJ7_copyOfRangeByte_39247_18 (by decide) ?_
  refine lv_aload_n hx hb dJ7_copyOfRangeByte_39247_19 rfl (lv_at hl 2 rfl) ?_
  refine b_alen S C0 M k (hw9) (t := 5) rfl (v := nI mm) rfl dJ7_copyOfRangeByte_39247_20 ?_
  refine lv_iload_n hx hb dJ7_copyOfRangeByte_39247_21 rfl (lv_at hl 3 rfl) ?_
  refine lv_isub hx hb dJ7_copyOfRangeByte_39247_22 ?_
  rw [Int32.sub_zero]
  refine lv_iload_n hx hb dJ7_copyOfRangeByte_39247_23 rfl (lv_at hl 1 rfl) ?_
  refine va_mmin hx hb (S.2.2.1.trans hl.1.symm) S.2.2.2.1 (S.2.2.2.2 _ tw_6_78) (S.2.2.2.2 _ tw_2_235) (S.2.2.2.2 _ tw_1_23) (S.2.2.2.2 _ tw_2_236) (Nat.le_of_ble_eq_true rfl) (Nat.le_of_ble_eq_true rfl) (by first | omega | (dsimp only; omega) | dsimp only) (by first | omega | (dsimp only; omega) | dsimp only) dJ7_copyOfRangeByte_39247_24 ?_
  rw [if_pos (nI_lt (a := n) (b := mm) (by omega) (by omega))]
  have ec : (nI n).toNatClampNeg = n := nI_clamp (by omega)
  have ez : (0 : Int32).toNatClampNeg = 0 := sb_cl0
  refine va_copyi (ty := .byte) hx hb (S.2.2.1.trans hl.1.symm) S.2.2.2.1 (S.2.2.2.2 _ tw_6_79) (S.2.2.2.2 _ tw_2_53) (S.2.2.2.2 _ tw_2_52) (S.2.2.2.2 _ tw_1_18) C0.2.1 M.1 M.2.1 M.2.2 k ws.length 5 5 (hw9) (hw8) rfl rfl rfl (by decide) (by decide) (nI_pos (by omega)) (by rw [ez, ec]; omega) (by rw [ez, ec]; omega) (fun i _ => hf _) (Nat.le_of_ble_eq_true rfl) (Nat.le_of_ble_eq_true rfl) dJ7_copyOfRangeByte_39247_27 (fun H locs hP hD hS => ?_)
  rw [ez, ec] at hP hD
  rw [b_set_last] at hP hD
  have M : bM G n0 (ws ++ [(b2, .inl (G.2.1 5, n, .inl (va_cpy f (fun _ => 0) 0 0 n)))]) s H locs := ⟨hP, hD, hS⟩
  refine lv_aload hx hb dJ7_copyOfRangeByte_39247_30 (lv_at hl 0 rfl) ?_
  exact b_retA S M hr (Or.inr ⟨_, rfl⟩) hlk ⟨b2, _, rfl, rfl, sb_fitC hf sb_fit0, fun j hj => sb_cpy0 hj⟩ (by first | omega | (dsimp only; omega) | dsimp only) (by first | omega | (dsimp only; omega) | dsimp only) dJ7_copyOfRangeByte_39247_32
theorem k_J7_copyOfRange_39247 : gMV yJ7_copyOfRange_39247 cJ7_copyOfRange_39247 3 (some (.array .byte)) 3 := ⟨tw_6_188, tw_1_28, by decide⟩
theorem c_J7_copyOfRange_39247 (l : Launch) (G : gT) (n0 : Nat) (ws : va_W) {b mm n k ms : Nat} {f : Nat → Int32} (hw : ws[k]? = some (b, .inl (G.2.1 5, mm, .inl f))) (hle : n ≤ mm) (hm : mm ≤ 65536) (hf : sb_Fit f) (hms : n ≤ ms) : bCT l yJ7_copyOfRange_39247 cJ7_copyOfRange_39247 3 (some (.array .byte)) { frames := 2, cells := 1, slots := ms, locals := 84 } G n0 [.ref b, .int 0, .int (nI n)] ws (fun v ws' => ∃ b2 f2, v = some (.ref b2) ∧ ws' = ws ++ [(b2, .inl (G.2.1 5, n, .inl f2))] ∧ sb_Fit f2 ∧ ∀ j, j < n → f2 j = f j) := by
  refine bCT_of (by decide) (Nat.le_of_ble_eq_true rfl) (fun p e s m args below meth c ls S hr hlk hnm C0 hl H locs M => ?_)
  have hx := S.1
  have hb := S.2.1
  refine lv_iload_n hx hb dJ7_copyOfRange_39247_0 rfl (lv_at hl 1 rfl) ?_
  refine lv_if_ne (tgt := 10) hx hb dJ7_copyOfRange_39247_1 (by decide) (fun c1 => absurd c1 (fun h => h rfl)) (fun c1 => ?_)
  refine lv_iload_n hx hb dJ7_copyOfRange_39247_4 rfl (lv_at hl 2 rfl) ?_
  refine lv_aload_n hx hb dJ7_copyOfRange_39247_5 rfl (lv_at hl 0 rfl) ?_
  refine b_alen S C0 M k (hw) (t := 5) rfl (v := nI mm) rfl dJ7_copyOfRange_39247_6 ?_
  by_cases h : n = mm
  · refine lv_icmp_eq (tgt := 17) hx hb dJ7_copyOfRange_39247_7 (by decide) (fun c1 => ?_) (fun c1 => absurd (congrArg nI h) c1)
    refine lv_aload_n hx hb dJ7_copyOfRange_39247_17 rfl (lv_at hl 0 rfl) ?_
    refine va_clone (ad := "[B") (q0 := k) (t0 := 5) hx hb (S.2.2.1.trans hl.1.symm) S.2.2.2.1 (S.2.2.2.2 _ tw_6_71) (S.2.2.2.2 _ tw_6_72) (S.2.2.2.2 _ tw_6_73) (S.2.2.2.2 _ tw_6_74) (S.2.2.2.2 _ tw_6_75) C0.2.2.2.1.2 C0.2.1 M.1 M.2.1 M.2.2 (bA_in C0) hw rfl (C0.2.1.2 5 _ rfl).2 (va_fit (fun i _ => hf i)) (Nat.le_of_ble_eq_true rfl) (Nat.le_of_ble_eq_true rfl) (by first | omega | (dsimp only; omega) | dsimp only) (by first | omega | (dsimp only; omega) | dsimp only) dJ7_copyOfRange_39247_18 (fun b2 H hK hP hD hS => ?_)
    have M : bM G n0 (ws ++ [(b2, .inl (G.2.1 5, mm, .inl f))]) s H locs := ⟨hP, hD, hS⟩
    have hw8 : (ws ++ [((b2, .inl (G.2.1 5, mm, .inl f)) : Nat × va_E)])[ws.length]? = some (b2, .inl (G.2.1 5, mm, .inl f)) := by rw [List.getElem?_append_right (Nat.le_refl _), Nat.sub_self]; rfl
    refine va_castA hx hb S.2.2.2.1 (S.2.2.2.2 _ tw_6_77) M.1 ws.length hw8 (C0.2.1.2 5 _ rfl).2 dJ7_copyOfRange_39247_21 ?_
    exact b_retA S M hr (Or.inr ⟨_, rfl⟩) hlk ⟨b2, f, rfl, by rw [h], hf, fun _ _ => rfl⟩ (by first | omega | (dsimp only; omega) | dsimp only) (by first | omega | (dsimp only; omega) | dsimp only) dJ7_copyOfRange_39247_24
  refine lv_icmp_eq (tgt := 17) hx hb dJ7_copyOfRange_39247_7 (by decide) (fun c1 => absurd c1 (fun z => h ((nI_eq (by omega) (by omega)).mp z))) (fun c1 => ?_)
  refine lv_aload_n hx hb dJ7_copyOfRange_39247_10 rfl (lv_at hl 0 rfl) ?_
  refine lv_iload_n hx hb dJ7_copyOfRange_39247_11 rfl (lv_at hl 1 rfl) ?_
  refine lv_iload_n hx hb dJ7_copyOfRange_39247_12 rfl (lv_at hl 2 rfl) ?_
  refine b_go M (b_stat S M C0 hl (c_J7_copyOfRangeByte_39247 l G n0 ws (k := k) (ms := ms) hw (by omega) hm hf hms) k_J7_copyOfRangeByte_39247 tw_6_190 tw_6_189 rfl rfl rfl ⟨Nat.le_of_ble_eq_true rfl, Nat.le_of_ble_eq_true rfl⟩ ⟨(by first | omega | (dsimp only; omega) | dsimp only), (by first | omega | (dsimp only; omega) | dsimp only)⟩ dJ7_copyOfRange_39247_13) rfl rfl (fun v ws1 H locs hp M => ?_)
  obtain ⟨b2, f2, rfl, rfl, hf2, hk2⟩ := hp
  show W p l e _ s m args below meth c H locs _ _ _ (F0 m 16 ls [.ref b2])
  exact b_retA S M hr (Or.inr ⟨_, rfl⟩) hlk ⟨b2, f2, rfl, rfl, hf2, hk2⟩ (by first | omega | (dsimp only; omega) | dsimp only) (by first | omega | (dsimp only; omega) | dsimp only) dJ7_copyOfRange_39247_16
theorem k_J0_init_db425 : gMV yJ0_init_db425 cJ0_init_db425 5 none 2 := ⟨tw_6_170, tw_1_17, by decide⟩
set_option maxHeartbeats 1000000 in
theorem c_J0_init_db425 (l : Launch) (G : gT) (n0 : Nat) {q b qs mm n ms : Nat} {ml : Int32} {f : Nat → Int32} (hle2 : n ≤ mm) (hm : mm ≤ 65536) (hf : sb_Fit f) (hms : n ≤ ms) : bCT l yJ0_init_db425 cJ0_init_db425 5 none { frames := 3, cells := 1, slots := ms, locals := 106 } G n0 [.ref qs, .ref q, .null] [(q, .inr (1, [.ref b, .int 0, .int ml, .int (nI n)])), (b, .inl (G.2.1 5, mm, .inl f)), (qs, .inr (0, [.null, .int 0, .int 0, .int 0]))] (fun v ws' => ∃ b2 f2, v = none ∧ ws' = [(q, .inr (1, [.ref b, .int 0, .int ml, .int (nI n)])), (b, .inl (G.2.1 5, mm, .inl f)), (qs, .inr (0, [.ref b2, .int 0, .int 0, .int 0])), (b2, .inl (G.2.1 5, n, .inl f2))] ∧ sb_Fit f2 ∧ ∀ j, j < n → f2 j = f j) := by
  refine bCT_of (by decide) (Nat.le_of_ble_eq_true rfl) (fun p e s m args below meth c ls S hr hlk hnm C0 hl H locs M => ?_)
  have hx := S.1
  have hb := S.2.1
  refine lv_aload_n hx hb dJ0_init_db425_0 rfl (lv_at hl 0 rfl) ?_
  refine n_obj S hl tw_6_171 tw_1_41 tw_1_42 rfl rfl dJ0_init_db425_1 ?_
  refine lv_aload_n hx hb dJ0_init_db425_4 rfl (lv_at hl 1 rfl) ?_
  refine b_go1 M (b_inh (C := RJ4) (owner := RJ5) S M C0 hl (c_J5_getValue_6d5f1 l G n0 _ (k := 0) rfl) (va_cwU 0 S.2.2.2.2 (b_good6 tw_6_172 tw_6_174 tw_6_175 tw_6_173 tw_1_24 tw_6_176) rfl rfl rfl rfl (by decide) ⟨Nat.le_of_ble_eq_true rfl, Nat.le_of_ble_eq_true rfl⟩) (b_recv (ci := 1) (q := (RJ4, TJ4, 4)) C0 M 0 rfl rfl) rfl rfl rfl ⟨(by first | omega | (dsimp only; omega) | dsimp only), (by first | omega | (dsimp only; omega) | dsimp only)⟩ dJ0_init_db425_5) (fun _ _ h => h) rfl rfl (fun H locs M => ?_)
  show W p l e _ s m args below meth c H locs _ _ _ (F0 m 8 ls [.ref b])
  refine lv_astore_n (lv' := [(3, .ref b), (0, .ref qs), (1, .ref q), (2, .null)]) hx hb dJ0_init_db425_8 rfl hl (by decide) rfl (fun ls hl => ?_)
  refine lv_aload_n hx hb dJ0_init_db425_9 rfl (lv_at hl 2 rfl) ?_
  refine b_go1 M (b_inh (C := RJ4) (owner := RJ5) S M C0 hl (c_J4_length_8abf5 l G n0 _ rfl) (va_cwO 0 S.2.2.2.2 (b_good7 tw_6_177 tw_6_179 tw_6_178 tw_6_180 tw_6_181 tw_1_25 tw_6_182) rfl rfl rfl tw_6_184 (by decide) ⟨Nat.le_of_ble_eq_true rfl, Nat.le_of_ble_eq_true rfl⟩) (b_recv (ci := 1) (q := (RJ4, TJ4, 4)) C0 M 0 rfl rfl) rfl rfl rfl ⟨(by first | omega | (dsimp only; omega) | dsimp only), (by first | omega | (dsimp only; omega) | dsimp only)⟩ dJ0_init_db425_10) (fun _ _ h => h) rfl rfl (fun H locs M => ?_)
  show W p l e _ s m args below meth c H locs _ _ _ (F0 m 13 ls [.int (nI n)])
  refine lv_istore (lv' := [(4, .int (nI n)), (3, .ref b), (0, .ref qs), (1, .ref q), (2, .null)]) hx hb dJ0_init_db425_13 hl (by decide) rfl (fun ls hl => ?_)
  refine lv_aload_n hx hb dJ0_init_db425_15 rfl (lv_at hl 3 rfl) ?_
  refine b_go1 M (b_inh (C := RJ4) (owner := RJ5) S M C0 hl (c_J5_isLatin1_aae02 l G n0 _ (k := 0) rfl) (va_cwU 0 S.2.2.2.2 (b_good6 tw_6_185 tw_6_82 tw_6_83 tw_6_81 tw_1_24 tw_6_84) rfl rfl rfl rfl (by decide) ⟨Nat.le_of_ble_eq_true rfl, Nat.le_of_ble_eq_true rfl⟩) (b_recv (ci := 1) (q := (RJ4, TJ4, 4)) C0 M 0 rfl rfl) rfl rfl rfl ⟨(by first | omega | (dsimp only; omega) | dsimp only), (by first | omega | (dsimp only; omega) | dsimp only)⟩ dJ0_init_db425_16) (fun _ _ h => h) rfl rfl (fun H locs M => ?_)
  show W p l e _ s m args below meth c H locs _ _ _ (F0 m 19 ls [.int 1])
  refine lv_if_eq (tgt := 41) hx hb dJ0_init_db425_19 (by decide) (fun c1 => absurd c1 (by decide)) (fun c1 => ?_)
  refine lv_aload_n hx hb dJ0_init_db425_22 rfl (lv_at hl 2 rfl) ?_
  refine lv_iconst (v := 0) hx hb dJ0_init_db425_23 (by decide) ?_
  refine b_putF (ws' := [(q, .inr (1, [.ref b, .int 0, .int ml, .int (nI n)])), (b, .inl (G.2.1 5, mm, .inl f)), (qs, .inr (0, [.null, .int 0, .int 0, .int 0]))]) S C0 M inJ0 tyJ0 tyJ0_ok nmJ0 2 rfl rfl 1 (by decide) tw_6_214 rfl rfl hnm rfl rfl rfl (Nat.le_of_ble_eq_true rfl) rfl dJ0_init_db425_24 (fun H locs M => ?_)
  refine lv_aload_n hx hb dJ0_init_db425_27 rfl (lv_at hl 2 rfl) ?_
  refine lv_aload_n hx hb dJ0_init_db425_28 rfl (lv_at hl 1 rfl) ?_
  refine lv_iconst (v := 0) hx hb dJ0_init_db425_29 (by decide) ?_
  refine lv_iload hx hb dJ0_init_db425_30 (lv_at hl 0 rfl) ?_
  refine b_go M (b_stat S M C0 hl (c_J7_copyOfRange_39247 l G n0 _ (k := 1) (ms := ms) rfl hle2 hm hf hms) k_J7_copyOfRange_39247 tw_6_187 tw_6_186 rfl rfl rfl ⟨Nat.le_of_ble_eq_true rfl, Nat.le_of_ble_eq_true rfl⟩ ⟨(by first | omega | (dsimp only; omega) | dsimp only), (by first | omega | (dsimp only; omega) | dsimp only)⟩ dJ0_init_db425_32) rfl rfl (fun v ws1 H locs hp M => ?_)
  obtain ⟨b2, f2, rfl, rfl, hf2, hk2⟩ := hp
  show W p l e _ s m args below meth c H locs _ _ _ (F0 m 35 ls [.ref b2, .ref qs])
  refine b_putF (ws' := [(q, .inr (1, [.ref b, .int 0, .int ml, .int (nI n)])), (b, .inl (G.2.1 5, mm, .inl f)), (qs, .inr (0, [.ref b2, .int 0, .int 0, .int 0])), (b2, .inl (G.2.1 5, n, .inl f2))]) S C0 M inJ0 tyJ0 tyJ0_ok nmJ0 2 rfl rfl 0 (by decide) tw_6_213 rfl rfl hnm rfl rfl rfl (Nat.le_of_ble_eq_true rfl) rfl dJ0_init_db425_35 (fun H locs M => ?_)
  refine lv_goto (tgt := 97) hx hb dJ0_init_db425_38 (by decide) ?_
  exact b_ret0 S M hr hlk ⟨b2, f2, rfl, rfl, hf2, hk2⟩ (by first | omega | (dsimp only; omega) | dsimp only) (by first | omega | (dsimp only; omega) | dsimp only) dJ0_init_db425_97
theorem k_J0_init_81219 : gMV yJ0_init_81219 cJ0_init_81219 2 none 1 := ⟨tw_6_167, tw_1_17, by decide⟩
theorem c_J0_init_81219 (l : Launch) (G : gT) (n0 : Nat) {q b qs mm n ms : Nat} {ml : Int32} {f : Nat → Int32} (hle2 : n ≤ mm) (hm : mm ≤ 65536) (hf : sb_Fit f) (hms : n ≤ ms) : bCT l yJ0_init_81219 cJ0_init_81219 2 none { frames := 4, cells := 1, slots := ms, locals := 130 } G n0 [.ref qs, .ref q] [(q, .inr (1, [.ref b, .int 0, .int ml, .int (nI n)])), (b, .inl (G.2.1 5, mm, .inl f)), (qs, .inr (0, [.null, .int 0, .int 0, .int 0]))] (fun v ws' => ∃ b2 f2, v = none ∧ ws' = [(q, .inr (1, [.ref b, .int 0, .int ml, .int (nI n)])), (b, .inl (G.2.1 5, mm, .inl f)), (qs, .inr (0, [.ref b2, .int 0, .int 0, .int 0])), (b2, .inl (G.2.1 5, n, .inl f2))] ∧ sb_Fit f2 ∧ ∀ j, j < n → f2 j = f j) := by
  refine bCT_of (by decide) (Nat.le_of_ble_eq_true rfl) (fun p e s m args below meth c ls S hr hlk hnm C0 hl H locs M => ?_)
  have hx := S.1
  have hb := S.2.1
  refine lv_aload_n hx hb dJ0_init_81219_0 rfl (lv_at hl 0 rfl) ?_
  refine lv_aload_n hx hb dJ0_init_81219_1 rfl (lv_at hl 1 rfl) ?_
  refine lv_null hx hb dJ0_init_81219_2 ?_
  refine b_go M (b_init S M C0 hl (c_J0_init_db425 l G n0 (ms := ms) hle2 hm hf hms) k_J0_init_db425 tw_6_169 rfl tw_6_168 rfl rfl rfl ⟨Nat.le_of_ble_eq_true rfl, Nat.le_of_ble_eq_true rfl⟩ ⟨(by first | omega | (dsimp only; omega) | dsimp only), (by first | omega | (dsimp only; omega) | dsimp only)⟩ dJ0_init_81219_3) rfl rfl (fun v ws1 H locs hp M => ?_)
  obtain ⟨b2, f2, rfl, rfl, hf2, hk2⟩ := hp
  show W p l e _ s m args below meth c H locs _ _ _ (F0 m 6 ls [])
  exact b_ret0 S M hr hlk ⟨b2, f2, rfl, rfl, hf2, hk2⟩ (by first | omega | (dsimp only; omega) | dsimp only) (by first | omega | (dsimp only; omega) | dsimp only) dJ0_init_81219_6
theorem k_J4_toString_0e30d : gMV yJ4_toString_0e30d cJ4_toString_0e30d 1 (some (.object "java/lang/String")) 0 := ⟨tw_6_163, tw_1_25, by decide⟩
theorem c_J4_toString_0e30d (l : Launch) (G : gT) (n0 : Nat) {q b mm n ms : Nat} {ml : Int32} {f : Nat → Int32} (hle2 : n ≤ mm) (hm : mm ≤ 65536) (hf : sb_Fit f) (hms : n ≤ ms) : bCT l yJ4_toString_0e30d cJ4_toString_0e30d 1 (some (.object "java/lang/String")) { frames := 5, cells := 2, slots := (4 + ms), locals := 151 } G n0 [.ref q] (bB G q b ml (nI n) mm f) (fun v ws' => ∃ qs b2 f2, v = some (.ref qs) ∧ ws' = [(q, .inr (1, [.ref b, .int 0, .int ml, .int (nI n)])), (b, .inl (G.2.1 5, mm, .inl f)), (qs, .inr (0, [.ref b2, .int 0, .int 0, .int 0])), (b2, .inl (G.2.1 5, n, .inl f2))] ∧ sb_Fit f2 ∧ ∀ j, j < n → f2 j = f j) := by
  refine bCT_of (by decide) (Nat.le_of_ble_eq_true rfl) (fun p e s m args below meth c ls S hr hlk hnm C0 hl H locs M => ?_)
  have hx := S.1
  have hb := S.2.1
  refine b_newS S C0 M tw_6_164 tw_5_170 tw_1_17 inJ0 (by first | omega | (dsimp only; omega) | dsimp only) (by first | omega | (dsimp only; omega) | dsimp only) rfl rfl dJ4_toString_0e30d_0 (fun qs H M => ?_)
  refine lv_dup hx hb dJ4_toString_0e30d_3 rfl ?_
  refine lv_aload_n hx hb dJ4_toString_0e30d_4 rfl (lv_at hl 0 rfl) ?_
  refine b_go M (b_init S M C0 hl (c_J0_init_81219 l G n0 (ms := ms) hle2 hm hf hms) k_J0_init_81219 tw_6_166 rfl tw_6_165 rfl rfl rfl ⟨Nat.le_of_ble_eq_true rfl, Nat.le_of_ble_eq_true rfl⟩ ⟨(by first | omega | (dsimp only; omega) | dsimp only), (by first | omega | (dsimp only; omega) | dsimp only)⟩ dJ4_toString_0e30d_5) rfl rfl (fun v ws1 H locs hp M => ?_)
  obtain ⟨b2, f2, rfl, rfl, hf2, hk2⟩ := hp
  show W p l e _ s m args below meth c H locs _ _ _ (F0 m 8 ls [.ref qs])
  exact b_retA S M hr (Or.inl ⟨_, rfl⟩) hlk ⟨qs, b2, f2, rfl, rfl, hf2, hk2⟩ (by first | omega | (dsimp only; omega) | dsimp only) (by first | omega | (dsimp only; omega) | dsimp only) dJ4_toString_0e30d_8
