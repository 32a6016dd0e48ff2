/-! STRINGBUILDER: the JDK's methods, walked over a world of few cells. n0: all that a chain makes lies from there on -/
def bA (n0 : Nat) : Nat → Prop := fun q => n0 ≤ q
def bDg (d1 : Nat) (tab : Nat → Int32) (n0 : Nat) (U : State) : Prop := va_Z RJ6 "DigitOnes" "[B" (.ref d1) (bA n0) U U.heap ∧ va_T .byte d1 100 (fun j => .int (tab j)) (bA n0) U U.heap ∧ ∀ r, r < 10 → tab r = nI (48 + r)
def bC (G : gT) (n0 : Nat) (U : State) : Prop := n0 ≤ U.heap.size ∧ va_K (gtD G) vwCl (gtys G) U ∧ gCST G (bA n0) U ∧ ∃ d1 tab, bDg d1 tab n0 U
def bM (G : gT) (n0 : Nat) (ws : va_W) (s : State) (H : Heap) (locs : List Loc) : Prop := va_P (gtD G) vwCl ws H ∧ va_D (bA n0) ws ∧ va_S (bA n0) s.heap H locs
theorem bA_in {n0 : Nat} {s : State} {G : gT} (h : bC G n0 s) : ∀ q, s.heap.size ≤ q → bA n0 q := fun q hq => Nat.le_trans h.1 hq
theorem bC.call {G : gT} {n0 : Nat} {s U : State} {H : Heap} {locs : List Loc} (h : bC G n0 s) (hS : va_S (bA n0) s.heap H locs) (hU : U.heap = H) (hW : s.WarmedH U.vm) : bC G n0 U := by
  obtain ⟨h0, hK, ⟨h1, h2, h3, ⟨h4, h6, h7, h8⟩, h5⟩, d1, tab, hZ, hT, hd⟩ := h
  refine ⟨by rw [hU]; exact Nat.le_trans h0 hS.1, hK.moved hW.alike, ⟨fun w hw => word_at hW (good_of_word (List.mem_filter.mp hw).2) (h1 w hw), fun w hw => g_warmN (List.all_eq_true.mp gNs_ok w hw) hW (h2 w hw), fun i hi => (h3 i hi).warm hW, ⟨fun q hq => (h4 q hq).moved hW.alike, ?_, fun x hx => ?_, fun k h16 h34 => ?_⟩, ?_⟩, d1, tab, ?_, ?_, hd⟩
  · rw [hU]; exact (va_T.moved hW.alike h6).kept hS.2.1
  · rw [hU]; exact (vk_S.moved hW.alike (h7 x hx)).kept hS.2.1
  · rw [hU]; exact (vk_S.moved hW.alike (h8 k h16 h34)).kept hS.2.1
  · rw [hU]; exact (h5.moved hW.alike).kept hS.2.1
  · rw [hU]; exact (va_Z.moved hW.alike hZ).kept hS.2.1
  · rw [hU]; exact (va_T.moved hW.alike hT).kept hS.2.1
def bPc (G : gT) (n0 : Nat) (av : List Value) (ws : va_W) : Array Value → State → Prop := va_Pc av (fun U => va_P (gtD G) vwCl ws U.heap ∧ va_D (bA n0) ws ∧ bC G n0 U)
def bQc (G : gT) (n0 : Nat) (post : Option Value → va_W → Prop) : Array Value → State → Outcome → State → Prop := fun _ st o t => (∃ (v : Option Value) (ws : va_W), o = .returned v ∧ post v ws ∧ va_P (gtD G) vwCl ws t.heap ∧ va_D (bA n0) ws) ∧ va_F (bA n0) st t
def bCT (l : Launch) (y : MethodName) (cc : ByteArray) (maxL : Nat) (ret : Option FieldType) (rm : Room) (G : gT) (n0 : Nat) (av : List Value) (ws : va_W) (post : Option Value → va_W → Prop) : Prop :=
  Met l y [.code y cc maxL ret] rm (bPc G n0 av ws) (bQc G n0 post) rm.cells rm.slots (bA n0)
theorem bPc_blind {G : gT} {n0 : Nat} {av : List Value} {ws : va_W} : FrameBlind (bPc G n0 av ws) := by
  rintro a U g mk ⟨h1, hP, hD, h0, hK, hC, d1, tab, hZ, hT, hd⟩
  exact ⟨h1, hP, hD, h0, va_K.moved (u := U) (U := U.calling g mk a) (Vm.Alike.refl U.vm) hK, gCST_calling hC, d1, tab, va_Z.moved (u := U) (U := U.calling g mk a) (Vm.Alike.refl U.vm) hZ, va_T.moved (u := U) (U := U.calling g mk a) (Vm.Alike.refl U.vm) hT, hd⟩
theorem bCT_of {l : Launch} {y : MethodName} {cc : ByteArray} {maxL : Nat} {ret : Option FieldType} {rm : Room} {G : gT} {n0 : Nat} {av : List Value} {ws : va_W} {post : Option Value → va_W → Prop} (hy : plainName y.cls = true) (hlen : (lg_sl av).length ≤ maxL)
    (body : ∀ (p : Program) (e : Env) (s : State) (m : MethodId) (args : Array Value) (below : List Frame) (meth : Method) (c : Code) (ls : Array Slot), CallFix p m c cc maxL s args gTs y.cls → meth.sig.returnType = ret → meth.locks = false → meth.name = y.name → bC G n0 s → lv_has ls maxL (lv_args 0 av) → ∀ (H : Heap) (locs : List Loc), bM G n0 ws s H locs →
      W p l e rm s m args below meth c H locs 0 0 (MQ below (bQc G n0 post) args s rm.cells rm.slots (bA n0)) (F0 m 0 ls [])) : bCT l y cc maxL ret rm G n0 av ws post := by
  refine Met.ofW (cc := cc) (maxL := maxL) (ret := ret) hy rfl ?_
  intro p e s m args below meth c s₁ B hml hv
  obtain ⟨rfl, hP, hD, hC⟩ := hv
  have hl := lv_entry av hlen
  rw [lg_entry_eq]
  exact body p e s m av.toArray below meth c _ ⟨B.exec, B.bytes, hml, findClass_of_methodNamed B.named, fun w hw => g_at hw hC.2.2.1.1⟩ B.returns B.notSynchronized (name_of_methodNamed B.named B.method).1 hC hl _ _ ⟨hP, hD, va_S.rf⟩
section BROWS
variable {p : Program} {l : Launch} {e : Env} {R : Room} {s : State} {m : MethodId} {args : Array Value} {below : List Frame} {meth : Method} {c : Code} {H : Heap} {locs : List Loc} {cells slots : Nat} {Q : State → Prop}
variable {cc : ByteArray} {nL : Nat} {own : String} {pc : Nat} {ls : Array Slot} {rest As : List Value} {G : gT} {n0 : Nat} {ws : va_W} {post : Option Value → va_W → Prop} {lv : List (Nat × Value)}
variable {y : MethodName} {bytes : ByteArray} {maxL n index : Nat} {ret : Option FieldType} {rm : Room} {b : Addr}
theorem b_pre {av : List Value} (M : bM G n0 ws s H locs) (C0 : bC G n0 s) : FrameBlind (bPc G n0 av ws) ∧ ∀ U : State, U.heap = H → s.WarmedH U.vm → bPc G n0 av ws av.toArray U :=
  ⟨bPc_blind, fun U hU hW => ⟨rfl, by rw [hU]; exact M.1, M.2.1, C0.call M.2.2 hU hW⟩⟩
/-- behind a call -/
theorem b_go {mc ms : Nat} {st0 : List Value} {a : Array Value} (M : bM G n0 ws s H locs) (hr : va_Run p l e R s m args below meth c H locs cells slots mc ms (F0 m pc ls st0) rest (bQc G n0 post a) (bA n0)) {cells' slots' : Nat} (hc : cells + mc = cells') (hs : slots + ms = slots')
    (kk : ∀ (v : Option Value) (ws : va_W) (H : Heap) (locs : List Loc), post v ws → bM G n0 ws s H locs → W p l e R s m args below meth c H locs cells' slots' Q (F0 m (pc + 3) ls (v.toList ++ rest))) : W p l e R s m args below meth c H locs cells slots Q (F0 m pc ls st0) := by
  subst hc; subst hs
  intro T hT X
  obtain ⟨v, st₀, t, T', L, h0, X', hL, e1, e2, ⟨⟨v2, w2, hv, hp, hP, hD⟩, hz, hk⟩, st⟩ := hr T hT X
  cases hv
  rw [h0] at hz hk
  have hS := M.2.2
  have hM : bM G n0 w2 s T'.heap (locs ++ L) := by
    refine ⟨by rw [e1]; exact hP, hD, Nat.le_trans hS.1 (by rw [e1]; exact hz), fun q h1 h2 => ?_, fun q hq => ?_⟩
    · rw [e1, hk q (Nat.lt_of_lt_of_le h1 hS.1) h2]
      exact hS.2.1 q h1 h2
    · rcases List.mem_append.mp hq with h | h
      · exact hS.2.2 q h
      · exact hL q h
  obtain ⟨t2, a1, b1⟩ := kk v w2 T'.heap (locs ++ L) hp hM T' rfl X'
  exact ⟨t2, st t2 a1, b1⟩
theorem b_stat (S : CallFix p m c cc nL s args gTs own) (M : bM G n0 ws s H locs) (C0 : bC G n0 s) (hl : lv_has ls nL lv) (hM : bCT l y bytes maxL ret rm G n0 As ws post) (hk : gMV y bytes maxL ret n) (hst1 : Cond.static y ∈ gTs) (hlink : Cond.methodLink own index y ∈ gTs)
    (hn : As.length = n) {st0 : List Value} (hst : st0 = As.reverse ++ rest) (hW : Nat.ble (0 + (rest.map fun v => v.category).sum) 8 = true) (r1 : rm.frames + 1 ≤ R.frames ∧ 8 + (maxL + 11) + rm.locals ≤ R.locals) (r2 : cells + rm.cells ≤ R.cells ∧ slots + rm.slots ≤ R.slots) (hdg : decode cc pc = .ok (.invokestatic index, 3)) :
    va_Run p l e R s m args below meth c H locs cells slots rm.cells rm.slots (F0 m pc ls st0) rest (bQc G n0 post As.toArray) (bA n0) := by
  obtain ⟨k1, k2, k3⟩ := hk
  have hts := S.2.2.2.2
  exact va_runS S hM ⟨callB_of n hts (gGood k1) rfl rfl rfl (hts _ k2) (hts _ hlink) k3 r1, hts _ hst1⟩ (b_pre M C0) rfl hn hl.1 hst (Nat.le_of_ble_eq_true hW) hdg r2
/-- a method of the object's own class -/
theorem b_virt {C : String} (S : CallFix p m c cc nL s args gTs own) (M : bM G n0 ws s H locs) (C0 : bC G n0 s) (hl : lv_has ls nL lv) (hM : bCT l y bytes maxL ret rm G n0 (.ref b :: As) ws post) (hk : gMV y bytes maxL ret n) (hin : Cond.instanceMethod y ∈ gTs) (hsel : Cond.selects C y y ∈ gTs) (hlink : Cond.methodLink own index y ∈ gTs) (hrecv : ∃ cellB : Cell, H[b]? = some cellB ∧ cellB.vm.isStatics = false ∧ s.vm.findClass C = some cellB.cls)
    (hn : As.length = n) {st0 : List Value} (hst : st0 = As.reverse ++ .ref b :: rest) (hW : Nat.ble (0 + (rest.map fun v => v.category).sum) 8 = true) (r1 : rm.frames + 1 ≤ R.frames ∧ 8 + (maxL + 11) + rm.locals ≤ R.locals) (r2 : cells + rm.cells ≤ R.cells ∧ slots + rm.slots ≤ R.slots) (hdg : decode cc pc = .ok (.invokevirtual index, 3)) :
    va_Run p l e R s m args below meth c H locs cells slots rm.cells rm.slots (F0 m pc ls st0) rest (bQc G n0 post (Value.ref b :: As).toArray) (bA n0) := by
  obtain ⟨k1, k2, k3⟩ := hk
  have hts := S.2.2.2.2
  exact va_runV S hM ⟨callB_of n hts (gGood k1) rfl rfl rfl (hts _ k2) (hts _ hlink) k3 r1, hts _ hin, hts _ hsel⟩ ⟨(b_pre M C0).1, hrecv, (b_pre M C0).2⟩ rfl hn hl.1 hst (Nat.le_of_ble_eq_true hW) hdg r2
/-- a constructor -/
theorem b_init (S : CallFix p m c cc nL s args gTs own) (M : bM G n0 ws s H locs) (C0 : bC G n0 s) (hl : lv_has ls nL lv) (hM : bCT l y bytes maxL none rm G n0 (.ref b :: As) ws post) (hk : gMV y bytes maxL none n) (hin : Cond.instanceMethod y ∈ gTs) (hnm : y.name = "<init>") (hlink : Cond.methodLink own index y ∈ gTs)
    (hn : As.length = n) {st0 : List Value} (hst : st0 = As.reverse ++ .ref b :: rest) (hW : Nat.ble (0 + (rest.map fun v => v.category).sum) 8 = true) (r1 : rm.frames + 1 ≤ R.frames ∧ 8 + (maxL + 11) + rm.locals ≤ R.locals) (r2 : cells + rm.cells ≤ R.cells ∧ slots + rm.slots ≤ R.slots) (hdg : decode cc pc = .ok (.invokespecial index, 3)) :
    va_Run p l e R s m args below meth c H locs cells slots rm.cells rm.slots (F0 m pc ls st0) rest (bQc G n0 post (Value.ref b :: As).toArray) (bA n0) := by
  obtain ⟨k1, k2, k3⟩ := hk
  have hts := S.2.2.2.2
  exact va_runI S hM ⟨callB_of n hts (gGood k1) rfl rfl rfl (hts _ k2) (hts _ hlink) k3 r1, hnm, hts _ hin⟩ (b_pre M C0) rfl hn hl.1 hst (Nat.le_of_ble_eq_true hW) hdg r2
/-- super.m(..) -/
theorem b_sup {C : String} {cC : ClassId} (hat : ClassAt s C cC) (S : CallFix p m c cc nL s args gTs own) (M : bM G n0 ws s H locs) (C0 : bC G n0 s) (hl : lv_has ls nL lv) (hM : bCT l y bytes maxL ret rm G n0 (.ref b :: As) ws post) (hT : GoodIn gTs (va_wsSU own index y [.code y bytes maxL ret])) (hd : y.name ≠ "<init>" ∧ (parseMethodDescriptor y.desc).map (fun d => d.parameters.length) = some n) (hrecv : ∃ cellB : Cell, H[b]? = some cellB ∧ cellB.vm.isStatics = false ∧ s.vm.findClass C = some cellB.cls)
    (hn : As.length = n) {st0 : List Value} (hst : st0 = As.reverse ++ .ref b :: rest) (hW : Nat.ble (0 + (rest.map fun v => v.category).sum) 8 = true) (r1 : rm.frames + 1 ≤ R.frames ∧ 8 + (maxL + 11) + rm.locals ≤ R.locals) (r2 : cells + rm.cells ≤ R.cells ∧ slots + rm.slots ≤ R.slots) (hdg : decode cc pc = .ok (.invokespecial index, 3)) :
    va_Run p l e R s m args below meth c H locs cells slots rm.cells rm.slots (F0 m pc ls st0) rest (bQc G n0 post (Value.ref b :: As).toArray) (bA n0) :=
  va_runSU hat S hM (va_cwSU n S.2.2.2.2 hT rfl rfl rfl hd r1) ⟨(b_pre M C0).1, hrecv, (b_pre M C0).2⟩ rfl hn hl.1 hst (Nat.le_of_ble_eq_true hW) hdg r2
/-- a method of the superclass, by the subclass's object -/
theorem b_inh {C owner : String} {x : MethodName} (S : CallFix p m c cc nL s args gTs own) (M : bM G n0 ws s H locs) (C0 : bC G n0 s) (hl : lv_has ls nL lv) (hM : bCT l y bytes maxL ret rm G n0 (.ref b :: As) ws post) (cw : va_CU R s args own C owner index x y bytes maxL ret [.code y bytes maxL ret] rm rm.cells rm.slots n) (hrecv : ∃ cellB : Cell, H[b]? = some cellB ∧ cellB.vm.isStatics = false ∧ s.vm.findClass C = some cellB.cls)
    (hn : As.length = n) {st0 : List Value} (hst : st0 = As.reverse ++ .ref b :: rest) (hW : Nat.ble (0 + (rest.map fun v => v.category).sum) 8 = true) (r2 : cells + rm.cells ≤ R.cells ∧ slots + rm.slots ≤ R.slots) (hdg : decode cc pc = .ok (.invokevirtual index, 3)) :
    va_Run p l e R s m args below meth c H locs cells slots rm.cells rm.slots (F0 m pc ls st0) rest (bQc G n0 post (Value.ref b :: As).toArray) (bA n0) :=
  va_runU S hM cw ⟨(b_pre M C0).1, hrecv, (b_pre M C0).2⟩ rfl hn hl.1 hst (Nat.le_of_ble_eq_true hW) hdg r2
/-- a private method of the superclass, on the subclass's object -/
theorem b_priv {C : String} {x : MethodName} (S : CallFix p m c cc nL s args gTs own) (M : bM G n0 ws s H locs) (C0 : bC G n0 s) (hl : lv_has ls nL lv) (hM : bCT l y bytes maxL ret rm G n0 (.ref b :: As) ws post) (hk : gMV y bytes maxL ret n) (hin : Cond.instanceMethod y ∈ gTs) (hpriv : (Cond.privateMethod y).before args s = true) (hsel : (Cond.selects C x x).before args s = true) (hxy : x.cls = y.cls) (hlink : Cond.methodLink own index y ∈ gTs) (hrecv : ∃ cellB : Cell, H[b]? = some cellB ∧ cellB.vm.isStatics = false ∧ s.vm.findClass C = some cellB.cls)
    (hn : As.length = n) {st0 : List Value} (hst : st0 = As.reverse ++ .ref b :: rest) (hW : Nat.ble (0 + (rest.map fun v => v.category).sum) 8 = true) (r1 : rm.frames + 1 ≤ R.frames ∧ 8 + (maxL + 11) + rm.locals ≤ R.locals) (r2 : cells + rm.cells ≤ R.cells ∧ slots + rm.slots ≤ R.slots) (hdg : decode cc pc = .ok (.invokevirtual index, 3)) :
    va_Run p l e R s m args below meth c H locs cells slots rm.cells rm.slots (F0 m pc ls st0) rest (bQc G n0 post (Value.ref b :: As).toArray) (bA n0) := by
  obtain ⟨k1, k2, k3⟩ := hk
  have hts := S.2.2.2.2
  have cb : CallB R s args own index y bytes maxL ret [.code y bytes maxL ret] rm rm.cells rm.slots n := callB_of n hts (gGood k1) rfl rfl rfl (hts _ k2) (hts _ hlink) k3 r1
  have hK : Back l R p e below s args y 3 8 (PreOf R rm.cells rm.slots (bPc G n0 (.ref b :: As) ws)) (PostOf (bQc G n0 post) rm.cells rm.slots (bA n0)) := callBack cb hM (b_pre M C0).1
  obtain ⟨-, -, -, -, -, -, hcode, -, hy, hlen, hl1⟩ := cb
  obtain ⟨hx, hb, hml, hown, -⟩ := S
  obtain ⟨cellB, hcB, hoB, -⟩ := hrecv
  have hPc := (b_pre (av := .ref b :: As) M C0).2
  intro T hT X
  obtain ⟨mk, methM, hnamed, hmethM, hstM, habM⟩ := Cond.instanceMethod_spec (hts _ hin)
  obtain ⟨methM', cM, hmethM', -, -, -, -, -, -, hsigM⟩ := Cond.code_spec hnamed hcode
  cases hmethM.symm.trans hmethM'
  obtain ⟨c2, r2', m2, -, -, q3, -, kP, hkP, hkPi⟩ := Cond.selects_spec hsel
  have e0 : mk.cls = m2.cls := Option.some.inj ((findClass_of_methodNamed hnamed).symm.trans (by rw [← hxy]; exact findClass_of_methodNamed q3))
  rw [← e0] at hkP
  have hselP : selectMethod e.platform s.vm cellB.cls mk = .method mk := selectMethod_private hmethM (Cond.privateMethod_at hpriv mk methM hnamed hmethM)
  obtain ⟨vm₁, X₁, hstep₁⟩ := X.invokevirtual hx hown hl1 hnamed hmethM hstM hkP hkPi hy (a := b) (cell := cellB) (by rw [hT]; exact hcB)
    (fun z h => by rw [h] at hoB; cases hoB) hselP hmethM habM hkP hkPi (g := F0 m pc ls st0) rfl (argsL := As) (rest := rest) (hn.trans (hlen _ hsigM)) hst (by rw [hb]; exact hdg)
  obtain ⟨v, ⟨U', l2, c2, s2⟩, X', ⟨g', mk2, t, L, e1, e2, hq, h1, hL, h2, h3⟩, hsteps⟩ := hK m meth c ⟨T.setVm vm₁, locs, cells, slots⟩ { F0 m pc ls st0 with stack := rest } (.invokevirtual index) mk (Value.ref b :: As).toArray X₁ rfl (hl.1.trans hml.symm) (by rw [hb]; exact hdg) (Nat.le_of_ble_eq_true hW) (X₁.named hnamed) ⟨r2.1, r2.2, hPc (T.setVm vm₁) hT X₁.warmed⟩
  dsimp only [Pt.U, Pt.locs, Pt.cells, Pt.slots] at X' e1 e2 h1 h2 h3 hsteps
  subst h1; subst h2; subst h3
  exact ⟨v, (T.setVm vm₁).calling g' mk2 (Value.ref b :: As).toArray, t, U', L, hT, X', hL, e1, e2, hq, fun target h => hstep₁ _ fun acts => by rw [doInvoke_state]; exact hsteps.trans h⟩
/-! the ends -/
theorem b_ret0 (S : CallFix p m c cc nL s args gTs own) (M : bM G n0 ws s H locs) (hr : meth.sig.returnType = none) (hlk : meth.locks = false) (hp : post none ws) (hc : cells ≤ rm.cells) (hs : slots ≤ rm.slots) (hdg : decode cc pc = .ok (.return_, 1)) : W p l e R s m args below meth c H locs cells slots (MQ below (bQc G n0 post) args s rm.cells rm.slots (bA n0)) (F0 m pc ls []) := by
  obtain ⟨hP, hD, hS⟩ := M
  exact W.widen hc hs (W.vret S.1 S.2.1 hr (fun t ht hW => ⟨⟨none, ws, rfl, hp, by rw [ht]; exact hP, hD⟩, hS.F ht⟩) hS.2.2 hdg hlk)
theorem b_retI {x : Int32} (S : CallFix p m c cc nL s args gTs own) (M : bM G n0 ws s H locs) (hr : meth.sig.returnType = some .int) (hlk : meth.locks = false) (hp : post (some (.int x)) ws) (hc : cells ≤ rm.cells) (hs : slots ≤ rm.slots) (hdg : decode cc pc = .ok (.ireturn, 1)) : W p l e R s m args below meth c H locs cells slots (MQ below (bQc G n0 post) args s rm.cells rm.slots (bA n0)) (F0 m pc ls [.int x]) := by
  obtain ⟨hP, hD, hS⟩ := M
  exact W.widen hc hs (W.iret S.1 S.2.1 hr (fun t ht hW => ⟨⟨_, ws, rfl, hp, by rw [ht]; exact hP, hD⟩, hS.F ht⟩) hS.2.2 hdg hlk)
theorem b_retZ {x : Int32} {ty : FieldType} (S : CallFix p m c cc nL s args gTs own) (M : bM G n0 ws s H locs) (hr : meth.sig.returnType = some ty) (hlk : meth.locks = false) (hnar : narrow ty (.int x) = .int x) (hp : post (some (.int x)) ws) (hc : cells ≤ rm.cells) (hs : slots ≤ rm.slots) (hdg : decode cc pc = .ok (.ireturn, 1)) : W p l e R s m args below meth c H locs cells slots (MQ below (bQc G n0 post) args s rm.cells rm.slots (bA n0)) (F0 m pc ls [.int x]) := by
  obtain ⟨hP, hD, hS⟩ := M
  exact W.widen hc hs (W.zret S.1 S.2.1 hr hnar (fun t ht hW => ⟨⟨_, ws, rfl, hp, by rw [ht]; exact hP, hD⟩, hS.F ht⟩) hS.2.2 hdg hlk)
theorem b_retA {a : Nat} {rt : FieldType} (S : CallFix p m c cc nL s args gTs own) (M : bM G n0 ws s H locs) (hr : meth.sig.returnType = some rt) (hrt : (∃ n, rt = .object n) ∨ ∃ t, rt = .array t) (hlk : meth.locks = false) (hp : post (some (.ref a)) ws) (hc : cells ≤ rm.cells) (hs : slots ≤ rm.slots) (hdg : decode cc pc = .ok (.areturn, 1)) : W p l e R s m args below meth c H locs cells slots (MQ below (bQc G n0 post) args s rm.cells rm.slots (bA n0)) (F0 m pc ls [.ref a]) := by
  obtain ⟨hP, hD, hS⟩ := M
  exact W.widen hc hs (W.aret S.1 S.2.1 hr hrt (Or.inr ⟨a, rfl⟩) (fun t ht hW => ⟨⟨_, ws, rfl, hp, by rw [ht]; exact hP, hD⟩, hS.F ht⟩) hS.2.2 hdg hlk)
/-! fields, arrays -/
theorem b_get {ref C : String} {T : u_T} {N ci index a : Nat} (S : CallFix p m c cc nL s args gTs own) (C0 : bC G n0 s) (M : bM G n0 ws s H locs) (hin : ∀ w ∈ u_ws C T N, w ∈ gTs) (q0 : Nat) {fs : List Value} (he : ws[q0]? = some (a, .inr (ci, fs))) (hc : vwCl[ci]? = some (C, T, N)) (k : Nat) (hk : k < N) (hlink : Cond.fieldLink own index ref (T k).2.1 (T k).2.2.1 ∈ gTs) (href : ref = (T k).1) {v : Value} (hv : fs[k]? = some v) (hdg : decode cc pc = .ok (.getfield index, 3))
    (kk : W p l e R s m args below meth c H locs cells slots Q (F0 m (pc + 3) ls (v :: rest))) : W p l e R s m args below meth c H locs cells slots Q (F0 m pc ls (.ref a :: rest)) := by
  obtain ⟨hx, hb, -, hown, hts⟩ := S
  exact va_get hx hb hts hin hown C0.2.1 M.1 q0 he hc k hk (hts _ hlink) (fun x h => by rw [href]; exact h) hv hdg kk
theorem b_put {ref C : String} {T : u_T} {N ci index a : Nat} (S : CallFix p m c cc nL s args gTs own) (C0 : bC G n0 s) (M : bM G n0 ws s H locs) (hin : ∀ w ∈ u_ws C T N, w ∈ gTs) (ty0 : Nat → FieldType) (hty : ∀ k, k < N → parseFieldDescriptor (T k).2.2.1 = some (ty0 k)) (hnm : ∀ a, a < N → ∀ b, b < N → a ≠ b → (T a).2.1 ≠ (T b).2.1) (q0 : Nat) {fs : List Value} (he : ws[q0]? = some (a, .inr (ci, fs))) (hc : vwCl[ci]? = some (C, T, N)) (k : Nat) (hk : k < N) (hlink : Cond.fieldLink own index ref (T k).2.1 (T k).2.2.1 ∈ gTs) (href : ref = (T k).1) (hfin : (T k).2.2.2 = false) {v : Value} (hn : narrow (ty0 k) v = v) (hfit : fits (ty0 k) v = true) (hl : k < fs.length) {ws' : va_W} (hws : ws.set q0 (a, .inr (ci, fs.set k v)) = ws') (hdg : decode cc pc = .ok (.putfield index, 3))
    (kk : ∀ (H : Heap) (locs : List Loc), bM G n0 ws' s H locs → W p l e R s m args below meth c H locs cells slots Q (F0 m (pc + 3) ls rest)) : W p l e R s m args below meth c H locs cells slots Q (F0 m pc ls (v :: .ref a :: rest)) := by
  subst hws
  obtain ⟨hx, hb, -, hown, hts⟩ := S
  exact va_put hx hb hts hin ty0 hty hnm hown C0.2.1 M.1 M.2.1 M.2.2 q0 he hc k hk (hts _ hlink) (fun x h => by rw [href]; exact h) hfin (hty k hk) hn hfit hl hdg (fun H1 locs1 hP1 hD1 hS1 => kk H1 locs1 ⟨hP1, hD1, hS1⟩)
theorem b_putF {ref C : String} {T : u_T} {N ci index a : Nat} (S : CallFix p m c cc nL s args gTs own) (C0 : bC G n0 s) (M : bM G n0 ws s H locs) (hin : ∀ w ∈ u_ws C T N, w ∈ gTs) (ty0 : Nat → FieldType) (hty : ∀ k, k < N → parseFieldDescriptor (T k).2.2.1 = some (ty0 k)) (hnm : ∀ a, a < N → ∀ b, b < N → a ≠ b → (T a).2.1 ≠ (T b).2.1) (q0 : Nat) {fs : List Value} (he : ws[q0]? = some (a, .inr (ci, fs))) (hc : vwCl[ci]? = some (C, T, N)) (k : Nat) (hk : k < N) (hlink : Cond.fieldLink own index ref (T k).2.1 (T k).2.2.1 ∈ gTs) (href : ref = (T k).1) (hfin : (T k).2.2.2 = true) (hin2 : meth.name = "<init>") (hdecl : (T k).1 = own) {v : Value} (hn : narrow (ty0 k) v = v) (hfit : fits (ty0 k) v = true) (hl : k < fs.length) {ws' : va_W} (hws : ws.set q0 (a, .inr (ci, fs.set k v)) = ws') (hdg : decode cc pc = .ok (.putfield index, 3))
    (kk : ∀ (H : Heap) (locs : List Loc), bM G n0 ws' s H locs → W p l e R s m args below meth c H locs cells slots Q (F0 m (pc + 3) ls rest)) : W p l e R s m args below meth c H locs cells slots Q (F0 m pc ls (v :: .ref a :: rest)) := by
  subst hws
  obtain ⟨hx, hb, -, hown, hts⟩ := S
  exact va_putF hx hb hts hin ty0 hty hnm hown C0.2.1 M.1 M.2.1 M.2.2 q0 he hc k hk (hts _ hlink) (fun x h => by rw [href]; exact h) hfin hin2 hdecl (hty k hk) hn hfit hl hdg (fun H1 locs1 hP1 hD1 hS1 => kk H1 locs1 ⟨hP1, hD1, hS1⟩)
theorem b_alen {a : Nat} {cA : ClassId} {x : vp_A} {t : Nat} {ty : FieldType} (S : CallFix p m c cc nL s args gTs own) (C0 : bC G n0 s) (M : bM G n0 ws s H locs) (q0 : Nat) (he : ws[q0]? = some (a, .inl (cA, x))) (ht : (gtys G)[t]? = some (cA, ty)) {v : Int32} (hv : Int32.ofNat x.1 = v) (hdg : decode cc pc = .ok (.arraylength, 1))
    (kk : W p l e R s m args below meth c H locs cells slots Q (F0 m (pc + 1) ls (.int v :: rest))) : W p l e R s m args below meth c H locs cells slots Q (F0 m pc ls (.ref a :: rest)) :=
  va_alen S.1 S.2.1 C0.2.1 M.1 q0 t he ht hv hdg kk
theorem b_newb (S : CallFix p m c cc nL s args gTs own) (C0 : bC G n0 s) (M : bM G n0 ws s H locs) (harr : Cond.arrayClass .byte ∈ gTs) {x : Int32} {N : Nat} (hx : ¬ x < 0) (hN : x.toNatClampNeg = N) (hbytes : N ≤ 65536) (hcells : cells + 1 ≤ R.cells) (hslots : slots + N ≤ R.slots) {cells' slots' : Nat} (e1' : cells + 1 = cells') (e2' : slots + N = slots') (hdg : decode cc pc = .ok (.newarray .byte, 2))
    (kk : ∀ (q : Nat) (H : Heap), bM G n0 (ws ++ [(q, .inl (G.2.1 5, N, .inl (fun _ => 0)))]) s H locs → W p l e R s m args below meth c H locs cells' slots' Q (F0 m (pc + 2) ls (.ref q :: rest))) : W p l e R s m args below meth c H locs cells slots Q (F0 m pc ls (.int x :: rest)) := by
  subst e1'; subst e2'
  have hts := S.2.2.2.2
  obtain ⟨hP, hD, hS⟩ := M
  refine va_newaK S.1 S.2.1 (atype := .byte) (hts _ harr) rfl hdg rfl hx hN (by show N * 1 ≤ _; omega) hcells hslots rfl fun H1 cA e1 z1 o1 hAr hNm => ?_
  have hcA : cA = G.2.1 5 := Option.some.inj (hNm.symm.trans (C0.2.1.2 5 _ rfl).2)
  subst hcA
  have hk : ∀ (k : Nat) (x : Nat × va_E), ws[k]? = some x → H1[x.1]? = H[x.1]? := fun k x hx => o1 x.1 ((hP k x hx).lt)
  refine kk H.size H1 ⟨(hP.kept hk).app (fun k x hx => ?_), hD.push hP rfl (bA_in C0 _ hS.1), Nat.le_trans hS.1 (by omega), fun x h1 h2 => (o1 x (Nat.lt_of_lt_of_le h1 hS.1)).trans (hS.2.1 x h1 h2), hS.2.2⟩
  have hz : k < 1 := (List.getElem?_eq_some_iff.mp hx).1
  rw [show k = 0 by omega] at hx
  cases hx
  exact e1
theorem b_recv {a ci : Nat} {q : vw_C} {fs : List Value} (C0 : bC G n0 s) (M : bM G n0 ws s H locs) (q0 : Nat) (he : ws[q0]? = some (a, .inr (ci, fs))) (hc : vwCl[ci]? = some q) : ∃ cell : Cell, H[a]? = some cell ∧ cell.vm.isStatics = false ∧ s.vm.findClass q.1 = some cell.cls := va_recv C0.2.1 M.1 hc he
/-- a world of fewer cells -/
theorem bM.sub {ws' : va_W} (M : bM G n0 ws s H locs) (is : List Nat) (hn : va_nd is = true) (hs : is.map (fun i => ws[i]?) = ws'.map some) : bM G n0 ws' s H locs := by
  refine ⟨fun k q hk => ?_, M.2.1.sub is hn hs, M.2.2⟩
  have h1 : (is.map (fun i => ws[i]?))[k]? = some (some q) := by rw [hs, List.getElem?_map, hk]; rfl
  rw [List.getElem?_map] at h1
  cases hi : is[k]? with
  | none => rw [hi] at h1; cases h1
  | some i => rw [hi] at h1; exact M.1 i q (Option.some.inj h1)
end BROWS
