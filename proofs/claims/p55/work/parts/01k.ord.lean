/-! Enum.ordinal(), walked in its own frame: the tables have no word on Enum's initialisation, so no contract of it could be used. Rests on the library's invokevirtualUp, At.enter, doInvoke_enter, Steps.getfieldCold, doReturn_leave. -/
section XO
variable {p : Program} {l : Launch} {e : Env} {R : Room} {s : State} {m : MethodId} {args : Array Value} {below : List Frame} {meth : Method} {c : Code} {T : State} {locs : List Loc} {cells slots : Nat}
set_option maxHeartbeats 2000000 in
theorem xo_get (X : Stand p l e R s m args below meth c T locs cells slots) (hexec : p.tables.exec = Jvm.exec) {own C owner : String} {index fi : Nat} {x y : MethodName} {bytes : ByteArray} {fn : String}
    (d0 : decode bytes 0 = .ok (.aload_n 0, 1)) (d1 : decode bytes 1 = .ok (.getfield fi, 3)) (d4 : decode bytes 4 = .ok (.ireturn, 1)) (hplain : plainName y.cls = true)
    (hown : s.vm.findClass own = some m.cls) (hlink : (Cond.methodLink own index x).before args s = true) (hsame : (Cond.sameMethod x.cls owner x.name x.desc).before args s = true)
    (hd0 : va_Decl s ⟨owner, x.name, x.desc⟩) (howner : owner ≠ "java/lang/invoke/MethodHandle" ∧ owner ≠ "java/lang/invoke/VarHandle") (hpar : (parseMethodDescriptor x.desc).map (fun d => d.parameters.length) = some 0)
    (hsel : (Cond.selects C x y).before args s = true) (hinst : (Cond.instanceMethod y).before args s = true) (hcode : (Cond.code y bytes 1 (some .int)).before args s = true)
    (hfl : (Cond.fieldLink y.cls fi y.cls fn "I").before args s = true)
    {cf i : Nat} {k : Class} {fd : Field} (hi : s.fieldFound? y.cls fn "I" = some (cf, k, i, fd)) (hst : fd.isStatic = false)
    {b : Addr} {cellB : Cell} {v : Int32} (hcell : T.heap[b]? = some cellB) (hobj : cellB.vm.isStatics = false) (hknown : cellB.vm ≠ .unknown) (hcls : s.vm.findClass C = some cellB.cls) (hv : cellB.slots[fd.slot]? = some (.int v))
    {g : JFrame} (hg : g.method = m) (hsize : g.locals.size = c.maxLocals) {rest : List Value} (hstack : g.stack = .ref b :: rest) (hdg : decode c.code g.pc = .ok (.invokevirtual index, 3))
    (hframes : 1 ≤ R.frames) (hlocals : 2 * g.monitorRoom + (rest.map fun v => v.category).sum + 12 ≤ R.locals) :
    ∃ vm', Stand p l e R s m args below meth c (T.setVm vm') locs cells slots ∧
      ∀ target, Steps p.tables e below ((T.setVm vm').setTop { g with pc := g.pc + 3, stack := .int v :: rest }) target → Steps p.tables e below (T.setTop g) target := by
  obtain ⟨r0, r, hn, hrm, hstR, hsigR⟩ := hd0
  obtain ⟨cn, ck, r1, hcn, hck, hni, hf, hn1⟩ := Cond.sameMethod_found hsame
  cases hn.symm.trans hn1
  obtain ⟨mk, methM, hnamed, hmethM, -, habM⟩ := Cond.instanceMethod_spec hinst
  obtain ⟨c2, r2, m2, q1, q2, q3, q4, kP, hkP, hkPi⟩ := Cond.selects_spec hsel
  cases hcls.symm.trans q1
  cases hf.symm.trans q2
  cases hnamed.symm.trans q3
  have hselP : selectMethod e.platform s.vm cellB.cls r0 = .method mk := by rw [Launch.admits_selectMethod X.admits]; exact q4
  have hlen : ∀ sig, parseMethodDescriptor x.desc = some sig → ([] : List Value).length = sig.parameters.length := by
    intro sig h
    rw [h] at hpar
    exact (Option.some.inj hpar).symm
  obtain ⟨vm₁, X₁, hstep₁⟩ := X.invokevirtualUp hexec hown hlink hsame howner hn hrm hstR (a := b) (cell := cellB) hcell
    (fun z h => by rw [h] at hobj; cases hobj) hselP hmethM habM hkP hkPi (g := g) hg (argsL := []) (rest := rest) (hlen _ hsigR) hstack hdg
  obtain ⟨methY, cY, hmY, hcY, hbY, hlY, hretY, hlockY, -, -⟩ := Cond.code_spec hnamed hcode
  cases hmethM.symm.trans hmY
  obtain ⟨kY, hkY, hnameY⟩ := className_of_methodNamed hnamed
  have hW₁ := X₁.warmed
  have hm₁ : (T.setVm vm₁).vm.method? mk = some methM := by rw [hW₁.alike.method?]; exact hmethM
  have hplain₁ : (T.setVm vm₁).plainMethod mk := by
    refine State.plainMethod.of_name ?_
    intro k9 hk9
    obtain ⟨k', hk', he'⟩ := hW₁.alike.2.2 _ _ hkY
    cases hk9.symm.trans hk'
    rw [he']
    show plainName kY.name = true
    rw [hnameY]
    exact hplain
  have hAt₁ : At (T.setVm vm₁) ({ g with stack := rest } : JFrame).method c below := by rw [show ({ g with stack := rest } : JFrame).method = m from hg]; exact X₁.here
  have hU := hAt₁.enter #[.ref b] hm₁ hcY hplain₁
  have hroom := X₁.notFull (g := { g with stack := rest }) (vars := cY.maxLocals) hsize hframes (by rw [hlY]; show 2 * g.monitorRoom + (rest.map fun v => v.category).sum + (1 + 11) ≤ R.locals; omega)
  have hfU := frames_entered (s := T.setVm vm₁) (g := { g with stack := rest }) X₁.here.top (.java (entryFrame mk #[.ref b] cY.maxLocals))
  rw [X₁.tail] at hfU
  have hback : ∀ vm, ((((T.setVm vm₁).setTop { g with stack := rest }).pushFrame (.java (entryFrame mk #[.ref b] cY.maxLocals))).setVm vm).setFrames (.java { g with stack := rest } :: below) = (T.setVm vm).setTop { g with stack := rest } := by
    intro vm
    have h := setFrames_entered (s := T.setVm vm) (g := { g with stack := rest }) X.here.top (.java (entryFrame mk #[.ref b] cY.maxLocals))
    rw [show (T.setVm vm).frames.tail = below from X.tail] at h
    exact h
  have hstart := doInvoke_enter (e := e) (g := { g with stack := rest }) (args := #[.ref b]) X₁.here.top [] hm₁ hcY hlockY hroom
  have hUheap : (((T.setVm vm₁).setTop { g with stack := rest }).pushFrame (.java (entryFrame mk #[.ref b] cY.maxLocals))).heap = T.heap := rfl
  have hUvm : s.WarmedH (((T.setVm vm₁).setTop { g with stack := rest }).pushFrame (.java (entryFrame mk #[.ref b] cY.maxLocals))).vm := hW₁
  rw [hlY] at hU hfU hback hstart hUheap hUvm
  generalize (((T.setVm vm₁).setTop { g with stack := rest }).pushFrame (.java (entryFrame mk #[.ref b] 1))) = U at hU hfU hback hstart hUheap hUvm
  have hownY : s.vm.findClass y.cls = some mk.cls := findClass_of_methodNamed hnamed
  obtain ⟨ci', cfl, k', i', f', hi', hlinks, hright⟩ := Cond.fieldLink_spec hownY hfl e.platform X.magic
  cases hi.symm.trans hi'
  obtain ⟨hk2, hf2⟩ := State.fieldFound?_spec hi
  obtain ⟨vm₂, hW₂, stG⟩ := Steps.getfieldCold (s₀ := s) (f := { method := mk, pc := 1, locals := #[.val (.ref b)], stack := [.ref b], locked := none }) hU hexec (by rw [hbY]; exact d1) hUvm hlinks hright hk2 hf2 hst (rest := []) rfl (by rw [hUheap]; exact hcell) hknown hv
  have hU₂ := hU.setVm (vm' := vm₂) (hUvm.alike.symm.trans hW₂.alike)
  have hm₂ : (U.setVm vm₂).vm.method? mk = some methM := by show vm₂.method? mk = some methM; rw [hW₂.alike.method?]; exact hmethM
  refine ⟨vm₂, X.noted hW₂, fun target hrest => hstep₁ target fun acts => ?_⟩
  rw [doInvoke_state]
  show Steps p.tables e below (doInvoke e ((T.setVm vm₁).setTop { g with stack := rest }) [] mk #[.ref b]).1 target
  rw [hstart]
  show Steps p.tables e below (U.setTop { method := mk, pc := 0, locals := #[.val (.ref b)], stack := [], locked := none }) target
  jvm_step hU [hexec, hbY, d0, Value.isRef]
  refine stG _ ?_
  show Steps p.tables e below ((U.setVm vm₂).setTop { method := mk, pc := 4, locals := #[.val (.ref b)], stack := [.int v], locked := none }) target
  jvm_step hU₂ [hU₂.top, hexec, hbY, d4, hm₂, hretY, narrow]
  refine ⟨_, State.topJava?_of_frames (State.frames_setTop' _ hU₂.top), v, [], rfl, methM, hm₂, .int, hretY, ?_⟩
  intro acts2
  have hcg : (U.setVm vm₂).code? ({ g with stack := rest } : JFrame).method = some c := by
    have h := (X.noted hW₂).here.code
    rw [State.code?_eq] at h ⊢
    rw [show ({ g with stack := rest } : JFrame).method = m from hg]
    exact h
  show Steps p.tables e below (doReturn e ((U.setVm vm₂).setTop { method := mk, pc := 4, locals := #[.val (.ref b)], stack := [], locked := none }) acts2 (some (.int v))).1 target
  rw [doReturn_leave (u := U.setVm vm₂) (g := { g with stack := rest }) (f := { method := mk, pc := 4, locals := #[.val (.ref b)], stack := [], locked := none }) (meth := methM) (cg := c) (ig := .invokevirtual index) (len := 3) acts2 hfU hm₂ hlockY rfl rfl hcg hdg, hback]
  simpa using hrest
end XO
