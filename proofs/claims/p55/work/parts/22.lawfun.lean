/-! the law's methods: rows for methods with handlers, for places where two ways meet, for calls from loops; build -/
theorem l_join {p : Program} {l : Launch} {e : Env} {R : Room} {s : State} {m : MethodId} {args : Array Value} {below : List Frame} {meth : Method} {c : Code} {H : Heap} {locs : List Loc} {cells slots : Nat} {Q : State → Prop} {ls0 : Array Slot} {J CJ SJ pc : Nat} {st st0 : List Value} {P : Heap → List Loc → Array Slot → Prop}
    (kJ : ∀ (H : Heap) (locs : List Loc) (ls : Array Slot), P H locs ls → W p l e R s m args below meth c H locs CJ SJ Q (F0 m J ls st)) (k : (∀ (H : Heap) (locs : List Loc) (ls : Array Slot), P H locs ls → W p l e R s m args below meth c H locs CJ SJ Q (F0 m J ls st)) → W p l e R s m args below meth c H locs cells slots Q (F0 m pc ls0 st0)) : W p l e R s m args below meth c H locs cells slots Q (F0 m pc ls0 st0) := k kJ
theorem gRm_m2 {R rm : Room} {cells slots maxL : Nat} (h1 : rm.frames + 1 ≤ R.frames) (h2 : 8 + (maxL + 11) + rm.locals ≤ R.locals) (h3 : cells + rm.cells ≤ R.cells) (h4 : slots + rm.slots ≤ R.slots) : gRm R rm cells slots maxL = true := by
  simp only [gRm, Bool.and_eq_true]
  exact ⟨⟨⟨Nat.ble_eq_true_of_le h1, Nat.ble_eq_true_of_le h2⟩, Nat.ble_eq_true_of_le h3⟩, Nat.ble_eq_true_of_le h4⟩
def gCW (l : Launch) (y : MethodName) (cc : ByteArray) (maxL : Nat) (ret : Option FieldType) (hh : List (Nat × Nat × Nat × Nat)) (rm : Room) (mc ms : Nat) (G : gT) (sz : Nat) (av : List Value) (lo : Int64) (dd : UInt64) (σ : gM) (out : gO) : Prop :=
  vx_Met l y [.codeWith y cc maxL ret hh] rm (gPc G sz av lo dd σ) (gQc G sz out) (gXC G sz out) mc ms (gAA G sz)
theorem gCW_of {l : Launch} {y : MethodName} {cc : ByteArray} {maxL : Nat} {ret : Option FieldType} {hh : List (Nat × Nat × Nat × Nat)} {rm : Room} {mc ms : Nat} {G : gT} {sz : Nat} {av : List Value} {lo : Int64} {dd : UInt64} {σ : gM} {out : gO} (hy : plainName y.cls = true) (hw : Cond.codeWith y cc maxL ret hh ∈ gTs) (hlen : (lg_sl av).length ≤ maxL)
    (body : ∀ (p : Program) (e : Env) (s : State) (m : MethodId) (args : Array Value) (below : List Frame) (meth : Method) (c : Code) (ls : Array Slot), CallFix p m c cc maxL s args gTs y.cls → meth.sig.returnType = ret → meth.locks = false → c.exceptionTable.toList = tableOf hh → s.heap.size = sz → gCST G (gAA G s.heap.size) s → lv_has ls maxL (lv_args 0 av) → ∀ (H : Heap) (locs : List Loc), gMS G (gAA G s.heap.size) lo dd σ s H locs →
      W p l e rm s m args below meth c H locs 0 0 (vx_MQ below (gQc G s.heap.size out) (gXC G s.heap.size out) args s mc ms (gAA G s.heap.size)) (F0 m 0 ls [])) : gCW l y cc maxL ret hh rm mc ms G sz av lo dd σ out := by
  refine vx_ofWH (cc := cc) (maxL := maxL) (ret := ret) (hh := hh) hy rfl ?_
  intro p e s m args below meth c s₁ B hml hv
  obtain ⟨rfl, rfl, ⟨hK, hP, hD⟩, hC⟩ := hv
  have hl := lv_entry av hlen
  have ht := vx_table (x := y) B (g_at (args := av.toArray) hw hC.1)
  rw [lg_entry_eq]
  exact body p e s m av.toArray below meth c _ ⟨B.exec, B.bytes, hml, findClass_of_methodNamed B.named, fun w hw => g_at hw hC.1⟩ B.returns B.notSynchronized ht rfl hC hl _ _ ⟨hK, hP, hD, va_S.rf⟩
theorem gp_c {α : Type} {P : α → Prop} {a : α} {L : List α} (h : P a) (k : ∀ z ∈ L, P z) : ∀ z ∈ a :: L, P z := by
  intro z hz
  rcases List.mem_cons.mp hz with rfl | h2
  · exact h
  · exact k z h2
theorem l_pass {args : Array Value} {s : State} {E own : String} (tb : List (Nat × Nat × Nat × Nat)) (k pc : Nat) (cts : List (Nat × String)) (hc : ∀ x ∈ cts, x.1 ≠ 0 ∧ (Cond.classLink own x.1 x.2).before args s = true ∧ va_Nc E x.2 s) (h : ((tb.take k).all fun z => (covers ⟨z.1, z.2.1, z.2.2.1, z.2.2.2⟩ pc == false) || cts.any (fun x => x.1 == z.2.2.2)) = true) : ∀ z ∈ tableOf (tb.take k), covers z pc = false ∨ (z.catchType ≠ 0 ∧ ∃ nm : String, (Cond.classLink own z.catchType nm).before args s = true ∧ va_Nc E nm s) := by
  intro z hz
  unfold tableOf at hz
  obtain ⟨q, hq, rfl⟩ := List.mem_map.mp hz
  have h1 := List.all_eq_true.mp h q hq
  rw [Bool.or_eq_true] at h1
  rcases h1 with h1 | h1
  · exact Or.inl (eq_of_beq h1)
  · obtain ⟨x, hx, e⟩ := List.any_eq_true.mp h1
    have e : x.1 = q.2.2.2 := eq_of_beq e
    obtain ⟨c1, c2, c3⟩ := hc x hx
    rw [e] at c1 c2
    exact Or.inr ⟨c1, x.2, c2, c3⟩
theorem gp_n {α : Type} {P : α → Prop} : ∀ z ∈ ([] : List α), P z := fun z hz => nomatch hz
def gMW (y : MethodName) (cc : ByteArray) (maxL : Nat) (ret : Option FieldType) (hh : List (Nat × Nat × Nat × Nat)) (n : Nat) : Prop := Cond.codeWith y cc maxL ret hh ∈ gTs ∧ Cond.initialized y.cls ∈ gTs ∧ (y.cls ≠ "java/lang/invoke/MethodHandle" ∧ y.cls ≠ "java/lang/invoke/VarHandle" ∧ (parseMethodDescriptor y.desc).map (fun d => d.parameters.length) = some n)
theorem g_invW {p : Program} {l : Launch} {e : Env} {R : Room} {s : State} {m : MethodId} {args : Array Value} {below : List Frame} {meth : Method} {c : Code} {H : Heap} {locs : List Loc} {cells slots : Nat} {cc : ByteArray} {nL : Nat} {own : String} {pc : Nat} {ls : Array Slot} {rest : List Value} {G : gT} {lo : Int64} {dd : UInt64} {σ : gM} {As : List Value} {y : MethodName} {bytes : ByteArray} {maxL n index : Nat} {ret : Option FieldType} {hh : List (Nat × Nat × Nat × Nat)} {rm : Room} {out : gO} (S : CallFix p m c cc nL s args gTs own) (M : gMS G (gAA G s.heap.size) lo dd σ s H locs) (C0 : gCST G (gAA G s.heap.size) s) {lv : List (Nat × Value)} (hl : lv_has ls nL lv) (hM : gCW l y bytes maxL ret hh rm rm.cells rm.slots G H.size As lo dd σ out) (hk : gMW y bytes maxL ret hh n) (hst1 : Cond.static y ∈ gTs) (hlink : Cond.methodLink own index y ∈ gTs)
    (hn : As.length = n) {st0 : List Value} (hst : st0 = As.reverse ++ rest) (hW : Nat.ble (0 + (rest.map fun v => v.category).sum) 8 = true) (hR : gRm R rm cells slots maxL = true) (hdg : decode cc pc = .ok (.invokestatic index, 3)) :
    vx_Run p l e R s m args below meth c H locs cells slots rm.cells rm.slots (F0 m pc ls st0) rest (gQc G H.size out As.toArray) (gXC G H.size out) (gAA G H.size) := by
  obtain ⟨k1, k2, k3⟩ := hk
  obtain ⟨r1, r2⟩ := gRm_of hR
  have hts := S.2.2.2.2
  refine vx_runSX S hM ⟨⟨rfl, rfl, r1.1, r1.2, fun w hw a' U hW => ?_, List.mem_singleton.mpr rfl⟩, hts _ k1, hts _ k2, ⟨k3.1, k3.2.1⟩, fun sig h => ?_, hts _ hlink, hts _ hst1⟩ (g_pre M C0) rfl hn hl.1 hst (Nat.le_of_ble_eq_true hW) hdg r2
  · cases List.mem_singleton.mp hw
    exact word_at hW (good_of_word (List.mem_filter.mp k1).2) (hts _ k1)
  · have h2 := k3.2.2
    rw [h] at h2
    exact (Option.some.inj h2).symm
/-- a throw is not looked at -/
def btn {α γ : Type} (o : Option (α ⊕ Nat)) (k : α → Option γ) : Option γ := o.bind fun q => q.elim k (fun _ => none)
theorem btn_x {α γ : Type} {o : Option (α ⊕ Nat)} {k : α → Option γ} {r : γ} (h : btn o k = some r) : ∃ a, o = some (.inl a) ∧ k a = some r := by
  cases o with
  | none => cases h
  | some q =>
    cases q with
    | inl a => exact ⟨a, rfl, h⟩
    | inr n => cases h
theorem btn_l {α γ : Type} (a : α) (k : α → Option γ) : btn (some (.inl a)) k = k a := rfl
def btn2 {α γ : Type} (o : Option ((α × gM) ⊕ (Nat × gM))) (k : α → gM → Option γ) : Option γ := o.bind fun q => q.elim (fun a => k a.1 a.2) (fun _ => none)
theorem btn2_x {α γ : Type} {o : Option ((α × gM) ⊕ (Nat × gM))} {k : α → gM → Option γ} {r : γ} (h : btn2 o k = some r) : ∃ a τ, o = some (.inl (a, τ)) ∧ k a τ = some r := by
  cases o with
  | none => cases h
  | some q =>
    cases q with
    | inl a => exact ⟨a.1, a.2, rfl, h⟩
    | inr n => cases h
theorem btn2_l {α γ : Type} (a : α) (τ : gM) (k : α → gM → Option γ) : btn2 (some (.inl (a, τ))) k = k a τ := rfl
/-- build: the depot is made in the room behind the old heap -/
def gPb (G : gT) (sz : Nat) (av : List Value) : Array Value → State → Prop := va_Pc av (fun U => U.heap.size = sz ∧ va_K (gtD G) vwCl (gtys G) U ∧ gCST G (gAA G sz) U ∧ nC U)
def gCB (l : Launch) (y : MethodName) (cc : ByteArray) (maxL : Nat) (ret : Option FieldType) (rm : Room) (mc ms : Nat) (G : gT) (sz : Nat) (av : List Value) (out : gO) : Prop :=
  vx_Met l y [.code y cc maxL ret] rm (gPb G sz av) (gQc G sz out) (gXC G sz out) mc ms (gAA G sz)
theorem gPb_blind {G : gT} {sz : Nat} {av : List Value} : FrameBlind (gPb G sz av) := by
  rintro a U g mk ⟨h1, h2, hK, h4, h5, h6, h7, h8⟩
  refine ⟨h1, h2, va_K.moved (u := U) (U := U.calling g mk a) (Vm.Alike.refl U.vm) hK, gCST_calling h4, fun w hw => ?_, fun w hw => ?_, va_AO.moved (u := U) (U := U.calling g mk a) (Vm.Alike.refl U.vm) h7, va_AO.moved (u := U) (U := U.calling g mk a) (Vm.Alike.refl U.vm) h8⟩
  · exact (gCST_calling (g := g) (mk := mk) (a := a) h4).1 w hw
  · exact (gCST_calling (g := g) (mk := mk) (a := a) h4).2.1 w hw
theorem gCB_of {l : Launch} {y : MethodName} {cc : ByteArray} {maxL : Nat} {ret : Option FieldType} {rm : Room} {mc ms : Nat} {G : gT} {sz : Nat} {av : List Value} {out : gO} (hy : plainName y.cls = true) (hlen : (lg_sl av).length ≤ maxL)
    (body : ∀ (p : Program) (e : Env) (s : State) (m : MethodId) (args : Array Value) (below : List Frame) (meth : Method) (c : Code) (ls : Array Slot), CallFix p m c cc maxL s args gTs y.cls → meth.sig.returnType = ret → meth.locks = false → s.heap.size = sz → gCST G (gAA G s.heap.size) s → nC s → va_K (gtD G) vwCl (gtys G) s → lv_has ls maxL (lv_args 0 av) → ∀ (H : Heap) (locs : List Loc), nM G s.heap.size s s.heap.size [] H locs →
      W p l e rm s m args below meth c H locs 0 0 (vx_MQ below (gQc G s.heap.size out) (gXC G s.heap.size out) args s mc ms (gAA G s.heap.size)) (F0 m 0 ls [])) : gCB l y cc maxL ret rm mc ms G sz av out := by
  refine vx_ofW (cc := cc) (maxL := maxL) (ret := ret) hy rfl ?_
  intro p e s m args below meth c s₁ B hml ht hv
  obtain ⟨rfl, rfl, hK, hC, hN⟩ := hv
  have hl := lv_entry av hlen
  rw [lg_entry_eq]
  exact body p e s m av.toArray below meth c _ ⟨B.exec, B.bytes, hml, findClass_of_methodNamed B.named, fun w hw => g_at hw hC.1⟩ B.returns B.notSynchronized rfl hC hN hK hl _ _ ⟨rfl, Nat.le_refl _, Nat.le_refl _, fun _ _ => rfl, (fun l hl => nomatch hl), (fun i hi h1 h2 => absurd h1 (by omega)), (fun x hx => nomatch hx), List.nodup_nil⟩
theorem n_mem {G : gT} {s : State} {H : Heap} {locs : List Loc} (hG : nG s.heap.size G) (hK : va_K (gtD G) vwCl (gtys G) s) (M : nM G s.heap.size s (s.heap.size + 219) [] H locs) : gMS G (gAA G s.heap.size) 0 0 σ0 s H locs := by
  obtain ⟨h1, h2, h3, h4, h5, h6, h7, h8⟩ := M
  have hlt : ∀ {k : Nat} {q : Nat × va_E}, (gWS G 0 0 σ0)[k]? = some q → k < 219 := by
    intro k q h
    have := (List.getElem?_eq_some_iff.mp h).1
    rw [gWS, List.length_map, List.length_range] at this
    exact this
  have hpi : ∀ i : Nat, i < 219 → gpi i < 219 := by
    intro i hi
    unfold gpi
    split <;> (try split) <;> (try split) <;> omega
  refine ⟨hK, fun k q hq => ?_, ⟨fun i j p q hp hq e => ?_, fun k q hq => ?_⟩, by omega, fun q hq _ => h4 q hq, fun l hl => Or.inr (h5 l hl)⟩
  · have hk := hlt hq
    rw [gWS_at G 0 0 σ0 hk] at hq
    cases Option.some.inj hq
    have := hpi k hk
    exact h6 k hk (by rw [hG k hk]; omega) (by rw [hG k hk]; omega) (fun x hx => nomatch hx)
  · have hi := hlt hp
    have hj := hlt hq
    rw [gWS_at G 0 0 σ0 hi] at hp
    rw [gWS_at G 0 0 σ0 hj] at hq
    cases Option.some.inj hp
    cases Option.some.inj hq
    exact nG_inj hG hi hj e
  · have hk := hlt hq
    rw [gWS_at G 0 0 σ0 hk] at hq
    cases Option.some.inj hq
    exact Or.inl ⟨k, hk, rfl⟩
def f_L_at (σ : gM) (L : Nat) (xs : Nat → Int32) (a1 : Int32) : Option (Int32) :=
  if (nI L) ≤ a1 then
    some 0
  else
    gi a1 L <|
    some (xs a1.toNatClampNeg)
def f_L_road (σ : gM) (a1 : Int32) (a2 : Int32) : Option (Int32) :=
  bt (f_X12_roadLength σ a1 a2)
    (fun r2 =>
      some r2)
    (fun n3 =>
      if n3 = 4 then
        some 0
      else
        none)
def f_L_sackOf (σ : gM) (a1 : Int32) : Option (Int32) :=
  btn (f_X12_state σ a1) fun r2 =>
  if r2 = 115 then
    btn (f_X12_sackOf σ a1) fun r6 =>
    some r6
  else
    some (-1)
def f_L_state_L31 (p2 : Int32) (σ : gM) : Nat → Int32 → Int32 → Option (Int32)
  | 0, _, _ => none
  | n + 1, v1, v3 =>
    if p2 ≤ v3 then
      some v1
    else
      bd (f_L_road σ p2 v3) fun r11 =>
      nm ((31 * v1) + r11) fun x12 =>
      nm (v3 + 1) fun x13 =>
      f_L_state_L31 p2 σ n x12 x13
def f_L_state_L23 (σ : gM) : Nat → Int32 → Int32 → Option (Int32)
  | 0, _, _ => none
  | n + 1, v1, v2 =>
    if 6 ≤ v2 then
      some v1
    else
      bd (f_L_state_L31 v2 σ 14 v1 0) fun y15 =>
      nm (v2 + 1) fun x16 =>
      f_L_state_L23 σ n y15 x16
def f_L_state_L62 (σ : gM) : Nat → Int32 → Int32 → Option (Int32)
  | 0, _, _ => none
  | n + 1, v1, v2 =>
    bd (f_X12_parcelCount σ) fun r20 =>
    if r20 ≤ v2 then
      some v1
    else
      btn (f_X12_weight σ v2) fun r23 =>
      btn (f_X12_hazard σ v2) fun r26 =>
      btn (f_X12_destination σ v2) fun r29 =>
      btn (f_X12_state σ v2) fun r32 =>
      bd (f_L_sackOf σ v2) fun r35 =>
      btn (f_X12_returns σ v2) fun r37 =>
      nm (((31 * ((31 * ((31 * ((31 * ((31 * v1) + r23)) + r26)) + r29)) + r32)) + (7 * r35)) + r37) fun x39 =>
      nm (v2 + 1) fun x40 =>
      f_L_state_L62 σ n x39 x40
def f_L_state_L134 (σ : gM) : Nat → Int32 → Int32 → Option (Int32)
  | 0, _, _ => none
  | n + 1, v1, v2 =>
    bd (f_X12_gloveCount σ) fun r44 =>
    if r44 ≤ v2 then
      some v1
    else
      btn (f_X12_grade σ v2) fun r47 =>
      btn (f_X12_usesLeft σ v2) fun r50 =>
      nm ((31 * ((31 * v1) + r47)) + r50) fun x52 =>
      nm (v2 + 1) fun x53 =>
      f_L_state_L134 σ n x52 x53
def f_L_state_L170 (σ : gM) : Nat → Int32 → Int32 → Option (Int32)
  | 0, _, _ => none
  | n + 1, v1, v2 =>
    if 3 ≤ v2 then
      some v1
    else
      btn (f_X12_place σ v2) fun r58 =>
      btn (f_X12_capacity σ v2) fun r61 =>
      nm ((31 * ((31 * v1) + r58)) + r61) fun x63 =>
      nm (v2 + 1) fun x64 =>
      f_L_state_L170 σ n x63 x64
def f_L_state (σ : gM) : Option (Int32) :=
  bd (f_X12_effortSoFar σ) fun r2 =>
  bd (f_X12_glovesUsedUp σ) fun r4 =>
  bd (f_X12_parcelCount σ) fun r6 =>
  nm ((31 * ((31 * r2) + r4)) + r6) fun x7 =>
  bd (f_L_state_L23 σ 14 x7 0) fun y18 =>
  bd (f_L_state_L62 σ 14 y18 0) fun y42 =>
  bd (f_L_state_L134 σ 14 y42 0) fun y55 =>
  bd (f_L_state_L170 σ 14 y55 0) fun y66 =>
  bd (f_X12_gloveCount σ) fun r68 =>
  some ((31 * y66) + r68)
def f_L_put_L2 (tx : List Int32) : Nat → Int32 → gM → Option (gM)
  | 0, _, _ => none
  | n + 1, v2, σ =>
    if (nI tx.length) ≤ v2 then
      some σ
    else
      gi v2 tx.length <|
      btn2 (f_X12_feed σ (tx.getD v2.toNatClampNeg 0)) fun r4 σ5 =>
      nm (v2 + 1) fun x7 =>
      f_L_put_L2 tx n x7 σ5
def f_L_put (σ : gM) (tx : List Int32) : Option (gM) :=
  bd (f_L_put_L2 tx 70 0 σ) fun σ9 =>
  some σ9
def f_L_isLine_L12 (p1 : Int32) (tx : List Int32) (σ : gM) : Nat → Int32 → Option (Unit)
  | 0, _ => none
  | n + 1, v3 =>
    if p1 ≤ v3 then
      some ()
    else
      btn (f_X12_outputChar σ v3) fun r4 =>
      gi v3 tx.length <|
      if r4 = (tx.getD v3.toNatClampNeg 0) then
        nm (v3 + 1) fun x8 =>
        f_L_isLine_L12 p1 tx σ n x8
      else
        none
def f_L_isLine (σ : gM) (a1 : Int32) (tx : List Int32) : Option (Int32) :=
  if a1 = (nI tx.length) then
    bd (f_L_isLine_L12 a1 tx σ 20 0) fun u =>
    some 1
  else
    none
def f_L_runs (σ : gM) : Option (Int32 × gM) :=
  bt2 (f_X12_runCommands σ)
    (fun r2 σ3 =>
      some (r2, σ3))
    (fun n4 σ3 =>
      if n4 = 1 then
        some ((-1), σ3)
      else
        if n4 = 3 then
          some ((-2), σ3)
        else
          none)
def f_L_fails (σ : gM) (tx : List Int32) (a2 : Int32) : Option (Int32 × gM) :=
  bd (f_L_put σ tx) fun σ2 =>
  bd2 (f_L_runs σ2) fun r4 σ5 =>
  if r4 = (-1) then
    btn (f_X12_errorPosition σ5) fun r8 =>
    if r8 = a2 then
      some (1, σ5)
    else
      none
  else
    none
def f_L_act (σ : gM) (a1 : Int32) (a2 : Int32) (a3 : Int32) (a4 : Int32) : Option (Int32 × gM) :=
  if a1 = 0 then
    bt2 (f_X12_buildRoad σ a2 a3 a4)
      (fun r3 σ4 =>
        some (r3, σ4))
      (fun n5 σ4 =>
        if n5 = 0 then
          some ((-1), σ4)
        else
          if n5 = 1 then
            some ((-2), σ4)
          else
            if n5 = 2 then
              some ((-3), σ4)
            else
              if n5 = 3 then
                some ((-4), σ4)
              else
                if n5 = 4 then
                  some ((-5), σ4)
                else
                  none)
  else
    if a1 = 1 then
      bt2 (f_X12_acceptParcel σ a2 a3 a4)
        (fun r8 σ9 =>
          some (r8, σ9))
        (fun n10 σ9 =>
          if n10 = 0 then
            some ((-1), σ9)
          else
            if n10 = 1 then
              some ((-2), σ9)
            else
              if n10 = 2 then
                some ((-3), σ9)
              else
                if n10 = 3 then
                  some ((-4), σ9)
                else
                  if n10 = 4 then
                    some ((-5), σ9)
                  else
                    none)
    else
      if a1 = 2 then
        bt2 (f_X12_buyGlove σ a2)
          (fun r13 σ14 =>
            some (r13, σ14))
          (fun n15 σ14 =>
            if n15 = 0 then
              some ((-1), σ14)
            else
              if n15 = 1 then
                some ((-2), σ14)
              else
                if n15 = 2 then
                  some ((-3), σ14)
                else
                  if n15 = 3 then
                    some ((-4), σ14)
                  else
                    if n15 = 4 then
                      some ((-5), σ14)
                    else
                      none)
      else
        if a1 = 3 then
          bt2 (f_X12_setCapacity σ a2 a3)
            (fun r18 σ19 =>
              some (r18, σ19))
            (fun n20 σ19 =>
              if n20 = 0 then
                some ((-1), σ19)
              else
                if n20 = 1 then
                  some ((-2), σ19)
                else
                  if n20 = 2 then
                    some ((-3), σ19)
                  else
                    if n20 = 3 then
                      some ((-4), σ19)
                    else
                      if n20 = 4 then
                        some ((-5), σ19)
                      else
                        none)
        else
          if a1 = 4 then
            bt2 (f_X12_put σ a2 a3)
              (fun r23 σ24 =>
                some (r23, σ24))
              (fun n25 σ24 =>
                if n25 = 0 then
                  some ((-1), σ24)
                else
                  if n25 = 1 then
                    some ((-2), σ24)
                  else
                    if n25 = 2 then
                      some ((-3), σ24)
                    else
                      if n25 = 3 then
                        some ((-4), σ24)
                      else
                        if n25 = 4 then
                          some ((-5), σ24)
                        else
                          none)
          else
            if a1 = 5 then
              bt2 (f_X12_takeOut σ a2)
                (fun r28 σ29 =>
                  some (r28, σ29))
                (fun n30 σ29 =>
                  if n30 = 0 then
                    some ((-1), σ29)
                  else
                    if n30 = 1 then
                      some ((-2), σ29)
                    else
                      if n30 = 2 then
                        some ((-3), σ29)
                      else
                        if n30 = 3 then
                          some ((-4), σ29)
                        else
                          if n30 = 4 then
                            some ((-5), σ29)
                          else
                            none)
            else
              if a1 = 6 then
                bt2 (f_X12_carry σ a2 a3)
                  (fun r33 σ34 =>
                    some (r33, σ34))
                  (fun n35 σ34 =>
                    if n35 = 0 then
                      some ((-1), σ34)
                    else
                      if n35 = 1 then
                        some ((-2), σ34)
                      else
                        if n35 = 2 then
                          some ((-3), σ34)
                        else
                          if n35 = 3 then
                            some ((-4), σ34)
                          else
                            if n35 = 4 then
                              some ((-5), σ34)
                            else
                              none)
              else
                if a1 = 7 then
                  bt2 (f_X12_comeBack σ a2)
                    (fun r38 σ39 =>
                      some (r38, σ39))
                    (fun n40 σ39 =>
                      if n40 = 0 then
                        some ((-1), σ39)
                      else
                        if n40 = 1 then
                          some ((-2), σ39)
                        else
                          if n40 = 2 then
                            some ((-3), σ39)
                          else
                            if n40 = 3 then
                              some ((-4), σ39)
                            else
                              if n40 = 4 then
                                some ((-5), σ39)
                              else
                                none)
                else
                  if a1 = 8 then
                    bt2 (f_X12_distance σ a2 a3)
                      (fun r43 σ44 =>
                        some (r43, σ44))
                      (fun n45 σ44 =>
                        if n45 = 0 then
                          some ((-1), σ44)
                        else
                          if n45 = 1 then
                            some ((-2), σ44)
                          else
                            if n45 = 2 then
                              some ((-3), σ44)
                            else
                              if n45 = 3 then
                                some ((-4), σ44)
                              else
                                if n45 = 4 then
                                  some ((-5), σ44)
                                else
                                  none)
                  else
                    if a1 = 9 then
                      bt2 (f_X12_distanceByRounds σ a2 a3)
                        (fun r48 σ49 =>
                          some (r48, σ49))
                        (fun n50 σ49 =>
                          if n50 = 0 then
                            some ((-1), σ49)
                          else
                            if n50 = 1 then
                              some ((-2), σ49)
                            else
                              if n50 = 2 then
                                some ((-3), σ49)
                              else
                                if n50 = 3 then
                                  some ((-4), σ49)
                                else
                                  if n50 = 4 then
                                    some ((-5), σ49)
                                  else
                                    none)
                    else
                      if a1 = 10 then
                        bt (f_X12_gloveFor σ a2)
                          (fun r53 =>
                            some (r53, σ))
                          (fun n54 =>
                            if n54 = 0 then
                              some ((-1), σ)
                            else
                              if n54 = 1 then
                                some ((-2), σ)
                              else
                                if n54 = 2 then
                                  some ((-3), σ)
                                else
                                  if n54 = 3 then
                                    some ((-4), σ)
                                  else
                                    if n54 = 4 then
                                      some ((-5), σ)
                                    else
                                      none)
                      else
                        bt2 (f_X12_effortTo σ a2 a3)
                          (fun r56 σ57 =>
                            some (r56, σ57))
                          (fun n58 σ57 =>
                            if n58 = 0 then
                              some ((-1), σ57)
                            else
                              if n58 = 1 then
                                some ((-2), σ57)
                              else
                                if n58 = 2 then
                                  some ((-3), σ57)
                                else
                                  if n58 = 3 then
                                    some ((-4), σ57)
                                  else
                                    if n58 = 4 then
                                      some ((-5), σ57)
                                    else
                                      none)
def f_L_build_L16 (L : Nat) (xs : Nat → Int32) (p2 : Int32) : Nat → Int32 → gM → Option (gM)
  | 0, _, _ => none
  | n + 1, v3, σ =>
    if 5 ≤ v3 then
      some σ
    else
      gz (v3) <|
      nm (((p2 >>> ((2 * v3) &&& 31)) &&& 3) - ((p2 >>> ((2 * v3) &&& 31)) &&& 3) / v3 * v3) fun x5 =>
      bd2 (f_L_act σ 0 x5 v3 (1 + ((p2 >>> ((3 * v3) &&& 31)) &&& 15))) fun r7 σ8 =>
      nm (v3 + 1) fun x9 =>
      f_L_build_L16 L xs p2 n x9 σ8
def f_L_build_L55 (L : Nat) (xs : Nat → Int32) (p2 : Int32) : Nat → Int32 → gM → Option (gM)
  | 0, _, _ => none
  | n + 1, v3, σ =>
    if 2 ≤ v3 then
      some σ
    else
      nm (((p2 >>> ((16 + (2 * v3)) &&& 31)) &&& 3) - ((p2 >>> ((16 + (2 * v3)) &&& 31)) &&& 3) / 3 * 3) fun x13 =>
      bd2 (f_L_act σ 2 (1 + x13) 0 0) fun r15 σ16 =>
      nm (v3 + 1) fun x17 =>
      f_L_build_L55 L xs p2 n x17 σ16
def f_L_build_L90 (L : Nat) (xs : Nat → Int32) : Nat → Int32 → gM → Option (gM)
  | 0, _, _ => none
  | n + 1, v3, σ =>
    if 13 ≤ v3 then
      some σ
    else
      bd (f_L_at σ L xs v3) fun r22 =>
      bd (f_X12_parcelCount σ) fun r24 =>
      nm (if 1 < r24 then r24 else 1) fun x25 =>
      nm (((r22 >>> ((6 : Int32) &&& 31)) &&& 7) - ((r22 >>> ((6 : Int32) &&& 31)) &&& 7) / 6 * 6) fun x26 =>
      bd2 (f_L_act σ 1 (1 + (r22 &&& 15)) ((r22 >>> ((4 : Int32) &&& 31)) &&& 3) x26) fun r28 σ29 =>
      bd (
        if ((r22 >>> ((9 : Int32) &&& 31)) &&& 1) = 0 then
          gz (x25) <|
          nm (((r22 >>> ((10 : Int32) &&& 31)) &&& 15) - ((r22 >>> ((10 : Int32) &&& 31)) &&& 15) / x25 * x25) fun x35 =>
          nm (((r22 >>> ((14 : Int32) &&& 31)) &&& 3) - ((r22 >>> ((14 : Int32) &&& 31)) &&& 3) / 3 * 3) fun x36 =>
          bd2 (f_L_act σ29 4 x35 x36 0) fun r38 σ39 =>
          some σ39
        else
          some σ29) fun σ32 =>
      bd (f_X12_parcelCount σ32) fun r41 =>
      nm (((r22 >>> ((16 : Int32) &&& 31)) &&& 3) - ((r22 >>> ((16 : Int32) &&& 31)) &&& 3) / 3 * 3) fun x42 =>
      bd2 (f_L_act σ32 4 (r41 - 1) x42 0) fun r44 σ45 =>
      bd (
        if ((r22 >>> ((18 : Int32) &&& 31)) &&& 3) = 0 then
          nm (((r22 >>> ((20 : Int32) &&& 31)) &&& 3) - ((r22 >>> ((20 : Int32) &&& 31)) &&& 3) / 3 * 3) fun x50 =>
          nm (((r22 >>> ((22 : Int32) &&& 31)) &&& 7) - ((r22 >>> ((22 : Int32) &&& 31)) &&& 7) / 6 * 6) fun x51 =>
          bd2 (f_L_act σ45 6 x50 x51 0) fun r53 σ54 =>
          some σ54
        else
          some σ45) fun σ48 =>
      bd (
        if ((r22 >>> ((18 : Int32) &&& 31)) &&& 3) = 1 then
          nm (((r22 >>> ((20 : Int32) &&& 31)) &&& 3) - ((r22 >>> ((20 : Int32) &&& 31)) &&& 3) / 3 * 3) fun x59 =>
          bd2 (f_L_act σ48 2 (1 + x59) 0 0) fun r61 σ62 =>
          some σ62
        else
          some σ48) fun σ57 =>
      bd (
        if ((r22 >>> ((18 : Int32) &&& 31)) &&& 7) = 2 then
          gz (x25) <|
          nm (((r22 >>> ((21 : Int32) &&& 31)) &&& 15) - ((r22 >>> ((21 : Int32) &&& 31)) &&& 15) / x25 * x25) fun x68 =>
          bd2 (f_L_act σ57 5 x68 0 0) fun r70 σ71 =>
          some σ71
        else
          some σ57) fun σ65 =>
      bd (
        if ((r22 >>> ((18 : Int32) &&& 31)) &&& 7) = 6 then
          gz (x25) <|
          nm (((r22 >>> ((21 : Int32) &&& 31)) &&& 15) - ((r22 >>> ((21 : Int32) &&& 31)) &&& 15) / x25 * x25) fun x77 =>
          bd2 (f_L_act σ65 7 x77 0 0) fun r79 σ80 =>
          some σ80
        else
          some σ65) fun σ74 =>
      bd (
        if ((r22 >>> ((18 : Int32) &&& 31)) &&& 7) = 3 then
          nm (((r22 >>> ((21 : Int32) &&& 31)) &&& 3) - ((r22 >>> ((21 : Int32) &&& 31)) &&& 3) / 3 * 3) fun x85 =>
          bd2 (f_L_act σ74 3 x85 (20 + ((r22 >>> ((23 : Int32) &&& 31)) &&& 31)) 0) fun r87 σ88 =>
          some σ88
        else
          some σ74) fun σ83 =>
      bd (
        if ((r22 >>> ((18 : Int32) &&& 31)) &&& 7) = 7 then
          nm (((r22 >>> ((21 : Int32) &&& 31)) &&& 7) - ((r22 >>> ((21 : Int32) &&& 31)) &&& 7) / 6 * 6) fun x93 =>
          nm (((r22 >>> ((24 : Int32) &&& 31)) &&& 7) - ((r22 >>> ((24 : Int32) &&& 31)) &&& 7) / 6 * 6) fun x94 =>
          bd2 (f_L_act σ83 0 x93 x94 (1 + ((r22 >>> ((27 : Int32) &&& 31)) &&& 7))) fun r96 σ97 =>
          some σ97
        else
          some σ83) fun σ91 =>
      nm (v3 + 1) fun x98 =>
      f_L_build_L90 L xs n x98 σ91
def f_L_build (L : Nat) (xs : Nat → Int32) : Option gM :=
  bd (f_L_at σ0 L xs 0) fun r2 =>
  bd (f_L_build_L16 L xs r2 6 1 σ0) fun σ11 =>
  bd (f_L_build_L55 L xs r2 4 0 σ11) fun σ19 =>
  bd (f_L_build_L90 L xs 14 1 σ19) fun σ100 =>
  some σ100
