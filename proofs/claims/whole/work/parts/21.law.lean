theorem g_lald {p : Program} {l : Launch} {e : Env} {R : Room} {s : State} {m : MethodId} {args : Array Value} {below : List Frame} {meth : Method} {c : Code} {H : Heap} {locs : List Loc} {cells slots : Nat} {Q : State → Prop} {cc : ByteArray} {nL : Nat} {own : String} {pc : Nat} {ls : Array Slot} {rest : List Value} {G : gT} {lo : Int64} {dd : UInt64} {σ : gM} {A : Nat → Prop} (S : CallFix p m c cc nL s args gTs own) (M : gMS G A lo dd σ s H locs) (hdg : decode cc pc = .ok (.laload, 1))
    (kk : W p l e R s m args below meth c H locs cells slots Q (F0 m (pc + 1) ls (.long lo :: rest))) : W p l e R s m args below meth c H locs cells slots Q (F0 m pc ls (.int 0 :: .ref (G.1 228) :: rest)) :=
  va_lald S.1 S.2.1 M.1 M.2.1 228 5 (cA := G.2.1 5) (n := 1) (f := fun _ => lo) (by rw [gWS_at G lo dd σ (by decide)]; rfl) rfl (i := 0) (by unfold vp_in; decide) hdg kk
theorem g_dald {p : Program} {l : Launch} {e : Env} {R : Room} {s : State} {m : MethodId} {args : Array Value} {below : List Frame} {meth : Method} {c : Code} {H : Heap} {locs : List Loc} {cells slots : Nat} {Q : State → Prop} {cc : ByteArray} {nL : Nat} {own : String} {pc : Nat} {ls : Array Slot} {rest : List Value} {G : gT} {lo : Int64} {dd : UInt64} {σ : gM} {A : Nat → Prop} (S : CallFix p m c cc nL s args gTs own) (M : gMS G A lo dd σ s H locs) (hdg : decode cc pc = .ok (.daload, 1))
    (kk : W p l e R s m args below meth c H locs cells slots Q (F0 m (pc + 1) ls (.double dd :: rest))) : W p l e R s m args below meth c H locs cells slots Q (F0 m pc ls (.int 0 :: .ref (G.1 229) :: rest)) :=
  va_dald S.1 S.2.1 M.1 M.2.1 229 6 (cA := G.2.1 6) (n := 1) (f := fun _ => dd) (by rw [gWS_at G lo dd σ (by decide)]; rfl) rfl (i := 0) (by unfold vp_in; decide) hdg kk
theorem gRm_mk {R : Room} {cells slots maxL f c' s' l' : Nat} (h1 : Nat.ble (f + 1) R.frames = true) (h2 : Nat.ble (8 + (maxL + 11) + l') R.locals = true) (h3 : cells + c' ≤ R.cells) (h4 : slots + s' ≤ R.slots) : gRm R { frames := f, cells := c', slots := s', locals := l' } cells slots maxL = true := by
  simp only [gRm, Bool.and_eq_true]
  exact ⟨⟨⟨h1, h2⟩, Nat.ble_eq_true_of_le h3⟩, Nat.ble_eq_true_of_le h4⟩
def gMW (y : MethodName) (cc : ByteArray) (maxL : Nat) (ret : Option FieldType) (hh : List (Nat × Nat × Nat × Nat)) (n : Nat) : Prop := Cond.codeWith y cc maxL ret hh ∈ gTs ∧ Cond.initialized y.cls ∈ gTs ∧ (y.cls ≠ "java/lang/invoke/MethodHandle" ∧ y.cls ≠ "java/lang/invoke/VarHandle" ∧ (parseMethodDescriptor y.desc).map (fun d => d.parameters.length) = some n)
theorem g_invW {p : Program} {l : Launch} {e : Env} {R : Room} {s : State} {m : MethodId} {args : Array Value} {below : List Frame} {meth : Method} {c : Code} {H : Heap} {locs : List Loc} {cells slots : Nat} {cc : ByteArray} {nL : Nat} {own : String} {pc : Nat} {ls : Array Slot} {rest : List Value} {G : gT} {lo : Int64} {dd : UInt64} {σ : gM} {As : List Value} {y : MethodName} {bytes : ByteArray} {maxL n index : Nat} {ret : Option FieldType} {hh : List (Nat × Nat × Nat × Nat)} {rm : Room} {out : gO} (S : CallFix p m c cc nL s args gTs own) (M : gMS G (gAA G s.heap.size) lo dd σ s H locs) (C0 : gCST G (gAA G s.heap.size) s) {lv : List (Nat × Value)} (hl : lv_has ls nL lv) (hM : gCW l y bytes maxL ret hh rm rm.cells rm.slots G H.size As lo dd σ out) (hk : gMW y bytes maxL ret hh n) (hst1 : Cond.static y ∈ gTs) (hlink : Cond.methodLink own index y ∈ gTs)
    (hn : As.length = n) {st0 : List Value} (hst : st0 = As.reverse ++ rest) (hW : Nat.ble (0 + (rest.map fun v => v.category).sum) 8 = true) (hR : gRm R rm cells slots maxL = true) (hdg : decode cc pc = .ok (.invokestatic index, 3)) :
    vx_Run p l e R s m args below meth c H locs cells slots rm.cells rm.slots (F0 m pc ls st0) rest (gQc G H.size out As.toArray) (gXC G H.size out) (gAA G H.size) := by
  obtain ⟨k1, k2, k3⟩ := hk
  obtain ⟨r1, r2⟩ := gRm_of hR
  have hts := S.2.2.2.2
  refine vx_runSX S hM ⟨⟨rfl, rfl, r1.1, r1.2, fun w hw a' U hW => ?_, List.mem_singleton.mpr rfl⟩, hts _ k1, hts _ k2, ⟨k3.1, k3.2.1⟩, fun sig h => ?_, hts _ hlink, hts _ hst1⟩ (g_pre M C0) rfl hn hl.1 hst (Nat.le_of_ble_eq_true hW) hdg r2
  · cases List.mem_singleton.mp hw
    exact word_at hW (good_of_word (List.mem_filter.mp k1).2) (hts _ k1)
  · have h2 := k3.2.2
    rw [h] at h2
    exact (Option.some.inj h2).symm
def f_T_0 (σ : gM) (lo : Int64) (dd : UInt64) (a1 a2 a3 : Int32) : Option (gM × Int64 × UInt64) :=
  bd4 (f_L_buildRoad σ lo dd a1 a2 a3) fun r1 σ2 lo3 dd4 =>
  bd2 (f_X13_buildRoad σ2 a1 a2 a3) fun r6 σ8 =>
  bd (f_X13_thrown σ8) fun r9 =>
  if r9 = r1 then
    if r1 = 0 then
      if (lg_cmp lo3 r6.toInt64) = 0 then
        some (σ8, lo3, dd4)
      else
        none
    else
      some (σ8, lo3, dd4)
  else
    none
def f_T_1 (σ : gM) (lo : Int64) (dd : UInt64) (a1 a2 a3 : Int32) : Option (gM × Int64 × UInt64) :=
  bd4 (f_L_acceptParcel σ lo dd a1 a2 a3) fun r1 σ2 lo3 dd4 =>
  bd2 (f_X13_acceptParcel σ2 a1 a2 a3) fun r6 σ8 =>
  bd (f_X13_thrown σ8) fun r9 =>
  if r9 = r1 then
    if r1 = 0 then
      if (lg_cmp lo3 r6.toInt64) = 0 then
        some (σ8, lo3, dd4)
      else
        none
    else
      some (σ8, lo3, dd4)
  else
    none
def f_T_2 (σ : gM) (lo : Int64) (dd : UInt64) (a1 a2 a3 : Int32) : Option (gM × Int64 × UInt64) :=
  bd4 (f_L_buyGlove σ lo dd a1) fun r1 σ2 lo3 dd4 =>
  bd2 (f_X13_buyGlove σ2 a1) fun r6 σ8 =>
  bd (f_X13_thrown σ8) fun r9 =>
  if r9 = r1 then
    if r1 = 0 then
      if (lg_cmp lo3 r6.toInt64) = 0 then
        some (σ8, lo3, dd4)
      else
        none
    else
      some (σ8, lo3, dd4)
  else
    none
def f_T_3 (σ : gM) (lo : Int64) (dd : UInt64) (a1 a2 a3 : Int32) : Option (gM × Int64 × UInt64) :=
  bd4 (f_L_setCapacity σ lo dd a1 a2) fun r1 σ2 lo3 dd4 =>
  bd2 (f_X13_setCapacity σ2 a1 a2) fun r6 σ8 =>
  bd (f_X13_thrown σ8) fun r9 =>
  if r9 = r1 then
    if r1 = 0 then
      if (lg_cmp lo3 r6.toInt64) = 0 then
        some (σ8, lo3, dd4)
      else
        none
    else
      some (σ8, lo3, dd4)
  else
    none
def f_T_4 (σ : gM) (lo : Int64) (dd : UInt64) (a1 a2 a3 : Int32) : Option (gM × Int64 × UInt64) :=
  bd4 (f_L_put σ lo dd a1 a2) fun r1 σ2 lo3 dd4 =>
  bd2 (f_X13_put σ2 a1 a2) fun r6 σ8 =>
  bd (f_X13_thrown σ8) fun r9 =>
  if r9 = r1 then
    if r1 = 0 then
      if (lg_cmp lo3 r6.toInt64) = 0 then
        some (σ8, lo3, dd4)
      else
        none
    else
      some (σ8, lo3, dd4)
  else
    none
def f_T_5 (σ : gM) (lo : Int64) (dd : UInt64) (a1 a2 a3 : Int32) : Option (gM × Int64 × UInt64) :=
  bd4 (f_L_takeOut σ lo dd a1) fun r1 σ2 lo3 dd4 =>
  bd2 (f_X13_takeOut σ2 a1) fun r6 σ8 =>
  bd (f_X13_thrown σ8) fun r9 =>
  if r9 = r1 then
    if r1 = 0 then
      if (lg_cmp lo3 r6.toInt64) = 0 then
        some (σ8, lo3, dd4)
      else
        none
    else
      some (σ8, lo3, dd4)
  else
    none
def f_T_6 (σ : gM) (lo : Int64) (dd : UInt64) (a1 a2 a3 : Int32) : Option (gM × Int64 × UInt64) :=
  bd4 (f_L_carry σ lo dd a1 a2) fun r1 σ2 lo3 dd4 =>
  bd2 (f_X13_carry σ2 a1 a2) fun r6 σ8 =>
  bd (f_X13_thrown σ8) fun r9 =>
  if r9 = r1 then
    if r1 = 0 then
      if (lg_cmp lo3 r6.toInt64) = 0 then
        some (σ8, lo3, dd4)
      else
        none
    else
      some (σ8, lo3, dd4)
  else
    none
def f_T_7 (σ : gM) (lo : Int64) (dd : UInt64) (a1 a2 a3 : Int32) : Option (gM × Int64 × UInt64) :=
  bd4 (f_L_comeBack σ lo dd a1) fun r1 σ2 lo3 dd4 =>
  bd2 (f_X13_comeBack σ2 a1) fun r6 σ8 =>
  bd (f_X13_thrown σ8) fun r9 =>
  if r9 = r1 then
    if r1 = 0 then
      if (lg_cmp lo3 r6.toInt64) = 0 then
        some (σ8, lo3, dd4)
      else
        none
    else
      some (σ8, lo3, dd4)
  else
    none
def f_T_8 (σ : gM) (lo : Int64) (dd : UInt64) (a1 a2 a3 : Int32) : Option (gM × Int64 × UInt64) :=
  bd (f_X12_roadCount σ) fun r1 =>
  bd2 (f_X13_roadCount σ) fun r3 σ5 =>
  if r1 = r3 then
    some (σ5, lo, dd)
  else
    none
def f_T_9 (σ : gM) (lo : Int64) (dd : UInt64) (a1 a2 a3 : Int32) : Option (gM × Int64 × UInt64) :=
  bd4 (f_L_roadLength σ lo dd a1 a2) fun r1 σ2 lo3 dd4 =>
  bd2 (f_X13_roadLength σ2 a1 a2) fun r6 σ8 =>
  bd (f_X13_thrown σ8) fun r9 =>
  if r9 = r1 then
    if r1 = 0 then
      if (lg_cmp lo3 r6.toInt64) = 0 then
        some (σ8, lo3, dd4)
      else
        none
    else
      some (σ8, lo3, dd4)
  else
    none
def f_T_10 (σ : gM) (lo : Int64) (dd : UInt64) (a1 a2 a3 : Int32) : Option (gM × Int64 × UInt64) :=
  bd4 (f_L_distance σ lo dd a1 a2) fun r1 σ2 lo3 dd4 =>
  bd2 (f_X13_distance σ2 a1 a2) fun r6 σ8 =>
  bd (f_X13_thrown σ8) fun r9 =>
  if r9 = r1 then
    if r1 = 0 then
      if (lg_cmp lo3 r6.toInt64) = 0 then
        some (σ8, lo3, dd4)
      else
        none
    else
      some (σ8, lo3, dd4)
  else
    none
def f_T_11 (σ : gM) (lo : Int64) (dd : UInt64) (a1 a2 a3 : Int32) : Option (gM × Int64 × UInt64) :=
  bd4 (f_L_distanceByRounds σ lo dd a1 a2) fun r1 σ2 lo3 dd4 =>
  bd2 (f_X13_distanceByRounds σ2 a1 a2) fun r6 σ8 =>
  bd (f_X13_thrown σ8) fun r9 =>
  if r9 = r1 then
    if r1 = 0 then
      if (lg_cmp lo3 r6.toInt64) = 0 then
        some (σ8, lo3, dd4)
      else
        none
    else
      some (σ8, lo3, dd4)
  else
    none
def f_T_12 (σ : gM) (lo : Int64) (dd : UInt64) (a1 a2 a3 : Int32) : Option (gM × Int64 × UInt64) :=
  bd4 (f_L_farthestPlace σ lo dd a1) fun r1 σ2 lo3 dd4 =>
  bd2 (f_X13_farthestPlace σ2 a1) fun r6 σ8 =>
  bd (f_X13_thrown σ8) fun r9 =>
  if r9 = r1 then
    if r1 = 0 then
      if (lg_cmp lo3 r6.toInt64) = 0 then
        some (σ8, lo3, dd4)
      else
        none
    else
      some (σ8, lo3, dd4)
  else
    none
def f_T_13 (σ : gM) (lo : Int64) (dd : UInt64) (a1 a2 a3 : Int32) : Option (gM × Int64 × UInt64) :=
  bd (f_X12_parcelCount σ) fun r1 =>
  bd2 (f_X13_parcelCount σ) fun r3 σ5 =>
  if r1 = r3 then
    some (σ5, lo, dd)
  else
    none
def f_T_14 (σ : gM) (lo : Int64) (dd : UInt64) (a1 a2 a3 : Int32) : Option (gM × Int64 × UInt64) :=
  bd4 (f_L_weight σ lo dd a1) fun r1 σ2 lo3 dd4 =>
  bd2 (f_X13_weight σ2 a1) fun r6 σ8 =>
  bd (f_X13_thrown σ8) fun r9 =>
  if r9 = r1 then
    if r1 = 0 then
      if (lg_cmp lo3 r6.toInt64) = 0 then
        some (σ8, lo3, dd4)
      else
        none
    else
      some (σ8, lo3, dd4)
  else
    none
def f_T_15 (σ : gM) (lo : Int64) (dd : UInt64) (a1 a2 a3 : Int32) : Option (gM × Int64 × UInt64) :=
  bd4 (f_L_hazard σ lo dd a1) fun r1 σ2 lo3 dd4 =>
  bd2 (f_X13_hazard σ2 a1) fun r6 σ8 =>
  bd (f_X13_thrown σ8) fun r9 =>
  if r9 = r1 then
    if r1 = 0 then
      if (lg_cmp lo3 r6.toInt64) = 0 then
        some (σ8, lo3, dd4)
      else
        none
    else
      some (σ8, lo3, dd4)
  else
    none
def f_T_16 (σ : gM) (lo : Int64) (dd : UInt64) (a1 a2 a3 : Int32) : Option (gM × Int64 × UInt64) :=
  bd4 (f_L_destination σ lo dd a1) fun r1 σ2 lo3 dd4 =>
  bd2 (f_X13_destination σ2 a1) fun r6 σ8 =>
  bd (f_X13_thrown σ8) fun r9 =>
  if r9 = r1 then
    if r1 = 0 then
      if (lg_cmp lo3 r6.toInt64) = 0 then
        some (σ8, lo3, dd4)
      else
        none
    else
      some (σ8, lo3, dd4)
  else
    none
def f_T_17 (σ : gM) (lo : Int64) (dd : UInt64) (a1 a2 a3 : Int32) : Option (gM × Int64 × UInt64) :=
  bd4 (f_L_state σ lo dd a1) fun r1 σ2 lo3 dd4 =>
  bd2 (f_X13_state σ2 a1) fun r6 σ8 =>
  bd (f_X13_thrown σ8) fun r9 =>
  if r9 = r1 then
    if r1 = 0 then
      if (lg_cmp lo3 r6.toInt64) = 0 then
        some (σ8, lo3, dd4)
      else
        none
    else
      some (σ8, lo3, dd4)
  else
    none
def f_T_18 (σ : gM) (lo : Int64) (dd : UInt64) (a1 a2 a3 : Int32) : Option (gM × Int64 × UInt64) :=
  bd4 (f_L_sackOf σ lo dd a1) fun r1 σ2 lo3 dd4 =>
  bd2 (f_X13_sackOf σ2 a1) fun r6 σ8 =>
  bd (f_X13_thrown σ8) fun r9 =>
  if r9 = r1 then
    if r1 = 0 then
      if (lg_cmp lo3 r6.toInt64) = 0 then
        some (σ8, lo3, dd4)
      else
        none
    else
      some (σ8, lo3, dd4)
  else
    none
def f_T_19 (σ : gM) (lo : Int64) (dd : UInt64) (a1 a2 a3 : Int32) : Option (gM × Int64 × UInt64) :=
  bd4 (f_L_returns σ lo dd a1) fun r1 σ2 lo3 dd4 =>
  bd2 (f_X13_returns σ2 a1) fun r6 σ8 =>
  bd (f_X13_thrown σ8) fun r9 =>
  if r9 = r1 then
    if r1 = 0 then
      if (lg_cmp lo3 r6.toInt64) = 0 then
        some (σ8, lo3, dd4)
      else
        none
    else
      some (σ8, lo3, dd4)
  else
    none
def f_T_20 (σ : gM) (lo : Int64) (dd : UInt64) (a1 a2 a3 : Int32) : Option (gM × Int64 × UInt64) :=
  bd (f_X12_waitingCount σ) fun r1 =>
  bd2 (f_X13_waitingCount σ) fun r3 σ5 =>
  if r1 = r3 then
    some (σ5, lo, dd)
  else
    none
def f_T_21 (σ : gM) (lo : Int64) (dd : UInt64) (a1 a2 a3 : Int32) : Option (gM × Int64 × UInt64) :=
  bd (f_X12_deliveredCount σ) fun r1 =>
  bd2 (f_X13_deliveredCount σ) fun r3 σ5 =>
  if r1 = r3 then
    some (σ5, lo, dd)
  else
    none
def f_T_22 (σ : gM) (lo : Int64) (dd : UInt64) (a1 a2 a3 : Int32) : Option (gM × Int64 × UInt64) :=
  bd (f_X12_gloveCount σ) fun r1 =>
  bd2 (f_X13_gloveCount σ) fun r3 σ5 =>
  if r1 = r3 then
    some (σ5, lo, dd)
  else
    none
def f_T_23 (σ : gM) (lo : Int64) (dd : UInt64) (a1 a2 a3 : Int32) : Option (gM × Int64 × UInt64) :=
  bd4 (f_L_grade σ lo dd a1) fun r1 σ2 lo3 dd4 =>
  bd2 (f_X13_grade σ2 a1) fun r6 σ8 =>
  bd (f_X13_thrown σ8) fun r9 =>
  if r9 = r1 then
    if r1 = 0 then
      if (lg_cmp lo3 r6.toInt64) = 0 then
        some (σ8, lo3, dd4)
      else
        none
    else
      some (σ8, lo3, dd4)
  else
    none
def f_T_24 (σ : gM) (lo : Int64) (dd : UInt64) (a1 a2 a3 : Int32) : Option (gM × Int64 × UInt64) :=
  bd4 (f_L_usesLeft σ lo dd a1) fun r1 σ2 lo3 dd4 =>
  bd2 (f_X13_usesLeft σ2 a1) fun r6 σ8 =>
  bd (f_X13_thrown σ8) fun r9 =>
  if r9 = r1 then
    if r1 = 0 then
      if (lg_cmp lo3 r6.toInt64) = 0 then
        some (σ8, lo3, dd4)
      else
        none
    else
      some (σ8, lo3, dd4)
  else
    none
def f_T_25 (σ : gM) (lo : Int64) (dd : UInt64) (a1 a2 a3 : Int32) : Option (gM × Int64 × UInt64) :=
  bd4 (f_L_gloveFor σ lo dd a1) fun r1 σ2 lo3 dd4 =>
  bd2 (f_X13_gloveFor σ2 a1) fun r6 σ8 =>
  bd (f_X13_thrown σ8) fun r9 =>
  if r9 = r1 then
    if r1 = 0 then
      if (lg_cmp lo3 r6.toInt64) = 0 then
        some (σ8, lo3, dd4)
      else
        none
    else
      some (σ8, lo3, dd4)
  else
    none
def f_T_26 (σ : gM) (lo : Int64) (dd : UInt64) (a1 a2 a3 : Int32) : Option (gM × Int64 × UInt64) :=
  bd4 (f_L_canHandle σ lo dd a1) fun r1 σ2 lo3 dd4 =>
  bd2 (f_X13_canHandle σ2 a1) fun r6 σ8 =>
  bd (f_X13_thrown σ8) fun r9 =>
  if r9 = r1 then
    if r1 = 0 then
      if r6 = 0 then
        if (lg_cmp lo3 0) = 0 then
          some (σ8, lo3, dd4)
        else
          none
      else
        if (lg_cmp lo3 1) = 0 then
          some (σ8, lo3, dd4)
        else
          none
    else
      some (σ8, lo3, dd4)
  else
    none
def f_T_27 (σ : gM) (lo : Int64) (dd : UInt64) (a1 a2 a3 : Int32) : Option (gM × Int64 × UInt64) :=
  bd2 (f_X12_handleable σ) fun r1 σ3 =>
  bd2 (f_X13_handleable σ3) fun r4 σ6 =>
  if r1 = r4 then
    some (σ6, lo, dd)
  else
    none
def f_T_28 (σ : gM) (lo : Int64) (dd : UInt64) (a1 a2 a3 : Int32) : Option (gM × Int64 × UInt64) :=
  bd (f_X12_handleableByShortage σ) fun r1 =>
  bd2 (f_X13_handleableByShortage σ) fun r3 σ5 =>
  if r1 = r3 then
    some (σ5, lo, dd)
  else
    none
def f_T_29 (σ : gM) (lo : Int64) (dd : UInt64) (a1 a2 a3 : Int32) : Option (gM × Int64 × UInt64) :=
  bd4 (f_L_place σ lo dd a1) fun r1 σ2 lo3 dd4 =>
  bd2 (f_X13_place σ2 a1) fun r6 σ8 =>
  bd (f_X13_thrown σ8) fun r9 =>
  if r9 = r1 then
    if r1 = 0 then
      if (lg_cmp lo3 r6.toInt64) = 0 then
        some (σ8, lo3, dd4)
      else
        none
    else
      some (σ8, lo3, dd4)
  else
    none
def f_T_30 (σ : gM) (lo : Int64) (dd : UInt64) (a1 a2 a3 : Int32) : Option (gM × Int64 × UInt64) :=
  bd4 (f_L_capacity σ lo dd a1) fun r1 σ2 lo3 dd4 =>
  bd2 (f_X13_capacity σ2 a1) fun r6 σ8 =>
  bd (f_X13_thrown σ8) fun r9 =>
  if r9 = r1 then
    if r1 = 0 then
      if (lg_cmp lo3 r6.toInt64) = 0 then
        some (σ8, lo3, dd4)
      else
        none
    else
      some (σ8, lo3, dd4)
  else
    none
def f_T_31 (σ : gM) (lo : Int64) (dd : UInt64) (a1 a2 a3 : Int32) : Option (gM × Int64 × UInt64) :=
  bd4 (f_L_load σ lo dd a1) fun r1 σ2 lo3 dd4 =>
  bd2 (f_X13_load σ2 a1) fun r6 σ8 =>
  bd (f_X13_thrown σ8) fun r9 =>
  if r9 = r1 then
    if r1 = 0 then
      if (lg_cmp lo3 r6.toInt64) = 0 then
        some (σ8, lo3, dd4)
      else
        none
    else
      some (σ8, lo3, dd4)
  else
    none
def f_T_32 (σ : gM) (lo : Int64) (dd : UInt64) (a1 a2 a3 : Int32) : Option (gM × Int64 × UInt64) :=
  bd4 (f_L_parcelsIn σ lo dd a1) fun r1 σ2 lo3 dd4 =>
  bd2 (f_X13_parcelsIn σ2 a1) fun r6 σ8 =>
  bd (f_X13_thrown σ8) fun r9 =>
  if r9 = r1 then
    if r1 = 0 then
      if (lg_cmp lo3 r6.toInt64) = 0 then
        some (σ8, lo3, dd4)
      else
        none
    else
      some (σ8, lo3, dd4)
  else
    none
def f_T_33 (σ : gM) (lo : Int64) (dd : UInt64) (a1 a2 a3 : Int32) : Option (gM × Int64 × UInt64) :=
  bd4 (f_L_mostFitting σ lo dd a1) fun r1 σ2 lo3 dd4 =>
  bd2 (f_X13_mostFitting σ2 a1) fun r6 σ8 =>
  bd (f_X13_thrown σ8) fun r9 =>
  if r9 = r1 then
    if r1 = 0 then
      if (lg_cmp lo3 r6.toInt64) = 0 then
        some (σ8, lo3, dd4)
      else
        none
    else
      some (σ8, lo3, dd4)
  else
    none
def f_T_34 (σ : gM) (lo : Int64) (dd : UInt64) (a1 a2 a3 : Int32) : Option (gM × Int64 × UInt64) :=
  bd4 (f_L_mostFittingByTable σ lo dd a1) fun r1 σ2 lo3 dd4 =>
  bd2 (f_X13_mostFittingByTable σ2 a1) fun r6 σ8 =>
  bd (f_X13_thrown σ8) fun r9 =>
  if r9 = r1 then
    if r1 = 0 then
      if (lg_cmp lo3 r6.toInt64) = 0 then
        some (σ8, lo3, dd4)
      else
        none
    else
      some (σ8, lo3, dd4)
  else
    none
def f_T_35 (σ : gM) (lo : Int64) (dd : UInt64) (a1 a2 a3 : Int32) : Option (gM × Int64 × UInt64) :=
  bd4 (f_L_effortTo σ lo dd a1 a2) fun r1 σ2 lo3 dd4 =>
  bd2 (f_X13_effortTo σ2 a1 a2) fun r6 σ8 =>
  bd (f_X13_thrown σ8) fun r9 =>
  if r9 = r1 then
    if r1 = 0 then
      if (lg_cmp lo3 r6.toInt64) = 0 then
        some (σ8, lo3, dd4)
      else
        none
    else
      some (σ8, lo3, dd4)
  else
    none
def f_T_36 (σ : gM) (lo : Int64) (dd : UInt64) (a1 a2 a3 : Int32) : Option (gM × Int64 × UInt64) :=
  bd (f_X12_effortSoFar σ) fun r1 =>
  bd2 (f_X13_effortSoFar σ) fun r3 σ5 =>
  if r1 = r3 then
    some (σ5, lo, dd)
  else
    none
def f_T_37 (σ : gM) (lo : Int64) (dd : UInt64) (a1 a2 a3 : Int32) : Option (gM × Int64 × UInt64) :=
  bd (f_X12_glovesUsedUp σ) fun r1 =>
  bd2 (f_X13_glovesUsedUp σ) fun r3 σ5 =>
  if r1 = r3 then
    some (σ5, lo, dd)
  else
    none
def f_T_38 (σ : gM) (lo : Int64) (dd : UInt64) (a1 a2 a3 : Int32) : Option (gM × Int64 × UInt64) :=
  bd4 (f_L_heaviest σ lo dd a1) fun r1 σ2 lo3 dd4 =>
  bd2 (f_X13_heaviest σ2 a1) fun r6 σ8 =>
  bd (f_X13_thrown σ8) fun r9 =>
  if r9 = r1 then
    if r1 = 0 then
      if (lg_cmp lo3 r6.toInt64) = 0 then
        some (σ8, lo3, dd4)
      else
        none
    else
      some (σ8, lo3, dd4)
  else
    none
def f_T_39 (σ : gM) (lo : Int64) (dd : UInt64) (a1 a2 a3 : Int32) : Option (gM × Int64 × UInt64) :=
  bd4 (f_L_meanHazard σ lo dd) fun r1 σ2 lo3 dd4 =>
  bd2 (f_X13_meanHazard σ2) fun r6 σ8 =>
  bd (f_X13_thrown σ8) fun r9 =>
  if r9 = r1 then
    if r1 = 0 then
      if (Op.cmpValue (FP.dcmp dd4 r6) .l) = 0 then
        some (σ8, lo3, dd4)
      else
        if (Op.cmpValue (FP.dcmp dd4 dd4) .l) = 0 then
          none
        else
          if (Op.cmpValue (FP.dcmp r6 r6) .l) = 0 then
            none
          else
            some (σ8, lo3, dd4)
    else
      some (σ8, lo3, dd4)
  else
    none
def f_T_40 (σ : gM) (lo : Int64) (dd : UInt64) (a1 a2 a3 : Int32) : Option (gM × Int64 × UInt64) :=
  bd4 (f_L_deliveredShare σ lo dd) fun r1 σ2 lo3 dd4 =>
  bd2 (f_X13_deliveredShare σ2) fun r6 σ8 =>
  bd (f_X13_thrown σ8) fun r9 =>
  if r9 = r1 then
    if r1 = 0 then
      gnn64 (FP.f2d r6) <|
      if (Op.cmpValue (FP.dcmp dd4 (FP.f2d r6)) .l) = 0 then
        some (σ8, lo3, dd4)
      else
        if (Op.cmpValue (FP.dcmp dd4 dd4) .l) = 0 then
          none
        else
          if (Op.cmpValue (FP.fcmp r6 r6) .l) = 0 then
            none
          else
            some (σ8, lo3, dd4)
    else
      some (σ8, lo3, dd4)
  else
    none
def f_T_41 (σ : gM) (lo : Int64) (dd : UInt64) (a1 a2 a3 : Int32) : Option (gM × Int64 × UInt64) :=
  bd2 (f_X12_isConsistent σ) fun r1 σ3 =>
  bd2 (f_X13_isConsistent σ3) fun r4 σ6 =>
  if r1 = r4 then
    some (σ6, lo, dd)
  else
    none
def f_T_42 (σ : gM) (lo : Int64) (dd : UInt64) (a1 a2 a3 : Int32) : Option (gM × Int64 × UInt64) :=
  bd4 (f_L_feed σ lo dd (a1.toUInt32 % 65536).toInt32) fun r1 σ2 lo3 dd4 =>
  bd2 (f_X13_feed σ2 (a1.toUInt32 % 65536).toInt32) fun r6 σ8 =>
  bd (f_X13_thrown σ8) fun r9 =>
  if r9 = r1 then
    if r1 = 0 then
      if (lg_cmp lo3 r6.toInt64) = 0 then
        some (σ8, lo3, dd4)
      else
        none
    else
      some (σ8, lo3, dd4)
  else
    none
def f_T_43 (σ : gM) (lo : Int64) (dd : UInt64) (a1 a2 a3 : Int32) : Option (gM × Int64 × UInt64) :=
  bd4 (f_L_runCommands σ lo dd) fun r1 σ2 lo3 dd4 =>
  bd2 (f_X13_runCommands σ2) fun r6 σ8 =>
  bd (f_X13_thrown σ8) fun r9 =>
  if r9 = r1 then
    if r1 = 0 then
      if (lg_cmp lo3 r6.toInt64) = 0 then
        some (σ8, lo3, dd4)
      else
        none
    else
      some (σ8, lo3, dd4)
  else
    none
def f_T_44 (σ : gM) (lo : Int64) (dd : UInt64) (a1 a2 a3 : Int32) : Option (gM × Int64 × UInt64) :=
  bd4 (f_L_errorPosition σ lo dd) fun r1 σ2 lo3 dd4 =>
  bd2 (f_X13_errorPosition σ2) fun r6 σ8 =>
  bd (f_X13_thrown σ8) fun r9 =>
  if r9 = r1 then
    if r1 = 0 then
      if (lg_cmp lo3 r6.toInt64) = 0 then
        some (σ8, lo3, dd4)
      else
        none
    else
      some (σ8, lo3, dd4)
  else
    none
def f_T_45 (σ : gM) (lo : Int64) (dd : UInt64) (a1 a2 a3 : Int32) : Option (gM × Int64 × UInt64) :=
  bd4 (f_L_failedCommand σ lo dd) fun r1 σ2 lo3 dd4 =>
  bd2 (f_X13_failedCommand σ2) fun r6 σ8 =>
  bd (f_X13_thrown σ8) fun r9 =>
  if r9 = r1 then
    if r1 = 0 then
      if (lg_cmp lo3 r6.toInt64) = 0 then
        some (σ8, lo3, dd4)
      else
        none
    else
      some (σ8, lo3, dd4)
  else
    none
def f_T_46 (σ : gM) (lo : Int64) (dd : UInt64) (a1 a2 a3 : Int32) : Option (gM × Int64 × UInt64) :=
  bd4 (f_L_writeSack σ lo dd a1) fun r1 σ2 lo3 dd4 =>
  bd2 (f_X13_writeSack σ2 a1) fun r6 σ8 =>
  bd (f_X13_thrown σ8) fun r9 =>
  if r9 = r1 then
    if r1 = 0 then
      if (lg_cmp lo3 r6.toInt64) = 0 then
        some (σ8, lo3, dd4)
      else
        none
    else
      some (σ8, lo3, dd4)
  else
    none
def f_T_47 (σ : gM) (lo : Int64) (dd : UInt64) (a1 a2 a3 : Int32) : Option (gM × Int64 × UInt64) :=
  bd4 (f_L_outputChar σ lo dd a1) fun r1 σ2 lo3 dd4 =>
  bd2 (f_X13_outputChar σ2 a1) fun r6 σ8 =>
  bd (f_X13_thrown σ8) fun r9 =>
  if r9 = r1 then
    if r1 = 0 then
      if (lg_cmp lo3 r6.toInt64) = 0 then
        some (σ8, lo3, dd4)
      else
        none
    else
      some (σ8, lo3, dd4)
  else
    none
def f_T_48 (σ : gM) (lo : Int64) (dd : UInt64) (a1 a2 a3 : Int32) : Option (gM × Int64 × UInt64) :=
  bd (f_X12_undoCount σ) fun r1 =>
  bd2 (f_X13_undoCount σ) fun r3 σ5 =>
  if r1 = r3 then
    some (σ5, lo, dd)
  else
    none
def f_T_49 (σ : gM) (lo : Int64) (dd : UInt64) (a1 a2 a3 : Int32) : Option (gM × Int64 × UInt64) :=
  bd4 (f_L_undo σ lo dd) fun r1 σ2 lo3 dd4 =>
  bd2 (f_X13_undo σ2) fun r6 σ8 =>
  bd (f_X13_thrown σ8) fun r9 =>
  if r9 = r1 then
    if r1 = 0 then
      if (lg_cmp lo3 r6.toInt64) = 0 then
        some (σ8, lo3, dd4)
      else
        none
    else
      some (σ8, lo3, dd4)
  else
    none
def f_T_50 (σ : gM) (lo : Int64) (dd : UInt64) (a1 a2 a3 : Int32) : Option (gM × Int64 × UInt64) :=
  bd2 (f_X12_save σ) fun r1 σ3 =>
  bd2 (f_X13_save σ3) fun r4 σ6 =>
  if r1 = r4 then
    some (σ6, lo, dd)
  else
    none
def f_T_51 (σ : gM) (lo : Int64) (dd : UInt64) (a1 a2 a3 : Int32) : Option (gM × Int64 × UInt64) :=
  bd4 (f_L_restore σ lo dd) fun r1 σ2 lo3 dd4 =>
  bd2 (f_X13_restore σ2) fun r6 σ8 =>
  bd (f_X13_thrown σ8) fun r9 =>
  if r9 = r1 then
    if r1 = 0 then
      if (lg_cmp lo3 r6.toInt64) = 0 then
        some (σ8, lo3, dd4)
      else
        none
    else
      some (σ8, lo3, dd4)
  else
    none
def f_T (σ : gM) (lo : Int64) (dd : UInt64) (x a1 a2 a3 : Int32) : Option (gM × Int64 × UInt64) :=
  if x &&& 63 = 0 then f_T_0 σ lo dd a1 a2 a3 else
  if x &&& 63 = 1 then f_T_1 σ lo dd a1 a2 a3 else
  if x &&& 63 = 2 then f_T_2 σ lo dd a1 a2 a3 else
  if x &&& 63 = 3 then f_T_3 σ lo dd a1 a2 a3 else
  if x &&& 63 = 4 then f_T_4 σ lo dd a1 a2 a3 else
  if x &&& 63 = 5 then f_T_5 σ lo dd a1 a2 a3 else
  if x &&& 63 = 6 then f_T_6 σ lo dd a1 a2 a3 else
  if x &&& 63 = 7 then f_T_7 σ lo dd a1 a2 a3 else
  if x &&& 63 = 8 then f_T_8 σ lo dd a1 a2 a3 else
  if x &&& 63 = 9 then f_T_9 σ lo dd a1 a2 a3 else
  if x &&& 63 = 10 then f_T_10 σ lo dd a1 a2 a3 else
  if x &&& 63 = 11 then f_T_11 σ lo dd a1 a2 a3 else
  if x &&& 63 = 12 then f_T_12 σ lo dd a1 a2 a3 else
  if x &&& 63 = 13 then f_T_13 σ lo dd a1 a2 a3 else
  if x &&& 63 = 14 then f_T_14 σ lo dd a1 a2 a3 else
  if x &&& 63 = 15 then f_T_15 σ lo dd a1 a2 a3 else
  if x &&& 63 = 16 then f_T_16 σ lo dd a1 a2 a3 else
  if x &&& 63 = 17 then f_T_17 σ lo dd a1 a2 a3 else
  if x &&& 63 = 18 then f_T_18 σ lo dd a1 a2 a3 else
  if x &&& 63 = 19 then f_T_19 σ lo dd a1 a2 a3 else
  if x &&& 63 = 20 then f_T_20 σ lo dd a1 a2 a3 else
  if x &&& 63 = 21 then f_T_21 σ lo dd a1 a2 a3 else
  if x &&& 63 = 22 then f_T_22 σ lo dd a1 a2 a3 else
  if x &&& 63 = 23 then f_T_23 σ lo dd a1 a2 a3 else
  if x &&& 63 = 24 then f_T_24 σ lo dd a1 a2 a3 else
  if x &&& 63 = 25 then f_T_25 σ lo dd a1 a2 a3 else
  if x &&& 63 = 26 then f_T_26 σ lo dd a1 a2 a3 else
  if x &&& 63 = 27 then f_T_27 σ lo dd a1 a2 a3 else
  if x &&& 63 = 28 then f_T_28 σ lo dd a1 a2 a3 else
  if x &&& 63 = 29 then f_T_29 σ lo dd a1 a2 a3 else
  if x &&& 63 = 30 then f_T_30 σ lo dd a1 a2 a3 else
  if x &&& 63 = 31 then f_T_31 σ lo dd a1 a2 a3 else
  if x &&& 63 = 32 then f_T_32 σ lo dd a1 a2 a3 else
  if x &&& 63 = 33 then f_T_33 σ lo dd a1 a2 a3 else
  if x &&& 63 = 34 then f_T_34 σ lo dd a1 a2 a3 else
  if x &&& 63 = 35 then f_T_35 σ lo dd a1 a2 a3 else
  if x &&& 63 = 36 then f_T_36 σ lo dd a1 a2 a3 else
  if x &&& 63 = 37 then f_T_37 σ lo dd a1 a2 a3 else
  if x &&& 63 = 38 then f_T_38 σ lo dd a1 a2 a3 else
  if x &&& 63 = 39 then f_T_39 σ lo dd a1 a2 a3 else
  if x &&& 63 = 40 then f_T_40 σ lo dd a1 a2 a3 else
  if x &&& 63 = 41 then f_T_41 σ lo dd a1 a2 a3 else
  if x &&& 63 = 42 then f_T_42 σ lo dd a1 a2 a3 else
  if x &&& 63 = 43 then f_T_43 σ lo dd a1 a2 a3 else
  if x &&& 63 = 44 then f_T_44 σ lo dd a1 a2 a3 else
  if x &&& 63 = 45 then f_T_45 σ lo dd a1 a2 a3 else
  if x &&& 63 = 46 then f_T_46 σ lo dd a1 a2 a3 else
  if x &&& 63 = 47 then f_T_47 σ lo dd a1 a2 a3 else
  if x &&& 63 = 48 then f_T_48 σ lo dd a1 a2 a3 else
  if x &&& 63 = 49 then f_T_49 σ lo dd a1 a2 a3 else
  if x &&& 63 = 50 then f_T_50 σ lo dd a1 a2 a3 else
  if x &&& 63 = 51 then f_T_51 σ lo dd a1 a2 a3 else
  some (σ, lo, dd)
theorem kw_L_buildRoad : gMW yL_buildRoad cL_buildRoad 6 (some .int) [(0, 12, 15, 13), (0, 12, 19, 15), (0, 12, 23, 17)] 5 := ⟨tw_3_6, tw_1_0, by decide⟩
theorem kw_L_acceptParcel : gMW yL_acceptParcel cL_acceptParcel 6 (some .int) [(0, 12, 15, 13), (0, 12, 19, 15), (0, 12, 23, 17)] 5 := ⟨tw_3_202, tw_1_0, by decide⟩
theorem kw_L_buyGlove : gMW yL_buyGlove cL_buyGlove 4 (some .int) [(0, 9, 12, 15), (0, 9, 15, 17)] 3 := ⟨tw_3_221, tw_1_0, by decide⟩
theorem kw_L_setCapacity : gMW yL_setCapacity cL_setCapacity 5 (some .int) [(0, 10, 13, 13), (0, 10, 17, 15), (0, 10, 21, 17)] 4 := ⟨tw_4_0, tw_1_0, by decide⟩
theorem kw_L_put : gMW yL_put cL_put 5 (some .int) [(0, 10, 13, 13), (0, 10, 17, 17), (0, 10, 21, 33), (0, 10, 25, 35)] 4 := ⟨tw_4_15, tw_1_0, by decide⟩
theorem kw_L_takeOut : gMW yL_takeOut cL_takeOut 4 (some .int) [(0, 9, 12, 13), (0, 9, 15, 17), (0, 9, 18, 35)] 3 := ⟨tw_4_61, tw_1_0, by decide⟩
theorem kw_L_carry : gMW yL_carry cL_carry 5 (some .int) [(0, 10, 13, 13), (0, 10, 17, 15), (0, 10, 21, 35)] 4 := ⟨tw_4_72, tw_1_0, by decide⟩
theorem kw_L_comeBack : gMW yL_comeBack cL_comeBack 4 (some .int) [(0, 9, 12, 13), (0, 9, 15, 17)] 3 := ⟨tw_4_99, tw_1_0, by decide⟩
theorem kw_L_roadLength : gMW yL_roadLength cL_roadLength 5 (some .int) [(0, 10, 13, 13), (0, 10, 17, 35)] 4 := ⟨tw_4_114, tw_1_0, by decide⟩
theorem kw_L_distance : gMW yL_distance cL_distance 5 (some .int) [(0, 10, 13, 13), (0, 10, 17, 35)] 4 := ⟨tw_4_132, tw_1_0, by decide⟩
theorem kw_L_distanceByRounds : gMW yL_distanceByRounds cL_distanceByRounds 5 (some .int) [(0, 10, 13, 13), (0, 10, 17, 35)] 4 := ⟨tw_4_140, tw_1_0, by decide⟩
theorem kw_L_farthestPlace : gMW yL_farthestPlace cL_farthestPlace 4 (some .int) [(0, 9, 12, 13)] 3 := ⟨tw_4_149, tw_1_0, by decide⟩
theorem kw_L_weight : gMW yL_weight cL_weight 4 (some .int) [(0, 9, 12, 13)] 3 := ⟨tw_4_160, tw_1_0, by decide⟩
theorem kw_L_hazard : gMW yL_hazard cL_hazard 4 (some .int) [(0, 9, 12, 13)] 3 := ⟨tw_4_172, tw_1_0, by decide⟩
theorem kw_L_destination : gMW yL_destination cL_destination 4 (some .int) [(0, 9, 12, 13)] 3 := ⟨tw_4_180, tw_1_0, by decide⟩
theorem kw_L_state : gMW yL_state cL_state 4 (some .int) [(0, 9, 12, 13)] 3 := ⟨tw_4_191, tw_1_0, by decide⟩
theorem kw_L_sackOf : gMW yL_sackOf cL_sackOf 4 (some .int) [(0, 9, 12, 13), (0, 9, 15, 35)] 3 := ⟨tw_4_202, tw_1_0, by decide⟩
theorem kw_L_returns : gMW yL_returns cL_returns 4 (some .int) [(0, 9, 12, 13)] 3 := ⟨tw_4_210, tw_1_0, by decide⟩
theorem kw_L_grade : gMW yL_grade cL_grade 4 (some .int) [(0, 9, 12, 13)] 3 := ⟨tw_4_221, tw_1_0, by decide⟩
theorem kw_L_usesLeft : gMW yL_usesLeft cL_usesLeft 4 (some .int) [(0, 9, 12, 13)] 3 := ⟨tw_4_232, tw_1_0, by decide⟩
theorem kw_L_gloveFor : gMW yL_gloveFor cL_gloveFor 4 (some .int) [(0, 9, 12, 13), (0, 9, 15, 33), (0, 9, 18, 35)] 3 := ⟨tw_5_3, tw_1_0, by decide⟩
theorem kw_L_canHandle : gMW yL_canHandle cL_canHandle 4 (some .int) [(0, 16, 19, 13)] 3 := ⟨tw_5_11, tw_1_0, by decide⟩
theorem kw_L_place : gMW yL_place cL_place 4 (some .int) [(0, 9, 12, 13)] 3 := ⟨tw_5_19, tw_1_0, by decide⟩
theorem kw_L_capacity : gMW yL_capacity cL_capacity 4 (some .int) [(0, 9, 12, 13)] 3 := ⟨tw_5_27, tw_1_0, by decide⟩
theorem kw_L_load : gMW yL_load cL_load 4 (some .int) [(0, 9, 12, 13)] 3 := ⟨tw_5_35, tw_1_0, by decide⟩
theorem kw_L_parcelsIn : gMW yL_parcelsIn cL_parcelsIn 4 (some .int) [(0, 9, 12, 13)] 3 := ⟨tw_5_43, tw_1_0, by decide⟩
theorem kw_L_mostFitting : gMW yL_mostFitting cL_mostFitting 4 (some .int) [(0, 9, 12, 13)] 3 := ⟨tw_5_50, tw_1_0, by decide⟩
theorem kw_L_mostFittingByTable : gMW yL_mostFittingByTable cL_mostFittingByTable 4 (some .int) [(0, 9, 12, 13)] 3 := ⟨tw_5_57, tw_1_0, by decide⟩
theorem kw_L_effortTo : gMW yL_effortTo cL_effortTo 5 (some .int) [(0, 10, 13, 13), (0, 10, 17, 35)] 4 := ⟨tw_5_64, tw_1_0, by decide⟩
theorem kw_L_heaviest : gMW yL_heaviest cL_heaviest 4 (some .int) [(0, 9, 12, 35)] 3 := ⟨tw_5_75, tw_1_0, by decide⟩
theorem kw_L_meanHazard : gMW yL_meanHazard cL_meanHazard 3 (some .int) [(0, 7, 10, 118)] 2 := ⟨tw_5_94, tw_1_0, by decide⟩
theorem kw_L_deliveredShare : gMW yL_deliveredShare cL_deliveredShare 3 (some .int) [(0, 8, 11, 118)] 2 := ⟨tw_5_122, tw_1_0, by decide⟩
theorem kw_L_feed : gMW yL_feed cL_feed 4 (some .int) [(0, 9, 12, 17)] 3 := ⟨tw_5_129, tw_1_0, by decide⟩
theorem kw_L_runCommands : gMW yL_runCommands cL_runCommands 3 (some .int) [(0, 8, 11, 15), (0, 8, 14, 33)] 2 := ⟨tw_5_144, tw_1_0, by decide⟩
theorem kw_L_errorPosition : gMW yL_errorPosition cL_errorPosition 3 (some .int) [(0, 8, 11, 35)] 2 := ⟨tw_6_21, tw_1_0, by decide⟩
theorem kw_L_failedCommand : gMW yL_failedCommand cL_failedCommand 3 (some .int) [(0, 8, 11, 35)] 2 := ⟨tw_6_28, tw_1_0, by decide⟩
theorem kw_L_writeSack : gMW yL_writeSack cL_writeSack 4 (some .int) [(0, 9, 12, 13)] 3 := ⟨tw_6_35, tw_1_0, by decide⟩
theorem kw_L_outputChar : gMW yL_outputChar cL_outputChar 4 (some .int) [(0, 9, 12, 13)] 3 := ⟨tw_6_64, tw_1_0, by decide⟩
theorem kw_L_undo : gMW yL_undo cL_undo 3 (some .int) [(0, 8, 11, 17)] 2 := ⟨tw_6_79, tw_1_0, by decide⟩
theorem kw_L_restore : gMW yL_restore cL_restore 3 (some .int) [(0, 8, 11, 17)] 2 := ⟨tw_6_91, tw_1_0, by decide⟩
set_option maxHeartbeats 400000 in
set_option maxRecDepth 100000 in
theorem t_0 {p : Program} {l : Launch} {e : Env} {s : State} {m : MethodId} {args : Array Value} {below : List Frame} {meth : Method} {c : Code} {Q : State → Prop} {G : gT} {lo : Int64} {dd : UInt64} {σ : gM} {b L : Nat} {xs : Nat → Int32} (hfl : l.stackTraces = false) (S : CallFix p m c cL_law 9 s args gTs "ParcelDepotLaw") (C0 : gCST G (gAA G s.heap.size) s) (hX : va_X b L xs s s.heap) (hbl : b < s.heap.size) (hbA : ¬ gAA G s.heap.size b) {i : Int32} (h1 : vp_in (i + 1) L) (h2 : vp_in (i + 2) L) (h3 : vp_in (i + 3) L) {cells slots : Nat} (hc : cells + 3 ≤ room_1.cells) (hs : slots + 18 ≤ room_1.slots) {o : gM × Int64 × UInt64} (hf : f_T_0 σ lo dd (xs (i + 1).toNatClampNeg) (xs (i + 2).toNatClampNeg) (xs (i + 3).toNatClampNeg) = some o) (H : Heap) (locs : List Loc) (ls : Array Slot) (M : gMS G (gAA G s.heap.size) lo dd σ s H locs) (hl : lv_has ls 9 [(0, .ref b), (1, .ref (G.1 0)), (2, .ref (G.1 219)), (3, .ref (G.1 228)), (4, .ref (G.1 229)), (5, .int i)]) (kk : ∀ (H : Heap) (locs : List Loc) (ls : Array Slot), gMS G (gAA G s.heap.size) o.2.1 o.2.2 o.1 s H locs → lv_has ls 9 [(0, .ref b), (1, .ref (G.1 0)), (2, .ref (G.1 219)), (3, .ref (G.1 228)), (4, .ref (G.1 229)), (5, .int i)] → W p l e room_1 s m args below meth c H locs (cells + 3) (slots + 18) Q (F0 m 2764 ls [])) : W p l e room_1 s m args below meth c H locs cells slots Q (F0 m 268 ls []) := by
  have hx := S.1
  have hb := S.2.1
  unfold f_T_0 at hf
  refine lv_aload_n hx hb dL_law_268 rfl (lv_at hl 1 rfl) ?_
  refine lv_aload_n hx hb dL_law_269 rfl (lv_at hl 0 rfl) ?_
  refine lv_iload hx hb dL_law_270 (lv_at hl 5 rfl) ?_
  refine lv_iconst (v := 1) hx hb dL_law_272 (by decide) ?_
  refine lv_iadd hx hb dL_law_273 ?_
  refine va_sld hx hb hX hbl hbA M.2.2.2 h1 dL_law_274 ?_
  refine lv_aload_n hx hb dL_law_275 rfl (lv_at hl 0 rfl) ?_
  refine lv_iload hx hb dL_law_276 (lv_at hl 5 rfl) ?_
  refine lv_iconst (v := 2) hx hb dL_law_278 (by decide) ?_
  refine lv_iadd hx hb dL_law_279 ?_
  refine va_sld hx hb hX hbl hbA M.2.2.2 h2 dL_law_280 ?_
  refine lv_aload_n hx hb dL_law_281 rfl (lv_at hl 0 rfl) ?_
  refine lv_iload hx hb dL_law_282 (lv_at hl 5 rfl) ?_
  refine lv_iconst (v := 3) hx hb dL_law_284 (by decide) ?_
  refine lv_iadd hx hb dL_law_285 ?_
  refine va_sld hx hb hX hbl hbA M.2.2.2 h3 dL_law_286 ?_
  refine lv_aload_n hx hb dL_law_287 rfl (lv_at hl 3 rfl) ?_
  obtain ⟨r1, σ2, lo3, dd4, h5, hf⟩ := bd4_x hf
  refine g_callR (st1 := [.int r1]) (cells' := cells + 1) (slots' := slots + 6) M (g_invW (R := room_1) (index := 154) (cells := cells) (slots := slots) S M C0 hl (c_L_buildRoad l hfl G H.size lo dd σ (xs (i + 1).toNatClampNeg) (xs (i + 2).toNatClampNeg) (xs (i + 3).toNatClampNeg) h5) kw_L_buildRoad tw_3_5 tw_3_4 rfl rfl rfl (gRm_mk rfl rfl (by omega) (by omega)) dL_law_288) rfl rfl rfl (fun H locs M => ?_)
  refine lv_istore (lv' := [(6, .int r1), (0, .ref b), (1, .ref (G.1 0)), (2, .ref (G.1 219)), (3, .ref (G.1 228)), (4, .ref (G.1 229)), (5, .int i)]) hx hb dL_law_291 hl (by decide) rfl (fun ls hl => ?_)
  refine lv_aload_n hx hb dL_law_293 rfl (lv_at hl 3 rfl) ?_
  refine lv_aload_n hx hb dL_law_294 rfl (lv_at hl 1 rfl) ?_
  refine lv_iload hx hb dL_law_295 (lv_at hl 6 rfl) ?_
  refine lv_iconst (v := 1) hx hb dL_law_297 (by decide) ?_
  refine lv_iadd hx hb dL_law_298 ?_
  refine va_sld hx hb hX hbl hbA M.2.2.2 h1 dL_law_299 ?_
  refine lv_aload_n hx hb dL_law_300 rfl (lv_at hl 1 rfl) ?_
  refine lv_iload hx hb dL_law_301 (lv_at hl 6 rfl) ?_
  refine lv_iconst (v := 2) hx hb dL_law_303 (by decide) ?_
  refine lv_iadd hx hb dL_law_304 ?_
  refine va_sld hx hb hX hbl hbA M.2.2.2 h2 dL_law_305 ?_
  refine lv_aload_n hx hb dL_law_306 rfl (lv_at hl 1 rfl) ?_
  refine lv_iload hx hb dL_law_307 (lv_at hl 6 rfl) ?_
  refine lv_iconst (v := 3) hx hb dL_law_309 (by decide) ?_
  refine lv_iadd hx hb dL_law_310 ?_
  refine va_sld hx hb hX hbl hbA M.2.2.2 h3 dL_law_311 ?_
  obtain ⟨r6, σ8, h7, hf⟩ := bd2_x hf
  refine g_callR (st1 := [.int r6]) (cells' := cells + 1) (slots' := slots + 6) M (g_invV (R := room_1) (index := 159) (cells := cells + 1) (slots := slots + 6) S M C0 hl (c_X13_buildRoad l G H.size lo3 dd4 σ2 (xs (i + 1).toNatClampNeg) (xs (i + 2).toNatClampNeg) (xs (i + 3).toNatClampNeg) h7) k_X13_buildRoad tw_6_164 tw_6_165 tw_6_163 (by decide) (ge_13 rfl) rfl rfl rfl rfl rfl (gRm_mk rfl rfl (by omega) (by omega)) dL_law_312) rfl rfl rfl (fun H locs M => ?_)
  refine lv_istore (lv' := [(7, .int r6), (6, .int r1), (0, .ref b), (1, .ref (G.1 0)), (2, .ref (G.1 219)), (3, .ref (G.1 228)), (4, .ref (G.1 229)), (5, .int i)]) hx hb dL_law_315 hl (by decide) rfl (fun ls hl => ?_)
  refine lv_aload_n hx hb dL_law_317 rfl (lv_at hl 4 rfl) ?_
  obtain ⟨r9, h10, hf⟩ := bd_x hf
  refine g_callR (st1 := [.int r9]) (cells' := cells + 1) (slots' := slots + 6) M (g_invV (R := room_1) (index := 160) (cells := cells + 1) (slots := slots + 6) S M C0 hl (c_X13_thrown l G H.size lo3 dd4 σ8 h10) k_X13_thrown tw_6_160 tw_6_161 tw_6_159 (by decide) (ge_13 rfl) rfl rfl rfl rfl rfl (gRm_mk rfl rfl (by omega) (by omega)) dL_law_318) rfl rfl rfl (fun H locs M => ?_)
  refine lv_iload hx hb dL_law_321 (lv_at hl 1 rfl) ?_
  refine lv_icmp_eq (tgt := 328) hx hb dL_law_323 (by decide) (fun c11 => ?_) (fun c11 => ?_)
  · have hf := it_p c11 hf
    refine lv_iload hx hb dL_law_328 (lv_at hl 1 rfl) ?_
    refine lv_if_ne (tgt := 345) hx hb dL_law_330 (by decide) (fun c12 => ?_) (fun c12 => ?_)
    · have hf := it_n c12 hf
      refine lv_goto (tgt := 2764) hx hb dL_law_345 (by decide) ?_
      cases hf
      refine W.widen (k := cells + 3) (n := slots + 18) (by omega) (by omega) ?_
      exact kk _ _ _ M (lv_sub hl [2, 3, 4, 5, 6, 7] rfl)
    · have hf := it_p c12 hf
      refine lv_aload_n hx hb dL_law_333 rfl (lv_at hl 5 rfl) ?_
      refine lv_iconst (v := 0) hx hb dL_law_334 (by decide) ?_
      refine g_lald S M dL_law_335 ?_
      refine lv_iload hx hb dL_law_336 (lv_at hl 0 rfl) ?_
      refine lv_i2l hx hb dL_law_338 rfl ?_
      refine W.lcmp hx hb dL_law_339 ?_
      refine lv_if_eq (tgt := 345) hx hb dL_law_340 (by decide) (fun c13 => ?_) (fun c13 => ?_)
      · have hf := it_p c13 hf
        refine lv_goto (tgt := 2764) hx hb dL_law_345 (by decide) ?_
        cases hf
        refine W.widen (k := cells + 3) (n := slots + 18) (by omega) (by omega) ?_
        exact kk _ _ _ M (lv_sub hl [2, 3, 4, 5, 6, 7] rfl)
      · have hf := it_n c13 hf
        cases hf
  · have hf := it_n c11 hf
    cases hf
set_option maxHeartbeats 400000 in
set_option maxRecDepth 100000 in
theorem t_1 {p : Program} {l : Launch} {e : Env} {s : State} {m : MethodId} {args : Array Value} {below : List Frame} {meth : Method} {c : Code} {Q : State → Prop} {G : gT} {lo : Int64} {dd : UInt64} {σ : gM} {b L : Nat} {xs : Nat → Int32} (hfl : l.stackTraces = false) (S : CallFix p m c cL_law 9 s args gTs "ParcelDepotLaw") (C0 : gCST G (gAA G s.heap.size) s) (hX : va_X b L xs s s.heap) (hbl : b < s.heap.size) (hbA : ¬ gAA G s.heap.size b) {i : Int32} (h1 : vp_in (i + 1) L) (h2 : vp_in (i + 2) L) (h3 : vp_in (i + 3) L) {cells slots : Nat} (hc : cells + 3 ≤ room_1.cells) (hs : slots + 18 ≤ room_1.slots) {o : gM × Int64 × UInt64} (hf : f_T_1 σ lo dd (xs (i + 1).toNatClampNeg) (xs (i + 2).toNatClampNeg) (xs (i + 3).toNatClampNeg) = some o) (H : Heap) (locs : List Loc) (ls : Array Slot) (M : gMS G (gAA G s.heap.size) lo dd σ s H locs) (hl : lv_has ls 9 [(0, .ref b), (1, .ref (G.1 0)), (2, .ref (G.1 219)), (3, .ref (G.1 228)), (4, .ref (G.1 229)), (5, .int i)]) (kk : ∀ (H : Heap) (locs : List Loc) (ls : Array Slot), gMS G (gAA G s.heap.size) o.2.1 o.2.2 o.1 s H locs → lv_has ls 9 [(0, .ref b), (1, .ref (G.1 0)), (2, .ref (G.1 219)), (3, .ref (G.1 228)), (4, .ref (G.1 229)), (5, .int i)] → W p l e room_1 s m args below meth c H locs (cells + 3) (slots + 18) Q (F0 m 2764 ls [])) : W p l e room_1 s m args below meth c H locs cells slots Q (F0 m 348 ls []) := by
  have hx := S.1
  have hb := S.2.1
  unfold f_T_1 at hf
  refine lv_aload_n hx hb dL_law_348 rfl (lv_at hl 1 rfl) ?_
  refine lv_aload_n hx hb dL_law_349 rfl (lv_at hl 0 rfl) ?_
  refine lv_iload hx hb dL_law_350 (lv_at hl 5 rfl) ?_
  refine lv_iconst (v := 1) hx hb dL_law_352 (by decide) ?_
  refine lv_iadd hx hb dL_law_353 ?_
  refine va_sld hx hb hX hbl hbA M.2.2.2 h1 dL_law_354 ?_
  refine lv_aload_n hx hb dL_law_355 rfl (lv_at hl 0 rfl) ?_
  refine lv_iload hx hb dL_law_356 (lv_at hl 5 rfl) ?_
  refine lv_iconst (v := 2) hx hb dL_law_358 (by decide) ?_
  refine lv_iadd hx hb dL_law_359 ?_
  refine va_sld hx hb hX hbl hbA M.2.2.2 h2 dL_law_360 ?_
  refine lv_aload_n hx hb dL_law_361 rfl (lv_at hl 0 rfl) ?_
  refine lv_iload hx hb dL_law_362 (lv_at hl 5 rfl) ?_
  refine lv_iconst (v := 3) hx hb dL_law_364 (by decide) ?_
  refine lv_iadd hx hb dL_law_365 ?_
  refine va_sld hx hb hX hbl hbA M.2.2.2 h3 dL_law_366 ?_
  refine lv_aload_n hx hb dL_law_367 rfl (lv_at hl 3 rfl) ?_
  obtain ⟨r1, σ2, lo3, dd4, h5, hf⟩ := bd4_x hf
  refine g_callR (st1 := [.int r1]) (cells' := cells + 1) (slots' := slots + 6) M (g_invW (R := room_1) (index := 163) (cells := cells) (slots := slots) S M C0 hl (c_L_acceptParcel l hfl G H.size lo dd σ (xs (i + 1).toNatClampNeg) (xs (i + 2).toNatClampNeg) (xs (i + 3).toNatClampNeg) h5) kw_L_acceptParcel tw_3_201 tw_3_200 rfl rfl rfl (gRm_mk rfl rfl (by omega) (by omega)) dL_law_368) rfl rfl rfl (fun H locs M => ?_)
  refine lv_istore (lv' := [(6, .int r1), (0, .ref b), (1, .ref (G.1 0)), (2, .ref (G.1 219)), (3, .ref (G.1 228)), (4, .ref (G.1 229)), (5, .int i)]) hx hb dL_law_371 hl (by decide) rfl (fun ls hl => ?_)
  refine lv_aload_n hx hb dL_law_373 rfl (lv_at hl 3 rfl) ?_
  refine lv_aload_n hx hb dL_law_374 rfl (lv_at hl 1 rfl) ?_
  refine lv_iload hx hb dL_law_375 (lv_at hl 6 rfl) ?_
  refine lv_iconst (v := 1) hx hb dL_law_377 (by decide) ?_
  refine lv_iadd hx hb dL_law_378 ?_
  refine va_sld hx hb hX hbl hbA M.2.2.2 h1 dL_law_379 ?_
  refine lv_aload_n hx hb dL_law_380 rfl (lv_at hl 1 rfl) ?_
  refine lv_iload hx hb dL_law_381 (lv_at hl 6 rfl) ?_
  refine lv_iconst (v := 2) hx hb dL_law_383 (by decide) ?_
  refine lv_iadd hx hb dL_law_384 ?_
  refine va_sld hx hb hX hbl hbA M.2.2.2 h2 dL_law_385 ?_
  refine lv_aload_n hx hb dL_law_386 rfl (lv_at hl 1 rfl) ?_
  refine lv_iload hx hb dL_law_387 (lv_at hl 6 rfl) ?_
  refine lv_iconst (v := 3) hx hb dL_law_389 (by decide) ?_
  refine lv_iadd hx hb dL_law_390 ?_
  refine va_sld hx hb hX hbl hbA M.2.2.2 h3 dL_law_391 ?_
  obtain ⟨r6, σ8, h7, hf⟩ := bd2_x hf
  refine g_callR (st1 := [.int r6]) (cells' := cells + 1) (slots' := slots + 6) M (g_invV (R := room_1) (index := 165) (cells := cells + 1) (slots := slots + 6) S M C0 hl (c_X13_acceptParcel l G H.size lo3 dd4 σ2 (xs (i + 1).toNatClampNeg) (xs (i + 2).toNatClampNeg) (xs (i + 3).toNatClampNeg) h7) k_X13_acceptParcel tw_6_205 tw_6_206 tw_6_204 (by decide) (ge_13 rfl) rfl rfl rfl rfl rfl (gRm_mk rfl rfl (by omega) (by omega)) dL_law_392) rfl rfl rfl (fun H locs M => ?_)
  refine lv_istore (lv' := [(7, .int r6), (6, .int r1), (0, .ref b), (1, .ref (G.1 0)), (2, .ref (G.1 219)), (3, .ref (G.1 228)), (4, .ref (G.1 229)), (5, .int i)]) hx hb dL_law_395 hl (by decide) rfl (fun ls hl => ?_)
  refine lv_aload_n hx hb dL_law_397 rfl (lv_at hl 4 rfl) ?_
  obtain ⟨r9, h10, hf⟩ := bd_x hf
  refine g_callR (st1 := [.int r9]) (cells' := cells + 1) (slots' := slots + 6) M (g_invV (R := room_1) (index := 160) (cells := cells + 1) (slots := slots + 6) S M C0 hl (c_X13_thrown l G H.size lo3 dd4 σ8 h10) k_X13_thrown tw_6_160 tw_6_161 tw_6_159 (by decide) (ge_13 rfl) rfl rfl rfl rfl rfl (gRm_mk rfl rfl (by omega) (by omega)) dL_law_398) rfl rfl rfl (fun H locs M => ?_)
  refine lv_iload hx hb dL_law_401 (lv_at hl 1 rfl) ?_
  refine lv_icmp_eq (tgt := 408) hx hb dL_law_403 (by decide) (fun c11 => ?_) (fun c11 => ?_)
  · have hf := it_p c11 hf
    refine lv_iload hx hb dL_law_408 (lv_at hl 1 rfl) ?_
    refine lv_if_ne (tgt := 425) hx hb dL_law_410 (by decide) (fun c12 => ?_) (fun c12 => ?_)
    · have hf := it_n c12 hf
      refine lv_goto (tgt := 2764) hx hb dL_law_425 (by decide) ?_
      cases hf
      refine W.widen (k := cells + 3) (n := slots + 18) (by omega) (by omega) ?_
      exact kk _ _ _ M (lv_sub hl [2, 3, 4, 5, 6, 7] rfl)
    · have hf := it_p c12 hf
      refine lv_aload_n hx hb dL_law_413 rfl (lv_at hl 5 rfl) ?_
      refine lv_iconst (v := 0) hx hb dL_law_414 (by decide) ?_
      refine g_lald S M dL_law_415 ?_
      refine lv_iload hx hb dL_law_416 (lv_at hl 0 rfl) ?_
      refine lv_i2l hx hb dL_law_418 rfl ?_
      refine W.lcmp hx hb dL_law_419 ?_
      refine lv_if_eq (tgt := 425) hx hb dL_law_420 (by decide) (fun c13 => ?_) (fun c13 => ?_)
      · have hf := it_p c13 hf
        refine lv_goto (tgt := 2764) hx hb dL_law_425 (by decide) ?_
        cases hf
        refine W.widen (k := cells + 3) (n := slots + 18) (by omega) (by omega) ?_
        exact kk _ _ _ M (lv_sub hl [2, 3, 4, 5, 6, 7] rfl)
      · have hf := it_n c13 hf
        cases hf
  · have hf := it_n c11 hf
    cases hf
set_option maxHeartbeats 400000 in
set_option maxRecDepth 100000 in
theorem t_2 {p : Program} {l : Launch} {e : Env} {s : State} {m : MethodId} {args : Array Value} {below : List Frame} {meth : Method} {c : Code} {Q : State → Prop} {G : gT} {lo : Int64} {dd : UInt64} {σ : gM} {b L : Nat} {xs : Nat → Int32} (hfl : l.stackTraces = false) (S : CallFix p m c cL_law 9 s args gTs "ParcelDepotLaw") (C0 : gCST G (gAA G s.heap.size) s) (hX : va_X b L xs s s.heap) (hbl : b < s.heap.size) (hbA : ¬ gAA G s.heap.size b) {i : Int32} (h1 : vp_in (i + 1) L) (h2 : vp_in (i + 2) L) (h3 : vp_in (i + 3) L) {cells slots : Nat} (hc : cells + 3 ≤ room_1.cells) (hs : slots + 18 ≤ room_1.slots) {o : gM × Int64 × UInt64} (hf : f_T_2 σ lo dd (xs (i + 1).toNatClampNeg) (xs (i + 2).toNatClampNeg) (xs (i + 3).toNatClampNeg) = some o) (H : Heap) (locs : List Loc) (ls : Array Slot) (M : gMS G (gAA G s.heap.size) lo dd σ s H locs) (hl : lv_has ls 9 [(0, .ref b), (1, .ref (G.1 0)), (2, .ref (G.1 219)), (3, .ref (G.1 228)), (4, .ref (G.1 229)), (5, .int i)]) (kk : ∀ (H : Heap) (locs : List Loc) (ls : Array Slot), gMS G (gAA G s.heap.size) o.2.1 o.2.2 o.1 s H locs → lv_has ls 9 [(0, .ref b), (1, .ref (G.1 0)), (2, .ref (G.1 219)), (3, .ref (G.1 228)), (4, .ref (G.1 229)), (5, .int i)] → W p l e room_1 s m args below meth c H locs (cells + 3) (slots + 18) Q (F0 m 2764 ls [])) : W p l e room_1 s m args below meth c H locs cells slots Q (F0 m 428 ls []) := by
  have hx := S.1
  have hb := S.2.1
  unfold f_T_2 at hf
  refine lv_aload_n hx hb dL_law_428 rfl (lv_at hl 1 rfl) ?_
  refine lv_aload_n hx hb dL_law_429 rfl (lv_at hl 0 rfl) ?_
  refine lv_iload hx hb dL_law_430 (lv_at hl 5 rfl) ?_
  refine lv_iconst (v := 1) hx hb dL_law_432 (by decide) ?_
  refine lv_iadd hx hb dL_law_433 ?_
  refine va_sld hx hb hX hbl hbA M.2.2.2 h1 dL_law_434 ?_
  refine lv_aload_n hx hb dL_law_435 rfl (lv_at hl 3 rfl) ?_
  obtain ⟨r1, σ2, lo3, dd4, h5, hf⟩ := bd4_x hf
  refine g_callR (st1 := [.int r1]) (cells' := cells + 1) (slots' := slots + 6) M (g_invW (R := room_1) (index := 166) (cells := cells) (slots := slots) S M C0 hl (c_L_buyGlove l hfl G H.size lo dd σ (xs (i + 1).toNatClampNeg) h5) kw_L_buyGlove tw_3_220 tw_3_219 rfl rfl rfl (gRm_mk rfl rfl (by omega) (by omega)) dL_law_436) rfl rfl rfl (fun H locs M => ?_)
  refine lv_istore (lv' := [(6, .int r1), (0, .ref b), (1, .ref (G.1 0)), (2, .ref (G.1 219)), (3, .ref (G.1 228)), (4, .ref (G.1 229)), (5, .int i)]) hx hb dL_law_439 hl (by decide) rfl (fun ls hl => ?_)
  refine lv_aload_n hx hb dL_law_441 rfl (lv_at hl 3 rfl) ?_
  refine lv_aload_n hx hb dL_law_442 rfl (lv_at hl 1 rfl) ?_
  refine lv_iload hx hb dL_law_443 (lv_at hl 6 rfl) ?_
  refine lv_iconst (v := 1) hx hb dL_law_445 (by decide) ?_
  refine lv_iadd hx hb dL_law_446 ?_
  refine va_sld hx hb hX hbl hbA M.2.2.2 h1 dL_law_447 ?_
  obtain ⟨r6, σ8, h7, hf⟩ := bd2_x hf
  refine g_callR (st1 := [.int r6]) (cells' := cells + 1) (slots' := slots + 6) M (g_invV (R := room_1) (index := 169) (cells := cells + 1) (slots := slots + 6) S M C0 hl (c_X13_buyGlove l G H.size lo3 dd4 σ2 (xs (i + 1).toNatClampNeg) h7) k_X13_buyGlove tw_6_213 tw_6_214 tw_6_212 (by decide) (ge_13 rfl) rfl rfl rfl rfl rfl (gRm_mk rfl rfl (by omega) (by omega)) dL_law_448) rfl rfl rfl (fun H locs M => ?_)
  refine lv_istore (lv' := [(7, .int r6), (6, .int r1), (0, .ref b), (1, .ref (G.1 0)), (2, .ref (G.1 219)), (3, .ref (G.1 228)), (4, .ref (G.1 229)), (5, .int i)]) hx hb dL_law_451 hl (by decide) rfl (fun ls hl => ?_)
  refine lv_aload_n hx hb dL_law_453 rfl (lv_at hl 4 rfl) ?_
  obtain ⟨r9, h10, hf⟩ := bd_x hf
  refine g_callR (st1 := [.int r9]) (cells' := cells + 1) (slots' := slots + 6) M (g_invV (R := room_1) (index := 160) (cells := cells + 1) (slots := slots + 6) S M C0 hl (c_X13_thrown l G H.size lo3 dd4 σ8 h10) k_X13_thrown tw_6_160 tw_6_161 tw_6_159 (by decide) (ge_13 rfl) rfl rfl rfl rfl rfl (gRm_mk rfl rfl (by omega) (by omega)) dL_law_454) rfl rfl rfl (fun H locs M => ?_)
  refine lv_iload hx hb dL_law_457 (lv_at hl 1 rfl) ?_
  refine lv_icmp_eq (tgt := 464) hx hb dL_law_459 (by decide) (fun c11 => ?_) (fun c11 => ?_)
  · have hf := it_p c11 hf
    refine lv_iload hx hb dL_law_464 (lv_at hl 1 rfl) ?_
    refine lv_if_ne (tgt := 481) hx hb dL_law_466 (by decide) (fun c12 => ?_) (fun c12 => ?_)
    · have hf := it_n c12 hf
      refine lv_goto (tgt := 2764) hx hb dL_law_481 (by decide) ?_
      cases hf
      refine W.widen (k := cells + 3) (n := slots + 18) (by omega) (by omega) ?_
      exact kk _ _ _ M (lv_sub hl [2, 3, 4, 5, 6, 7] rfl)
    · have hf := it_p c12 hf
      refine lv_aload_n hx hb dL_law_469 rfl (lv_at hl 5 rfl) ?_
      refine lv_iconst (v := 0) hx hb dL_law_470 (by decide) ?_
      refine g_lald S M dL_law_471 ?_
      refine lv_iload hx hb dL_law_472 (lv_at hl 0 rfl) ?_
      refine lv_i2l hx hb dL_law_474 rfl ?_
      refine W.lcmp hx hb dL_law_475 ?_
      refine lv_if_eq (tgt := 481) hx hb dL_law_476 (by decide) (fun c13 => ?_) (fun c13 => ?_)
      · have hf := it_p c13 hf
        refine lv_goto (tgt := 2764) hx hb dL_law_481 (by decide) ?_
        cases hf
        refine W.widen (k := cells + 3) (n := slots + 18) (by omega) (by omega) ?_
        exact kk _ _ _ M (lv_sub hl [2, 3, 4, 5, 6, 7] rfl)
      · have hf := it_n c13 hf
        cases hf
  · have hf := it_n c11 hf
    cases hf
set_option maxHeartbeats 400000 in
set_option maxRecDepth 100000 in
theorem t_3 {p : Program} {l : Launch} {e : Env} {s : State} {m : MethodId} {args : Array Value} {below : List Frame} {meth : Method} {c : Code} {Q : State → Prop} {G : gT} {lo : Int64} {dd : UInt64} {σ : gM} {b L : Nat} {xs : Nat → Int32} (hfl : l.stackTraces = false) (S : CallFix p m c cL_law 9 s args gTs "ParcelDepotLaw") (C0 : gCST G (gAA G s.heap.size) s) (hX : va_X b L xs s s.heap) (hbl : b < s.heap.size) (hbA : ¬ gAA G s.heap.size b) {i : Int32} (h1 : vp_in (i + 1) L) (h2 : vp_in (i + 2) L) (h3 : vp_in (i + 3) L) {cells slots : Nat} (hc : cells + 3 ≤ room_1.cells) (hs : slots + 18 ≤ room_1.slots) {o : gM × Int64 × UInt64} (hf : f_T_3 σ lo dd (xs (i + 1).toNatClampNeg) (xs (i + 2).toNatClampNeg) (xs (i + 3).toNatClampNeg) = some o) (H : Heap) (locs : List Loc) (ls : Array Slot) (M : gMS G (gAA G s.heap.size) lo dd σ s H locs) (hl : lv_has ls 9 [(0, .ref b), (1, .ref (G.1 0)), (2, .ref (G.1 219)), (3, .ref (G.1 228)), (4, .ref (G.1 229)), (5, .int i)]) (kk : ∀ (H : Heap) (locs : List Loc) (ls : Array Slot), gMS G (gAA G s.heap.size) o.2.1 o.2.2 o.1 s H locs → lv_has ls 9 [(0, .ref b), (1, .ref (G.1 0)), (2, .ref (G.1 219)), (3, .ref (G.1 228)), (4, .ref (G.1 229)), (5, .int i)] → W p l e room_1 s m args below meth c H locs (cells + 3) (slots + 18) Q (F0 m 2764 ls [])) : W p l e room_1 s m args below meth c H locs cells slots Q (F0 m 484 ls []) := by
  have hx := S.1
  have hb := S.2.1
  unfold f_T_3 at hf
  refine lv_aload_n hx hb dL_law_484 rfl (lv_at hl 1 rfl) ?_
  refine lv_aload_n hx hb dL_law_485 rfl (lv_at hl 0 rfl) ?_
  refine lv_iload hx hb dL_law_486 (lv_at hl 5 rfl) ?_
  refine lv_iconst (v := 1) hx hb dL_law_488 (by decide) ?_
  refine lv_iadd hx hb dL_law_489 ?_
  refine va_sld hx hb hX hbl hbA M.2.2.2 h1 dL_law_490 ?_
  refine lv_aload_n hx hb dL_law_491 rfl (lv_at hl 0 rfl) ?_
  refine lv_iload hx hb dL_law_492 (lv_at hl 5 rfl) ?_
  refine lv_iconst (v := 2) hx hb dL_law_494 (by decide) ?_
  refine lv_iadd hx hb dL_law_495 ?_
  refine va_sld hx hb hX hbl hbA M.2.2.2 h2 dL_law_496 ?_
  refine lv_aload_n hx hb dL_law_497 rfl (lv_at hl 3 rfl) ?_
  obtain ⟨r1, σ2, lo3, dd4, h5, hf⟩ := bd4_x hf
  refine g_callR (st1 := [.int r1]) (cells' := cells + 1) (slots' := slots + 6) M (g_invW (R := room_1) (index := 170) (cells := cells) (slots := slots) S M C0 hl (c_L_setCapacity l hfl G H.size lo dd σ (xs (i + 1).toNatClampNeg) (xs (i + 2).toNatClampNeg) h5) kw_L_setCapacity tw_3_239 tw_3_238 rfl rfl rfl (gRm_mk rfl rfl (by omega) (by omega)) dL_law_498) rfl rfl rfl (fun H locs M => ?_)
  refine lv_istore (lv' := [(6, .int r1), (0, .ref b), (1, .ref (G.1 0)), (2, .ref (G.1 219)), (3, .ref (G.1 228)), (4, .ref (G.1 229)), (5, .int i)]) hx hb dL_law_501 hl (by decide) rfl (fun ls hl => ?_)
  refine lv_aload_n hx hb dL_law_503 rfl (lv_at hl 3 rfl) ?_
  refine lv_aload_n hx hb dL_law_504 rfl (lv_at hl 1 rfl) ?_
  refine lv_iload hx hb dL_law_505 (lv_at hl 6 rfl) ?_
  refine lv_iconst (v := 1) hx hb dL_law_507 (by decide) ?_
  refine lv_iadd hx hb dL_law_508 ?_
  refine va_sld hx hb hX hbl hbA M.2.2.2 h1 dL_law_509 ?_
  refine lv_aload_n hx hb dL_law_510 rfl (lv_at hl 1 rfl) ?_
  refine lv_iload hx hb dL_law_511 (lv_at hl 6 rfl) ?_
  refine lv_iconst (v := 2) hx hb dL_law_513 (by decide) ?_
  refine lv_iadd hx hb dL_law_514 ?_
  refine va_sld hx hb hX hbl hbA M.2.2.2 h2 dL_law_515 ?_
  obtain ⟨r6, σ8, h7, hf⟩ := bd2_x hf
  refine g_callR (st1 := [.int r6]) (cells' := cells + 1) (slots' := slots + 6) M (g_invV (R := room_1) (index := 173) (cells := cells + 1) (slots := slots + 6) S M C0 hl (c_X13_setCapacity l G H.size lo3 dd4 σ2 (xs (i + 1).toNatClampNeg) (xs (i + 2).toNatClampNeg) h7) k_X13_setCapacity tw_6_221 tw_6_222 tw_6_220 (by decide) (ge_13 rfl) rfl rfl rfl rfl rfl (gRm_mk rfl rfl (by omega) (by omega)) dL_law_516) rfl rfl rfl (fun H locs M => ?_)
  refine lv_istore (lv' := [(7, .int r6), (6, .int r1), (0, .ref b), (1, .ref (G.1 0)), (2, .ref (G.1 219)), (3, .ref (G.1 228)), (4, .ref (G.1 229)), (5, .int i)]) hx hb dL_law_519 hl (by decide) rfl (fun ls hl => ?_)
  refine lv_aload_n hx hb dL_law_521 rfl (lv_at hl 4 rfl) ?_
  obtain ⟨r9, h10, hf⟩ := bd_x hf
  refine g_callR (st1 := [.int r9]) (cells' := cells + 1) (slots' := slots + 6) M (g_invV (R := room_1) (index := 160) (cells := cells + 1) (slots := slots + 6) S M C0 hl (c_X13_thrown l G H.size lo3 dd4 σ8 h10) k_X13_thrown tw_6_160 tw_6_161 tw_6_159 (by decide) (ge_13 rfl) rfl rfl rfl rfl rfl (gRm_mk rfl rfl (by omega) (by omega)) dL_law_522) rfl rfl rfl (fun H locs M => ?_)
  refine lv_iload hx hb dL_law_525 (lv_at hl 1 rfl) ?_
  refine lv_icmp_eq (tgt := 532) hx hb dL_law_527 (by decide) (fun c11 => ?_) (fun c11 => ?_)
  · have hf := it_p c11 hf
    refine lv_iload hx hb dL_law_532 (lv_at hl 1 rfl) ?_
    refine lv_if_ne (tgt := 549) hx hb dL_law_534 (by decide) (fun c12 => ?_) (fun c12 => ?_)
    · have hf := it_n c12 hf
      refine lv_goto (tgt := 2764) hx hb dL_law_549 (by decide) ?_
      cases hf
      refine W.widen (k := cells + 3) (n := slots + 18) (by omega) (by omega) ?_
      exact kk _ _ _ M (lv_sub hl [2, 3, 4, 5, 6, 7] rfl)
    · have hf := it_p c12 hf
      refine lv_aload_n hx hb dL_law_537 rfl (lv_at hl 5 rfl) ?_
      refine lv_iconst (v := 0) hx hb dL_law_538 (by decide) ?_
      refine g_lald S M dL_law_539 ?_
      refine lv_iload hx hb dL_law_540 (lv_at hl 0 rfl) ?_
      refine lv_i2l hx hb dL_law_542 rfl ?_
      refine W.lcmp hx hb dL_law_543 ?_
      refine lv_if_eq (tgt := 549) hx hb dL_law_544 (by decide) (fun c13 => ?_) (fun c13 => ?_)
      · have hf := it_p c13 hf
        refine lv_goto (tgt := 2764) hx hb dL_law_549 (by decide) ?_
        cases hf
        refine W.widen (k := cells + 3) (n := slots + 18) (by omega) (by omega) ?_
        exact kk _ _ _ M (lv_sub hl [2, 3, 4, 5, 6, 7] rfl)
      · have hf := it_n c13 hf
        cases hf
  · have hf := it_n c11 hf
    cases hf
set_option maxHeartbeats 400000 in
set_option maxRecDepth 100000 in
theorem t_4 {p : Program} {l : Launch} {e : Env} {s : State} {m : MethodId} {args : Array Value} {below : List Frame} {meth : Method} {c : Code} {Q : State → Prop} {G : gT} {lo : Int64} {dd : UInt64} {σ : gM} {b L : Nat} {xs : Nat → Int32} (hfl : l.stackTraces = false) (S : CallFix p m c cL_law 9 s args gTs "ParcelDepotLaw") (C0 : gCST G (gAA G s.heap.size) s) (hX : va_X b L xs s s.heap) (hbl : b < s.heap.size) (hbA : ¬ gAA G s.heap.size b) {i : Int32} (h1 : vp_in (i + 1) L) (h2 : vp_in (i + 2) L) (h3 : vp_in (i + 3) L) {cells slots : Nat} (hc : cells + 3 ≤ room_1.cells) (hs : slots + 18 ≤ room_1.slots) {o : gM × Int64 × UInt64} (hf : f_T_4 σ lo dd (xs (i + 1).toNatClampNeg) (xs (i + 2).toNatClampNeg) (xs (i + 3).toNatClampNeg) = some o) (H : Heap) (locs : List Loc) (ls : Array Slot) (M : gMS G (gAA G s.heap.size) lo dd σ s H locs) (hl : lv_has ls 9 [(0, .ref b), (1, .ref (G.1 0)), (2, .ref (G.1 219)), (3, .ref (G.1 228)), (4, .ref (G.1 229)), (5, .int i)]) (kk : ∀ (H : Heap) (locs : List Loc) (ls : Array Slot), gMS G (gAA G s.heap.size) o.2.1 o.2.2 o.1 s H locs → lv_has ls 9 [(0, .ref b), (1, .ref (G.1 0)), (2, .ref (G.1 219)), (3, .ref (G.1 228)), (4, .ref (G.1 229)), (5, .int i)] → W p l e room_1 s m args below meth c H locs (cells + 3) (slots + 18) Q (F0 m 2764 ls [])) : W p l e room_1 s m args below meth c H locs cells slots Q (F0 m 552 ls []) := by
  have hx := S.1
  have hb := S.2.1
  unfold f_T_4 at hf
  refine lv_aload_n hx hb dL_law_552 rfl (lv_at hl 1 rfl) ?_
  refine lv_aload_n hx hb dL_law_553 rfl (lv_at hl 0 rfl) ?_
  refine lv_iload hx hb dL_law_554 (lv_at hl 5 rfl) ?_
  refine lv_iconst (v := 1) hx hb dL_law_556 (by decide) ?_
  refine lv_iadd hx hb dL_law_557 ?_
  refine va_sld hx hb hX hbl hbA M.2.2.2 h1 dL_law_558 ?_
  refine lv_aload_n hx hb dL_law_559 rfl (lv_at hl 0 rfl) ?_
  refine lv_iload hx hb dL_law_560 (lv_at hl 5 rfl) ?_
  refine lv_iconst (v := 2) hx hb dL_law_562 (by decide) ?_
  refine lv_iadd hx hb dL_law_563 ?_
  refine va_sld hx hb hX hbl hbA M.2.2.2 h2 dL_law_564 ?_
  refine lv_aload_n hx hb dL_law_565 rfl (lv_at hl 3 rfl) ?_
  obtain ⟨r1, σ2, lo3, dd4, h5, hf⟩ := bd4_x hf
  refine g_callR (st1 := [.int r1]) (cells' := cells + 1) (slots' := slots + 6) M (g_invW (R := room_1) (index := 174) (cells := cells) (slots := slots) S M C0 hl (c_L_put l hfl G H.size lo dd σ (xs (i + 1).toNatClampNeg) (xs (i + 2).toNatClampNeg) h5) kw_L_put tw_4_14 tw_4_13 rfl rfl rfl (gRm_mk rfl rfl (by omega) (by omega)) dL_law_566) rfl rfl rfl (fun H locs M => ?_)
  refine lv_istore (lv' := [(6, .int r1), (0, .ref b), (1, .ref (G.1 0)), (2, .ref (G.1 219)), (3, .ref (G.1 228)), (4, .ref (G.1 229)), (5, .int i)]) hx hb dL_law_569 hl (by decide) rfl (fun ls hl => ?_)
  refine lv_aload_n hx hb dL_law_571 rfl (lv_at hl 3 rfl) ?_
  refine lv_aload_n hx hb dL_law_572 rfl (lv_at hl 1 rfl) ?_
  refine lv_iload hx hb dL_law_573 (lv_at hl 6 rfl) ?_
  refine lv_iconst (v := 1) hx hb dL_law_575 (by decide) ?_
  refine lv_iadd hx hb dL_law_576 ?_
  refine va_sld hx hb hX hbl hbA M.2.2.2 h1 dL_law_577 ?_
  refine lv_aload_n hx hb dL_law_578 rfl (lv_at hl 1 rfl) ?_
  refine lv_iload hx hb dL_law_579 (lv_at hl 6 rfl) ?_
  refine lv_iconst (v := 2) hx hb dL_law_581 (by decide) ?_
  refine lv_iadd hx hb dL_law_582 ?_
  refine va_sld hx hb hX hbl hbA M.2.2.2 h2 dL_law_583 ?_
  obtain ⟨r6, σ8, h7, hf⟩ := bd2_x hf
  refine g_callR (st1 := [.int r6]) (cells' := cells + 1) (slots' := slots + 6) M (g_invV (R := room_1) (index := 176) (cells := cells + 1) (slots := slots + 6) S M C0 hl (c_X13_put l G H.size lo3 dd4 σ2 (xs (i + 1).toNatClampNeg) (xs (i + 2).toNatClampNeg) h7) k_X13_put tw_6_236 tw_6_237 tw_6_235 (by decide) (ge_13 rfl) rfl rfl rfl rfl rfl (gRm_mk rfl rfl (by omega) (by omega)) dL_law_584) rfl rfl rfl (fun H locs M => ?_)
  refine lv_istore (lv' := [(7, .int r6), (6, .int r1), (0, .ref b), (1, .ref (G.1 0)), (2, .ref (G.1 219)), (3, .ref (G.1 228)), (4, .ref (G.1 229)), (5, .int i)]) hx hb dL_law_587 hl (by decide) rfl (fun ls hl => ?_)
  refine lv_aload_n hx hb dL_law_589 rfl (lv_at hl 4 rfl) ?_
  obtain ⟨r9, h10, hf⟩ := bd_x hf
  refine g_callR (st1 := [.int r9]) (cells' := cells + 1) (slots' := slots + 6) M (g_invV (R := room_1) (index := 160) (cells := cells + 1) (slots := slots + 6) S M C0 hl (c_X13_thrown l G H.size lo3 dd4 σ8 h10) k_X13_thrown tw_6_160 tw_6_161 tw_6_159 (by decide) (ge_13 rfl) rfl rfl rfl rfl rfl (gRm_mk rfl rfl (by omega) (by omega)) dL_law_590) rfl rfl rfl (fun H locs M => ?_)
  refine lv_iload hx hb dL_law_593 (lv_at hl 1 rfl) ?_
  refine lv_icmp_eq (tgt := 600) hx hb dL_law_595 (by decide) (fun c11 => ?_) (fun c11 => ?_)
  · have hf := it_p c11 hf
    refine lv_iload hx hb dL_law_600 (lv_at hl 1 rfl) ?_
    refine lv_if_ne (tgt := 617) hx hb dL_law_602 (by decide) (fun c12 => ?_) (fun c12 => ?_)
    · have hf := it_n c12 hf
      refine lv_goto (tgt := 2764) hx hb dL_law_617 (by decide) ?_
      cases hf
      refine W.widen (k := cells + 3) (n := slots + 18) (by omega) (by omega) ?_
      exact kk _ _ _ M (lv_sub hl [2, 3, 4, 5, 6, 7] rfl)
    · have hf := it_p c12 hf
      refine lv_aload_n hx hb dL_law_605 rfl (lv_at hl 5 rfl) ?_
      refine lv_iconst (v := 0) hx hb dL_law_606 (by decide) ?_
      refine g_lald S M dL_law_607 ?_
      refine lv_iload hx hb dL_law_608 (lv_at hl 0 rfl) ?_
      refine lv_i2l hx hb dL_law_610 rfl ?_
      refine W.lcmp hx hb dL_law_611 ?_
      refine lv_if_eq (tgt := 617) hx hb dL_law_612 (by decide) (fun c13 => ?_) (fun c13 => ?_)
      · have hf := it_p c13 hf
        refine lv_goto (tgt := 2764) hx hb dL_law_617 (by decide) ?_
        cases hf
        refine W.widen (k := cells + 3) (n := slots + 18) (by omega) (by omega) ?_
        exact kk _ _ _ M (lv_sub hl [2, 3, 4, 5, 6, 7] rfl)
      · have hf := it_n c13 hf
        cases hf
  · have hf := it_n c11 hf
    cases hf
set_option maxHeartbeats 400000 in
set_option maxRecDepth 100000 in
theorem t_5 {p : Program} {l : Launch} {e : Env} {s : State} {m : MethodId} {args : Array Value} {below : List Frame} {meth : Method} {c : Code} {Q : State → Prop} {G : gT} {lo : Int64} {dd : UInt64} {σ : gM} {b L : Nat} {xs : Nat → Int32} (hfl : l.stackTraces = false) (S : CallFix p m c cL_law 9 s args gTs "ParcelDepotLaw") (C0 : gCST G (gAA G s.heap.size) s) (hX : va_X b L xs s s.heap) (hbl : b < s.heap.size) (hbA : ¬ gAA G s.heap.size b) {i : Int32} (h1 : vp_in (i + 1) L) (h2 : vp_in (i + 2) L) (h3 : vp_in (i + 3) L) {cells slots : Nat} (hc : cells + 3 ≤ room_1.cells) (hs : slots + 18 ≤ room_1.slots) {o : gM × Int64 × UInt64} (hf : f_T_5 σ lo dd (xs (i + 1).toNatClampNeg) (xs (i + 2).toNatClampNeg) (xs (i + 3).toNatClampNeg) = some o) (H : Heap) (locs : List Loc) (ls : Array Slot) (M : gMS G (gAA G s.heap.size) lo dd σ s H locs) (hl : lv_has ls 9 [(0, .ref b), (1, .ref (G.1 0)), (2, .ref (G.1 219)), (3, .ref (G.1 228)), (4, .ref (G.1 229)), (5, .int i)]) (kk : ∀ (H : Heap) (locs : List Loc) (ls : Array Slot), gMS G (gAA G s.heap.size) o.2.1 o.2.2 o.1 s H locs → lv_has ls 9 [(0, .ref b), (1, .ref (G.1 0)), (2, .ref (G.1 219)), (3, .ref (G.1 228)), (4, .ref (G.1 229)), (5, .int i)] → W p l e room_1 s m args below meth c H locs (cells + 3) (slots + 18) Q (F0 m 2764 ls [])) : W p l e room_1 s m args below meth c H locs cells slots Q (F0 m 620 ls []) := by
  have hx := S.1
  have hb := S.2.1
  unfold f_T_5 at hf
  refine lv_aload_n hx hb dL_law_620 rfl (lv_at hl 1 rfl) ?_
  refine lv_aload_n hx hb dL_law_621 rfl (lv_at hl 0 rfl) ?_
  refine lv_iload hx hb dL_law_622 (lv_at hl 5 rfl) ?_
  refine lv_iconst (v := 1) hx hb dL_law_624 (by decide) ?_
  refine lv_iadd hx hb dL_law_625 ?_
  refine va_sld hx hb hX hbl hbA M.2.2.2 h1 dL_law_626 ?_
  refine lv_aload_n hx hb dL_law_627 rfl (lv_at hl 3 rfl) ?_
  obtain ⟨r1, σ2, lo3, dd4, h5, hf⟩ := bd4_x hf
  refine g_callR (st1 := [.int r1]) (cells' := cells + 1) (slots' := slots + 6) M (g_invW (R := room_1) (index := 177) (cells := cells) (slots := slots) S M C0 hl (c_L_takeOut l hfl G H.size lo dd σ (xs (i + 1).toNatClampNeg) h5) kw_L_takeOut tw_4_60 tw_4_59 rfl rfl rfl (gRm_mk rfl rfl (by omega) (by omega)) dL_law_628) rfl rfl rfl (fun H locs M => ?_)
  refine lv_istore (lv' := [(6, .int r1), (0, .ref b), (1, .ref (G.1 0)), (2, .ref (G.1 219)), (3, .ref (G.1 228)), (4, .ref (G.1 229)), (5, .int i)]) hx hb dL_law_631 hl (by decide) rfl (fun ls hl => ?_)
  refine lv_aload_n hx hb dL_law_633 rfl (lv_at hl 3 rfl) ?_
  refine lv_aload_n hx hb dL_law_634 rfl (lv_at hl 1 rfl) ?_
  refine lv_iload hx hb dL_law_635 (lv_at hl 6 rfl) ?_
  refine lv_iconst (v := 1) hx hb dL_law_637 (by decide) ?_
  refine lv_iadd hx hb dL_law_638 ?_
  refine va_sld hx hb hX hbl hbA M.2.2.2 h1 dL_law_639 ?_
  obtain ⟨r6, σ8, h7, hf⟩ := bd2_x hf
  refine g_callR (st1 := [.int r6]) (cells' := cells + 1) (slots' := slots + 6) M (g_invV (R := room_1) (index := 179) (cells := cells + 1) (slots := slots + 6) S M C0 hl (c_X13_takeOut l G H.size lo3 dd4 σ2 (xs (i + 1).toNatClampNeg) h7) k_X13_takeOut tw_7_24 tw_7_25 tw_7_23 (by decide) (ge_13 rfl) rfl rfl rfl rfl rfl (gRm_mk rfl rfl (by omega) (by omega)) dL_law_640) rfl rfl rfl (fun H locs M => ?_)
  refine lv_istore (lv' := [(7, .int r6), (6, .int r1), (0, .ref b), (1, .ref (G.1 0)), (2, .ref (G.1 219)), (3, .ref (G.1 228)), (4, .ref (G.1 229)), (5, .int i)]) hx hb dL_law_643 hl (by decide) rfl (fun ls hl => ?_)
  refine lv_aload_n hx hb dL_law_645 rfl (lv_at hl 4 rfl) ?_
  obtain ⟨r9, h10, hf⟩ := bd_x hf
  refine g_callR (st1 := [.int r9]) (cells' := cells + 1) (slots' := slots + 6) M (g_invV (R := room_1) (index := 160) (cells := cells + 1) (slots := slots + 6) S M C0 hl (c_X13_thrown l G H.size lo3 dd4 σ8 h10) k_X13_thrown tw_6_160 tw_6_161 tw_6_159 (by decide) (ge_13 rfl) rfl rfl rfl rfl rfl (gRm_mk rfl rfl (by omega) (by omega)) dL_law_646) rfl rfl rfl (fun H locs M => ?_)
  refine lv_iload hx hb dL_law_649 (lv_at hl 1 rfl) ?_
  refine lv_icmp_eq (tgt := 656) hx hb dL_law_651 (by decide) (fun c11 => ?_) (fun c11 => ?_)
  · have hf := it_p c11 hf
    refine lv_iload hx hb dL_law_656 (lv_at hl 1 rfl) ?_
    refine lv_if_ne (tgt := 673) hx hb dL_law_658 (by decide) (fun c12 => ?_) (fun c12 => ?_)
    · have hf := it_n c12 hf
      refine lv_goto (tgt := 2764) hx hb dL_law_673 (by decide) ?_
      cases hf
      refine W.widen (k := cells + 3) (n := slots + 18) (by omega) (by omega) ?_
      exact kk _ _ _ M (lv_sub hl [2, 3, 4, 5, 6, 7] rfl)
    · have hf := it_p c12 hf
      refine lv_aload_n hx hb dL_law_661 rfl (lv_at hl 5 rfl) ?_
      refine lv_iconst (v := 0) hx hb dL_law_662 (by decide) ?_
      refine g_lald S M dL_law_663 ?_
      refine lv_iload hx hb dL_law_664 (lv_at hl 0 rfl) ?_
      refine lv_i2l hx hb dL_law_666 rfl ?_
      refine W.lcmp hx hb dL_law_667 ?_
      refine lv_if_eq (tgt := 673) hx hb dL_law_668 (by decide) (fun c13 => ?_) (fun c13 => ?_)
      · have hf := it_p c13 hf
        refine lv_goto (tgt := 2764) hx hb dL_law_673 (by decide) ?_
        cases hf
        refine W.widen (k := cells + 3) (n := slots + 18) (by omega) (by omega) ?_
        exact kk _ _ _ M (lv_sub hl [2, 3, 4, 5, 6, 7] rfl)
      · have hf := it_n c13 hf
        cases hf
  · have hf := it_n c11 hf
    cases hf
set_option maxHeartbeats 400000 in
set_option maxRecDepth 100000 in
theorem t_6 {p : Program} {l : Launch} {e : Env} {s : State} {m : MethodId} {args : Array Value} {below : List Frame} {meth : Method} {c : Code} {Q : State → Prop} {G : gT} {lo : Int64} {dd : UInt64} {σ : gM} {b L : Nat} {xs : Nat → Int32} (hfl : l.stackTraces = false) (S : CallFix p m c cL_law 9 s args gTs "ParcelDepotLaw") (C0 : gCST G (gAA G s.heap.size) s) (hX : va_X b L xs s s.heap) (hbl : b < s.heap.size) (hbA : ¬ gAA G s.heap.size b) {i : Int32} (h1 : vp_in (i + 1) L) (h2 : vp_in (i + 2) L) (h3 : vp_in (i + 3) L) {cells slots : Nat} (hc : cells + 3 ≤ room_1.cells) (hs : slots + 18 ≤ room_1.slots) {o : gM × Int64 × UInt64} (hf : f_T_6 σ lo dd (xs (i + 1).toNatClampNeg) (xs (i + 2).toNatClampNeg) (xs (i + 3).toNatClampNeg) = some o) (H : Heap) (locs : List Loc) (ls : Array Slot) (M : gMS G (gAA G s.heap.size) lo dd σ s H locs) (hl : lv_has ls 9 [(0, .ref b), (1, .ref (G.1 0)), (2, .ref (G.1 219)), (3, .ref (G.1 228)), (4, .ref (G.1 229)), (5, .int i)]) (kk : ∀ (H : Heap) (locs : List Loc) (ls : Array Slot), gMS G (gAA G s.heap.size) o.2.1 o.2.2 o.1 s H locs → lv_has ls 9 [(0, .ref b), (1, .ref (G.1 0)), (2, .ref (G.1 219)), (3, .ref (G.1 228)), (4, .ref (G.1 229)), (5, .int i)] → W p l e room_1 s m args below meth c H locs (cells + 3) (slots + 18) Q (F0 m 2764 ls [])) : W p l e room_1 s m args below meth c H locs cells slots Q (F0 m 676 ls []) := by
  have hx := S.1
  have hb := S.2.1
  unfold f_T_6 at hf
  refine lv_aload_n hx hb dL_law_676 rfl (lv_at hl 1 rfl) ?_
  refine lv_aload_n hx hb dL_law_677 rfl (lv_at hl 0 rfl) ?_
  refine lv_iload hx hb dL_law_678 (lv_at hl 5 rfl) ?_
  refine lv_iconst (v := 1) hx hb dL_law_680 (by decide) ?_
  refine lv_iadd hx hb dL_law_681 ?_
  refine va_sld hx hb hX hbl hbA M.2.2.2 h1 dL_law_682 ?_
  refine lv_aload_n hx hb dL_law_683 rfl (lv_at hl 0 rfl) ?_
  refine lv_iload hx hb dL_law_684 (lv_at hl 5 rfl) ?_
  refine lv_iconst (v := 2) hx hb dL_law_686 (by decide) ?_
  refine lv_iadd hx hb dL_law_687 ?_
  refine va_sld hx hb hX hbl hbA M.2.2.2 h2 dL_law_688 ?_
  refine lv_aload_n hx hb dL_law_689 rfl (lv_at hl 3 rfl) ?_
  obtain ⟨r1, σ2, lo3, dd4, h5, hf⟩ := bd4_x hf
  refine g_callR (st1 := [.int r1]) (cells' := cells + 1) (slots' := slots + 6) M (g_invW (R := room_1) (index := 180) (cells := cells) (slots := slots) S M C0 hl (c_L_carry l hfl G H.size lo dd σ (xs (i + 1).toNatClampNeg) (xs (i + 2).toNatClampNeg) h5) kw_L_carry tw_4_71 tw_4_70 rfl rfl rfl (gRm_mk rfl rfl (by omega) (by omega)) dL_law_690) rfl rfl rfl (fun H locs M => ?_)
  refine lv_istore (lv' := [(6, .int r1), (0, .ref b), (1, .ref (G.1 0)), (2, .ref (G.1 219)), (3, .ref (G.1 228)), (4, .ref (G.1 229)), (5, .int i)]) hx hb dL_law_693 hl (by decide) rfl (fun ls hl => ?_)
  refine lv_aload_n hx hb dL_law_695 rfl (lv_at hl 3 rfl) ?_
  refine lv_aload_n hx hb dL_law_696 rfl (lv_at hl 1 rfl) ?_
  refine lv_iload hx hb dL_law_697 (lv_at hl 6 rfl) ?_
  refine lv_iconst (v := 1) hx hb dL_law_699 (by decide) ?_
  refine lv_iadd hx hb dL_law_700 ?_
  refine va_sld hx hb hX hbl hbA M.2.2.2 h1 dL_law_701 ?_
  refine lv_aload_n hx hb dL_law_702 rfl (lv_at hl 1 rfl) ?_
  refine lv_iload hx hb dL_law_703 (lv_at hl 6 rfl) ?_
  refine lv_iconst (v := 2) hx hb dL_law_705 (by decide) ?_
  refine lv_iadd hx hb dL_law_706 ?_
  refine va_sld hx hb hX hbl hbA M.2.2.2 h2 dL_law_707 ?_
  obtain ⟨r6, σ8, h7, hf⟩ := bd2_x hf
  refine g_callR (st1 := [.int r6]) (cells' := cells + 1) (slots' := slots + 6) M (g_invV (R := room_1) (index := 182) (cells := cells + 1) (slots := slots + 6) S M C0 hl (c_X13_carry l G H.size lo3 dd4 σ2 (xs (i + 1).toNatClampNeg) (xs (i + 2).toNatClampNeg) h7) k_X13_carry tw_7_32 tw_7_33 tw_7_31 (by decide) (ge_13 rfl) rfl rfl rfl rfl rfl (gRm_mk rfl rfl (by omega) (by omega)) dL_law_708) rfl rfl rfl (fun H locs M => ?_)
  refine lv_istore (lv' := [(7, .int r6), (6, .int r1), (0, .ref b), (1, .ref (G.1 0)), (2, .ref (G.1 219)), (3, .ref (G.1 228)), (4, .ref (G.1 229)), (5, .int i)]) hx hb dL_law_711 hl (by decide) rfl (fun ls hl => ?_)
  refine lv_aload_n hx hb dL_law_713 rfl (lv_at hl 4 rfl) ?_
  obtain ⟨r9, h10, hf⟩ := bd_x hf
  refine g_callR (st1 := [.int r9]) (cells' := cells + 1) (slots' := slots + 6) M (g_invV (R := room_1) (index := 160) (cells := cells + 1) (slots := slots + 6) S M C0 hl (c_X13_thrown l G H.size lo3 dd4 σ8 h10) k_X13_thrown tw_6_160 tw_6_161 tw_6_159 (by decide) (ge_13 rfl) rfl rfl rfl rfl rfl (gRm_mk rfl rfl (by omega) (by omega)) dL_law_714) rfl rfl rfl (fun H locs M => ?_)
  refine lv_iload hx hb dL_law_717 (lv_at hl 1 rfl) ?_
  refine lv_icmp_eq (tgt := 724) hx hb dL_law_719 (by decide) (fun c11 => ?_) (fun c11 => ?_)
  · have hf := it_p c11 hf
    refine lv_iload hx hb dL_law_724 (lv_at hl 1 rfl) ?_
    refine lv_if_ne (tgt := 741) hx hb dL_law_726 (by decide) (fun c12 => ?_) (fun c12 => ?_)
    · have hf := it_n c12 hf
      refine lv_goto (tgt := 2764) hx hb dL_law_741 (by decide) ?_
      cases hf
      refine W.widen (k := cells + 3) (n := slots + 18) (by omega) (by omega) ?_
      exact kk _ _ _ M (lv_sub hl [2, 3, 4, 5, 6, 7] rfl)
    · have hf := it_p c12 hf
      refine lv_aload_n hx hb dL_law_729 rfl (lv_at hl 5 rfl) ?_
      refine lv_iconst (v := 0) hx hb dL_law_730 (by decide) ?_
      refine g_lald S M dL_law_731 ?_
      refine lv_iload hx hb dL_law_732 (lv_at hl 0 rfl) ?_
      refine lv_i2l hx hb dL_law_734 rfl ?_
      refine W.lcmp hx hb dL_law_735 ?_
      refine lv_if_eq (tgt := 741) hx hb dL_law_736 (by decide) (fun c13 => ?_) (fun c13 => ?_)
      · have hf := it_p c13 hf
        refine lv_goto (tgt := 2764) hx hb dL_law_741 (by decide) ?_
        cases hf
        refine W.widen (k := cells + 3) (n := slots + 18) (by omega) (by omega) ?_
        exact kk _ _ _ M (lv_sub hl [2, 3, 4, 5, 6, 7] rfl)
      · have hf := it_n c13 hf
        cases hf
  · have hf := it_n c11 hf
    cases hf
set_option maxHeartbeats 400000 in
set_option maxRecDepth 100000 in
theorem t_7 {p : Program} {l : Launch} {e : Env} {s : State} {m : MethodId} {args : Array Value} {below : List Frame} {meth : Method} {c : Code} {Q : State → Prop} {G : gT} {lo : Int64} {dd : UInt64} {σ : gM} {b L : Nat} {xs : Nat → Int32} (hfl : l.stackTraces = false) (S : CallFix p m c cL_law 9 s args gTs "ParcelDepotLaw") (C0 : gCST G (gAA G s.heap.size) s) (hX : va_X b L xs s s.heap) (hbl : b < s.heap.size) (hbA : ¬ gAA G s.heap.size b) {i : Int32} (h1 : vp_in (i + 1) L) (h2 : vp_in (i + 2) L) (h3 : vp_in (i + 3) L) {cells slots : Nat} (hc : cells + 3 ≤ room_1.cells) (hs : slots + 18 ≤ room_1.slots) {o : gM × Int64 × UInt64} (hf : f_T_7 σ lo dd (xs (i + 1).toNatClampNeg) (xs (i + 2).toNatClampNeg) (xs (i + 3).toNatClampNeg) = some o) (H : Heap) (locs : List Loc) (ls : Array Slot) (M : gMS G (gAA G s.heap.size) lo dd σ s H locs) (hl : lv_has ls 9 [(0, .ref b), (1, .ref (G.1 0)), (2, .ref (G.1 219)), (3, .ref (G.1 228)), (4, .ref (G.1 229)), (5, .int i)]) (kk : ∀ (H : Heap) (locs : List Loc) (ls : Array Slot), gMS G (gAA G s.heap.size) o.2.1 o.2.2 o.1 s H locs → lv_has ls 9 [(0, .ref b), (1, .ref (G.1 0)), (2, .ref (G.1 219)), (3, .ref (G.1 228)), (4, .ref (G.1 229)), (5, .int i)] → W p l e room_1 s m args below meth c H locs (cells + 3) (slots + 18) Q (F0 m 2764 ls [])) : W p l e room_1 s m args below meth c H locs cells slots Q (F0 m 744 ls []) := by
  have hx := S.1
  have hb := S.2.1
  unfold f_T_7 at hf
  refine lv_aload_n hx hb dL_law_744 rfl (lv_at hl 1 rfl) ?_
  refine lv_aload_n hx hb dL_law_745 rfl (lv_at hl 0 rfl) ?_
  refine lv_iload hx hb dL_law_746 (lv_at hl 5 rfl) ?_
  refine lv_iconst (v := 1) hx hb dL_law_748 (by decide) ?_
  refine lv_iadd hx hb dL_law_749 ?_
  refine va_sld hx hb hX hbl hbA M.2.2.2 h1 dL_law_750 ?_
  refine lv_aload_n hx hb dL_law_751 rfl (lv_at hl 3 rfl) ?_
  obtain ⟨r1, σ2, lo3, dd4, h5, hf⟩ := bd4_x hf
  refine g_callR (st1 := [.int r1]) (cells' := cells + 1) (slots' := slots + 6) M (g_invW (R := room_1) (index := 183) (cells := cells) (slots := slots) S M C0 hl (c_L_comeBack l hfl G H.size lo dd σ (xs (i + 1).toNatClampNeg) h5) kw_L_comeBack tw_4_98 tw_4_97 rfl rfl rfl (gRm_mk rfl rfl (by omega) (by omega)) dL_law_752) rfl rfl rfl (fun H locs M => ?_)
  refine lv_istore (lv' := [(6, .int r1), (0, .ref b), (1, .ref (G.1 0)), (2, .ref (G.1 219)), (3, .ref (G.1 228)), (4, .ref (G.1 229)), (5, .int i)]) hx hb dL_law_755 hl (by decide) rfl (fun ls hl => ?_)
  refine lv_aload_n hx hb dL_law_757 rfl (lv_at hl 3 rfl) ?_
  refine lv_aload_n hx hb dL_law_758 rfl (lv_at hl 1 rfl) ?_
  refine lv_iload hx hb dL_law_759 (lv_at hl 6 rfl) ?_
  refine lv_iconst (v := 1) hx hb dL_law_761 (by decide) ?_
  refine lv_iadd hx hb dL_law_762 ?_
  refine va_sld hx hb hX hbl hbA M.2.2.2 h1 dL_law_763 ?_
  obtain ⟨r6, σ8, h7, hf⟩ := bd2_x hf
  refine g_callR (st1 := [.int r6]) (cells' := cells + 1) (slots' := slots + 6) M (g_invV (R := room_1) (index := 185) (cells := cells + 1) (slots := slots + 6) S M C0 hl (c_X13_comeBack l G H.size lo3 dd4 σ2 (xs (i + 1).toNatClampNeg) h7) k_X13_comeBack tw_7_48 tw_7_49 tw_7_47 (by decide) (ge_13 rfl) rfl rfl rfl rfl rfl (gRm_mk rfl rfl (by omega) (by omega)) dL_law_764) rfl rfl rfl (fun H locs M => ?_)
  refine lv_istore (lv' := [(7, .int r6), (6, .int r1), (0, .ref b), (1, .ref (G.1 0)), (2, .ref (G.1 219)), (3, .ref (G.1 228)), (4, .ref (G.1 229)), (5, .int i)]) hx hb dL_law_767 hl (by decide) rfl (fun ls hl => ?_)
  refine lv_aload_n hx hb dL_law_769 rfl (lv_at hl 4 rfl) ?_
  obtain ⟨r9, h10, hf⟩ := bd_x hf
  refine g_callR (st1 := [.int r9]) (cells' := cells + 1) (slots' := slots + 6) M (g_invV (R := room_1) (index := 160) (cells := cells + 1) (slots := slots + 6) S M C0 hl (c_X13_thrown l G H.size lo3 dd4 σ8 h10) k_X13_thrown tw_6_160 tw_6_161 tw_6_159 (by decide) (ge_13 rfl) rfl rfl rfl rfl rfl (gRm_mk rfl rfl (by omega) (by omega)) dL_law_770) rfl rfl rfl (fun H locs M => ?_)
  refine lv_iload hx hb dL_law_773 (lv_at hl 1 rfl) ?_
  refine lv_icmp_eq (tgt := 780) hx hb dL_law_775 (by decide) (fun c11 => ?_) (fun c11 => ?_)
  · have hf := it_p c11 hf
    refine lv_iload hx hb dL_law_780 (lv_at hl 1 rfl) ?_
    refine lv_if_ne (tgt := 797) hx hb dL_law_782 (by decide) (fun c12 => ?_) (fun c12 => ?_)
    · have hf := it_n c12 hf
      refine lv_goto (tgt := 2764) hx hb dL_law_797 (by decide) ?_
      cases hf
      refine W.widen (k := cells + 3) (n := slots + 18) (by omega) (by omega) ?_
      exact kk _ _ _ M (lv_sub hl [2, 3, 4, 5, 6, 7] rfl)
    · have hf := it_p c12 hf
      refine lv_aload_n hx hb dL_law_785 rfl (lv_at hl 5 rfl) ?_
      refine lv_iconst (v := 0) hx hb dL_law_786 (by decide) ?_
      refine g_lald S M dL_law_787 ?_
      refine lv_iload hx hb dL_law_788 (lv_at hl 0 rfl) ?_
      refine lv_i2l hx hb dL_law_790 rfl ?_
      refine W.lcmp hx hb dL_law_791 ?_
      refine lv_if_eq (tgt := 797) hx hb dL_law_792 (by decide) (fun c13 => ?_) (fun c13 => ?_)
      · have hf := it_p c13 hf
        refine lv_goto (tgt := 2764) hx hb dL_law_797 (by decide) ?_
        cases hf
        refine W.widen (k := cells + 3) (n := slots + 18) (by omega) (by omega) ?_
        exact kk _ _ _ M (lv_sub hl [2, 3, 4, 5, 6, 7] rfl)
      · have hf := it_n c13 hf
        cases hf
  · have hf := it_n c11 hf
    cases hf
set_option maxHeartbeats 400000 in
set_option maxRecDepth 100000 in
theorem t_8 {p : Program} {l : Launch} {e : Env} {s : State} {m : MethodId} {args : Array Value} {below : List Frame} {meth : Method} {c : Code} {Q : State → Prop} {G : gT} {lo : Int64} {dd : UInt64} {σ : gM} {b L : Nat} {xs : Nat → Int32} (hfl : l.stackTraces = false) (S : CallFix p m c cL_law 9 s args gTs "ParcelDepotLaw") (C0 : gCST G (gAA G s.heap.size) s) (hX : va_X b L xs s s.heap) (hbl : b < s.heap.size) (hbA : ¬ gAA G s.heap.size b) {i : Int32} (h1 : vp_in (i + 1) L) (h2 : vp_in (i + 2) L) (h3 : vp_in (i + 3) L) {cells slots : Nat} (hc : cells + 3 ≤ room_1.cells) (hs : slots + 18 ≤ room_1.slots) {o : gM × Int64 × UInt64} (hf : f_T_8 σ lo dd (xs (i + 1).toNatClampNeg) (xs (i + 2).toNatClampNeg) (xs (i + 3).toNatClampNeg) = some o) (H : Heap) (locs : List Loc) (ls : Array Slot) (M : gMS G (gAA G s.heap.size) lo dd σ s H locs) (hl : lv_has ls 9 [(0, .ref b), (1, .ref (G.1 0)), (2, .ref (G.1 219)), (3, .ref (G.1 228)), (4, .ref (G.1 229)), (5, .int i)]) (kk : ∀ (H : Heap) (locs : List Loc) (ls : Array Slot), gMS G (gAA G s.heap.size) o.2.1 o.2.2 o.1 s H locs → lv_has ls 9 [(0, .ref b), (1, .ref (G.1 0)), (2, .ref (G.1 219)), (3, .ref (G.1 228)), (4, .ref (G.1 229)), (5, .int i)] → W p l e room_1 s m args below meth c H locs (cells + 3) (slots + 18) Q (F0 m 2764 ls [])) : W p l e room_1 s m args below meth c H locs cells slots Q (F0 m 800 ls []) := by
  have hx := S.1
  have hb := S.2.1
  unfold f_T_8 at hf
  refine lv_aload_n hx hb dL_law_800 rfl (lv_at hl 1 rfl) ?_
  obtain ⟨r1, h2, hf⟩ := bd_x hf
  refine g_callR (st1 := [.int r1]) (cells' := cells + 0) (slots' := slots + 0) M (g_invV (R := room_1) (index := 186) (cells := cells + 0) (slots := slots + 0) S M C0 hl (c_X12_roadCount l G H.size lo dd σ h2) k_X12_roadCount tw_2_31 tw_2_32 tw_2_30 (by decide) (ge_0 rfl) rfl rfl rfl rfl rfl (gRm_mk rfl rfl (by omega) (by omega)) dL_law_801) rfl rfl rfl (fun H locs M => ?_)
  refine lv_aload_n hx hb dL_law_804 rfl (lv_at hl 2 rfl) ?_
  obtain ⟨r3, σ5, h4, hf⟩ := bd2_x hf
  refine g_callR (st1 := [.int r3, .int r1]) (cells' := cells + 0) (slots' := slots + 0) M (g_invV (R := room_1) (index := 189) (cells := cells + 0) (slots := slots + 0) S M C0 hl (c_X13_roadCount l G H.size lo dd σ h4) k_X13_roadCount tw_7_56 tw_7_57 tw_7_55 (by decide) (ge_13 rfl) rfl rfl rfl rfl rfl (gRm_mk rfl rfl (by omega) (by omega)) dL_law_805) rfl rfl rfl (fun H locs M => ?_)
  refine lv_icmp_eq (tgt := 2764) hx hb dL_law_808 (by decide) (fun c6 => ?_) (fun c6 => ?_)
  · have hf := it_p c6 hf
    cases hf
    refine W.widen (k := cells + 3) (n := slots + 18) (by omega) (by omega) ?_
    exact kk _ _ _ M (lv_sub hl [0, 1, 2, 3, 4, 5] rfl)
  · have hf := it_n c6 hf
    cases hf
set_option maxHeartbeats 400000 in
set_option maxRecDepth 100000 in
theorem t_9 {p : Program} {l : Launch} {e : Env} {s : State} {m : MethodId} {args : Array Value} {below : List Frame} {meth : Method} {c : Code} {Q : State → Prop} {G : gT} {lo : Int64} {dd : UInt64} {σ : gM} {b L : Nat} {xs : Nat → Int32} (hfl : l.stackTraces = false) (S : CallFix p m c cL_law 9 s args gTs "ParcelDepotLaw") (C0 : gCST G (gAA G s.heap.size) s) (hX : va_X b L xs s s.heap) (hbl : b < s.heap.size) (hbA : ¬ gAA G s.heap.size b) {i : Int32} (h1 : vp_in (i + 1) L) (h2 : vp_in (i + 2) L) (h3 : vp_in (i + 3) L) {cells slots : Nat} (hc : cells + 3 ≤ room_1.cells) (hs : slots + 18 ≤ room_1.slots) {o : gM × Int64 × UInt64} (hf : f_T_9 σ lo dd (xs (i + 1).toNatClampNeg) (xs (i + 2).toNatClampNeg) (xs (i + 3).toNatClampNeg) = some o) (H : Heap) (locs : List Loc) (ls : Array Slot) (M : gMS G (gAA G s.heap.size) lo dd σ s H locs) (hl : lv_has ls 9 [(0, .ref b), (1, .ref (G.1 0)), (2, .ref (G.1 219)), (3, .ref (G.1 228)), (4, .ref (G.1 229)), (5, .int i)]) (kk : ∀ (H : Heap) (locs : List Loc) (ls : Array Slot), gMS G (gAA G s.heap.size) o.2.1 o.2.2 o.1 s H locs → lv_has ls 9 [(0, .ref b), (1, .ref (G.1 0)), (2, .ref (G.1 219)), (3, .ref (G.1 228)), (4, .ref (G.1 229)), (5, .int i)] → W p l e room_1 s m args below meth c H locs (cells + 3) (slots + 18) Q (F0 m 2764 ls [])) : W p l e room_1 s m args below meth c H locs cells slots Q (F0 m 813 ls []) := by
  have hx := S.1
  have hb := S.2.1
  unfold f_T_9 at hf
  refine lv_aload_n hx hb dL_law_813 rfl (lv_at hl 1 rfl) ?_
  refine lv_aload_n hx hb dL_law_814 rfl (lv_at hl 0 rfl) ?_
  refine lv_iload hx hb dL_law_815 (lv_at hl 5 rfl) ?_
  refine lv_iconst (v := 1) hx hb dL_law_817 (by decide) ?_
  refine lv_iadd hx hb dL_law_818 ?_
  refine va_sld hx hb hX hbl hbA M.2.2.2 h1 dL_law_819 ?_
  refine lv_aload_n hx hb dL_law_820 rfl (lv_at hl 0 rfl) ?_
  refine lv_iload hx hb dL_law_821 (lv_at hl 5 rfl) ?_
  refine lv_iconst (v := 2) hx hb dL_law_823 (by decide) ?_
  refine lv_iadd hx hb dL_law_824 ?_
  refine va_sld hx hb hX hbl hbA M.2.2.2 h2 dL_law_825 ?_
  refine lv_aload_n hx hb dL_law_826 rfl (lv_at hl 3 rfl) ?_
  obtain ⟨r1, σ2, lo3, dd4, h5, hf⟩ := bd4_x hf
  refine g_callR (st1 := [.int r1]) (cells' := cells + 3) (slots' := slots + 18) M (g_invW (R := room_1) (index := 190) (cells := cells) (slots := slots) S M C0 hl (c_L_roadLength l hfl G H.size lo dd σ (xs (i + 1).toNatClampNeg) (xs (i + 2).toNatClampNeg) h5) kw_L_roadLength tw_4_113 tw_4_112 rfl rfl rfl (gRm_mk rfl rfl (by omega) (by omega)) dL_law_827) rfl rfl rfl (fun H locs M => ?_)
  refine lv_istore (lv' := [(6, .int r1), (0, .ref b), (1, .ref (G.1 0)), (2, .ref (G.1 219)), (3, .ref (G.1 228)), (4, .ref (G.1 229)), (5, .int i)]) hx hb dL_law_830 hl (by decide) rfl (fun ls hl => ?_)
  refine lv_aload_n hx hb dL_law_832 rfl (lv_at hl 3 rfl) ?_
  refine lv_aload_n hx hb dL_law_833 rfl (lv_at hl 1 rfl) ?_
  refine lv_iload hx hb dL_law_834 (lv_at hl 6 rfl) ?_
  refine lv_iconst (v := 1) hx hb dL_law_836 (by decide) ?_
  refine lv_iadd hx hb dL_law_837 ?_
  refine va_sld hx hb hX hbl hbA M.2.2.2 h1 dL_law_838 ?_
  refine lv_aload_n hx hb dL_law_839 rfl (lv_at hl 1 rfl) ?_
  refine lv_iload hx hb dL_law_840 (lv_at hl 6 rfl) ?_
  refine lv_iconst (v := 2) hx hb dL_law_842 (by decide) ?_
  refine lv_iadd hx hb dL_law_843 ?_
  refine va_sld hx hb hX hbl hbA M.2.2.2 h2 dL_law_844 ?_
  obtain ⟨r6, σ8, h7, hf⟩ := bd2_x hf
  refine g_callR (st1 := [.int r6]) (cells' := cells + 3) (slots' := slots + 18) M (g_invV (R := room_1) (index := 192) (cells := cells + 3) (slots := slots + 18) S M C0 hl (c_X13_roadLength l G H.size lo3 dd4 σ2 (xs (i + 1).toNatClampNeg) (xs (i + 2).toNatClampNeg) h7) k_X13_roadLength tw_7_60 tw_7_61 tw_7_59 (by decide) (ge_13 rfl) rfl rfl rfl rfl rfl (gRm_mk rfl rfl (by omega) (by omega)) dL_law_845) rfl rfl rfl (fun H locs M => ?_)
  refine lv_istore (lv' := [(7, .int r6), (6, .int r1), (0, .ref b), (1, .ref (G.1 0)), (2, .ref (G.1 219)), (3, .ref (G.1 228)), (4, .ref (G.1 229)), (5, .int i)]) hx hb dL_law_848 hl (by decide) rfl (fun ls hl => ?_)
  refine lv_aload_n hx hb dL_law_850 rfl (lv_at hl 4 rfl) ?_
  obtain ⟨r9, h10, hf⟩ := bd_x hf
  refine g_callR (st1 := [.int r9]) (cells' := cells + 3) (slots' := slots + 18) M (g_invV (R := room_1) (index := 160) (cells := cells + 3) (slots := slots + 18) S M C0 hl (c_X13_thrown l G H.size lo3 dd4 σ8 h10) k_X13_thrown tw_6_160 tw_6_161 tw_6_159 (by decide) (ge_13 rfl) rfl rfl rfl rfl rfl (gRm_mk rfl rfl (by omega) (by omega)) dL_law_851) rfl rfl rfl (fun H locs M => ?_)
  refine lv_iload hx hb dL_law_854 (lv_at hl 1 rfl) ?_
  refine lv_icmp_eq (tgt := 861) hx hb dL_law_856 (by decide) (fun c11 => ?_) (fun c11 => ?_)
  · have hf := it_p c11 hf
    refine lv_iload hx hb dL_law_861 (lv_at hl 1 rfl) ?_
    refine lv_if_ne (tgt := 878) hx hb dL_law_863 (by decide) (fun c12 => ?_) (fun c12 => ?_)
    · have hf := it_n c12 hf
      refine lv_goto (tgt := 2764) hx hb dL_law_878 (by decide) ?_
      cases hf
      refine W.widen (k := cells + 3) (n := slots + 18) (by omega) (by omega) ?_
      exact kk _ _ _ M (lv_sub hl [2, 3, 4, 5, 6, 7] rfl)
    · have hf := it_p c12 hf
      refine lv_aload_n hx hb dL_law_866 rfl (lv_at hl 5 rfl) ?_
      refine lv_iconst (v := 0) hx hb dL_law_867 (by decide) ?_
      refine g_lald S M dL_law_868 ?_
      refine lv_iload hx hb dL_law_869 (lv_at hl 0 rfl) ?_
      refine lv_i2l hx hb dL_law_871 rfl ?_
      refine W.lcmp hx hb dL_law_872 ?_
      refine lv_if_eq (tgt := 878) hx hb dL_law_873 (by decide) (fun c13 => ?_) (fun c13 => ?_)
      · have hf := it_p c13 hf
        refine lv_goto (tgt := 2764) hx hb dL_law_878 (by decide) ?_
        cases hf
        refine W.widen (k := cells + 3) (n := slots + 18) (by omega) (by omega) ?_
        exact kk _ _ _ M (lv_sub hl [2, 3, 4, 5, 6, 7] rfl)
      · have hf := it_n c13 hf
        cases hf
  · have hf := it_n c11 hf
    cases hf
set_option maxHeartbeats 400000 in
set_option maxRecDepth 100000 in
theorem t_10 {p : Program} {l : Launch} {e : Env} {s : State} {m : MethodId} {args : Array Value} {below : List Frame} {meth : Method} {c : Code} {Q : State → Prop} {G : gT} {lo : Int64} {dd : UInt64} {σ : gM} {b L : Nat} {xs : Nat → Int32} (hfl : l.stackTraces = false) (S : CallFix p m c cL_law 9 s args gTs "ParcelDepotLaw") (C0 : gCST G (gAA G s.heap.size) s) (hX : va_X b L xs s s.heap) (hbl : b < s.heap.size) (hbA : ¬ gAA G s.heap.size b) {i : Int32} (h1 : vp_in (i + 1) L) (h2 : vp_in (i + 2) L) (h3 : vp_in (i + 3) L) {cells slots : Nat} (hc : cells + 3 ≤ room_1.cells) (hs : slots + 18 ≤ room_1.slots) {o : gM × Int64 × UInt64} (hf : f_T_10 σ lo dd (xs (i + 1).toNatClampNeg) (xs (i + 2).toNatClampNeg) (xs (i + 3).toNatClampNeg) = some o) (H : Heap) (locs : List Loc) (ls : Array Slot) (M : gMS G (gAA G s.heap.size) lo dd σ s H locs) (hl : lv_has ls 9 [(0, .ref b), (1, .ref (G.1 0)), (2, .ref (G.1 219)), (3, .ref (G.1 228)), (4, .ref (G.1 229)), (5, .int i)]) (kk : ∀ (H : Heap) (locs : List Loc) (ls : Array Slot), gMS G (gAA G s.heap.size) o.2.1 o.2.2 o.1 s H locs → lv_has ls 9 [(0, .ref b), (1, .ref (G.1 0)), (2, .ref (G.1 219)), (3, .ref (G.1 228)), (4, .ref (G.1 229)), (5, .int i)] → W p l e room_1 s m args below meth c H locs (cells + 3) (slots + 18) Q (F0 m 2764 ls [])) : W p l e room_1 s m args below meth c H locs cells slots Q (F0 m 881 ls []) := by
  have hx := S.1
  have hb := S.2.1
  unfold f_T_10 at hf
  refine lv_aload_n hx hb dL_law_881 rfl (lv_at hl 1 rfl) ?_
  refine lv_aload_n hx hb dL_law_882 rfl (lv_at hl 0 rfl) ?_
  refine lv_iload hx hb dL_law_883 (lv_at hl 5 rfl) ?_
  refine lv_iconst (v := 1) hx hb dL_law_885 (by decide) ?_
  refine lv_iadd hx hb dL_law_886 ?_
  refine va_sld hx hb hX hbl hbA M.2.2.2 h1 dL_law_887 ?_
  refine lv_aload_n hx hb dL_law_888 rfl (lv_at hl 0 rfl) ?_
  refine lv_iload hx hb dL_law_889 (lv_at hl 5 rfl) ?_
  refine lv_iconst (v := 2) hx hb dL_law_891 (by decide) ?_
  refine lv_iadd hx hb dL_law_892 ?_
  refine va_sld hx hb hX hbl hbA M.2.2.2 h2 dL_law_893 ?_
  refine lv_aload_n hx hb dL_law_894 rfl (lv_at hl 3 rfl) ?_
  obtain ⟨r1, σ2, lo3, dd4, h5, hf⟩ := bd4_x hf
  refine g_callR (st1 := [.int r1]) (cells' := cells + 3) (slots' := slots + 18) M (g_invW (R := room_1) (index := 193) (cells := cells) (slots := slots) S M C0 hl (c_L_distance l hfl G H.size lo dd σ (xs (i + 1).toNatClampNeg) (xs (i + 2).toNatClampNeg) h5) kw_L_distance tw_4_131 tw_4_130 rfl rfl rfl (gRm_mk rfl rfl (by omega) (by omega)) dL_law_895) rfl rfl rfl (fun H locs M => ?_)
  refine lv_istore (lv' := [(6, .int r1), (0, .ref b), (1, .ref (G.1 0)), (2, .ref (G.1 219)), (3, .ref (G.1 228)), (4, .ref (G.1 229)), (5, .int i)]) hx hb dL_law_898 hl (by decide) rfl (fun ls hl => ?_)
  refine lv_aload_n hx hb dL_law_900 rfl (lv_at hl 3 rfl) ?_
  refine lv_aload_n hx hb dL_law_901 rfl (lv_at hl 1 rfl) ?_
  refine lv_iload hx hb dL_law_902 (lv_at hl 6 rfl) ?_
  refine lv_iconst (v := 1) hx hb dL_law_904 (by decide) ?_
  refine lv_iadd hx hb dL_law_905 ?_
  refine va_sld hx hb hX hbl hbA M.2.2.2 h1 dL_law_906 ?_
  refine lv_aload_n hx hb dL_law_907 rfl (lv_at hl 1 rfl) ?_
  refine lv_iload hx hb dL_law_908 (lv_at hl 6 rfl) ?_
  refine lv_iconst (v := 2) hx hb dL_law_910 (by decide) ?_
  refine lv_iadd hx hb dL_law_911 ?_
  refine va_sld hx hb hX hbl hbA M.2.2.2 h2 dL_law_912 ?_
  obtain ⟨r6, σ8, h7, hf⟩ := bd2_x hf
  refine g_callR (st1 := [.int r6]) (cells' := cells + 3) (slots' := slots + 18) M (g_invV (R := room_1) (index := 195) (cells := cells + 3) (slots := slots + 18) S M C0 hl (c_X13_distance l G H.size lo3 dd4 σ2 (xs (i + 1).toNatClampNeg) (xs (i + 2).toNatClampNeg) h7) k_X13_distance tw_7_64 tw_7_65 tw_7_63 (by decide) (ge_13 rfl) rfl rfl rfl rfl rfl (gRm_mk rfl rfl (by omega) (by omega)) dL_law_913) rfl rfl rfl (fun H locs M => ?_)
  refine lv_istore (lv' := [(7, .int r6), (6, .int r1), (0, .ref b), (1, .ref (G.1 0)), (2, .ref (G.1 219)), (3, .ref (G.1 228)), (4, .ref (G.1 229)), (5, .int i)]) hx hb dL_law_916 hl (by decide) rfl (fun ls hl => ?_)
  refine lv_aload_n hx hb dL_law_918 rfl (lv_at hl 4 rfl) ?_
  obtain ⟨r9, h10, hf⟩ := bd_x hf
  refine g_callR (st1 := [.int r9]) (cells' := cells + 3) (slots' := slots + 18) M (g_invV (R := room_1) (index := 160) (cells := cells + 3) (slots := slots + 18) S M C0 hl (c_X13_thrown l G H.size lo3 dd4 σ8 h10) k_X13_thrown tw_6_160 tw_6_161 tw_6_159 (by decide) (ge_13 rfl) rfl rfl rfl rfl rfl (gRm_mk rfl rfl (by omega) (by omega)) dL_law_919) rfl rfl rfl (fun H locs M => ?_)
  refine lv_iload hx hb dL_law_922 (lv_at hl 1 rfl) ?_
  refine lv_icmp_eq (tgt := 929) hx hb dL_law_924 (by decide) (fun c11 => ?_) (fun c11 => ?_)
  · have hf := it_p c11 hf
    refine lv_iload hx hb dL_law_929 (lv_at hl 1 rfl) ?_
    refine lv_if_ne (tgt := 946) hx hb dL_law_931 (by decide) (fun c12 => ?_) (fun c12 => ?_)
    · have hf := it_n c12 hf
      refine lv_goto (tgt := 2764) hx hb dL_law_946 (by decide) ?_
      cases hf
      refine W.widen (k := cells + 3) (n := slots + 18) (by omega) (by omega) ?_
      exact kk _ _ _ M (lv_sub hl [2, 3, 4, 5, 6, 7] rfl)
    · have hf := it_p c12 hf
      refine lv_aload_n hx hb dL_law_934 rfl (lv_at hl 5 rfl) ?_
      refine lv_iconst (v := 0) hx hb dL_law_935 (by decide) ?_
      refine g_lald S M dL_law_936 ?_
      refine lv_iload hx hb dL_law_937 (lv_at hl 0 rfl) ?_
      refine lv_i2l hx hb dL_law_939 rfl ?_
      refine W.lcmp hx hb dL_law_940 ?_
      refine lv_if_eq (tgt := 946) hx hb dL_law_941 (by decide) (fun c13 => ?_) (fun c13 => ?_)
      · have hf := it_p c13 hf
        refine lv_goto (tgt := 2764) hx hb dL_law_946 (by decide) ?_
        cases hf
        refine W.widen (k := cells + 3) (n := slots + 18) (by omega) (by omega) ?_
        exact kk _ _ _ M (lv_sub hl [2, 3, 4, 5, 6, 7] rfl)
      · have hf := it_n c13 hf
        cases hf
  · have hf := it_n c11 hf
    cases hf
set_option maxHeartbeats 400000 in
set_option maxRecDepth 100000 in
theorem t_11 {p : Program} {l : Launch} {e : Env} {s : State} {m : MethodId} {args : Array Value} {below : List Frame} {meth : Method} {c : Code} {Q : State → Prop} {G : gT} {lo : Int64} {dd : UInt64} {σ : gM} {b L : Nat} {xs : Nat → Int32} (hfl : l.stackTraces = false) (S : CallFix p m c cL_law 9 s args gTs "ParcelDepotLaw") (C0 : gCST G (gAA G s.heap.size) s) (hX : va_X b L xs s s.heap) (hbl : b < s.heap.size) (hbA : ¬ gAA G s.heap.size b) {i : Int32} (h1 : vp_in (i + 1) L) (h2 : vp_in (i + 2) L) (h3 : vp_in (i + 3) L) {cells slots : Nat} (hc : cells + 3 ≤ room_1.cells) (hs : slots + 18 ≤ room_1.slots) {o : gM × Int64 × UInt64} (hf : f_T_11 σ lo dd (xs (i + 1).toNatClampNeg) (xs (i + 2).toNatClampNeg) (xs (i + 3).toNatClampNeg) = some o) (H : Heap) (locs : List Loc) (ls : Array Slot) (M : gMS G (gAA G s.heap.size) lo dd σ s H locs) (hl : lv_has ls 9 [(0, .ref b), (1, .ref (G.1 0)), (2, .ref (G.1 219)), (3, .ref (G.1 228)), (4, .ref (G.1 229)), (5, .int i)]) (kk : ∀ (H : Heap) (locs : List Loc) (ls : Array Slot), gMS G (gAA G s.heap.size) o.2.1 o.2.2 o.1 s H locs → lv_has ls 9 [(0, .ref b), (1, .ref (G.1 0)), (2, .ref (G.1 219)), (3, .ref (G.1 228)), (4, .ref (G.1 229)), (5, .int i)] → W p l e room_1 s m args below meth c H locs (cells + 3) (slots + 18) Q (F0 m 2764 ls [])) : W p l e room_1 s m args below meth c H locs cells slots Q (F0 m 949 ls []) := by
  have hx := S.1
  have hb := S.2.1
  unfold f_T_11 at hf
  refine lv_aload_n hx hb dL_law_949 rfl (lv_at hl 1 rfl) ?_
  refine lv_aload_n hx hb dL_law_950 rfl (lv_at hl 0 rfl) ?_
  refine lv_iload hx hb dL_law_951 (lv_at hl 5 rfl) ?_
  refine lv_iconst (v := 1) hx hb dL_law_953 (by decide) ?_
  refine lv_iadd hx hb dL_law_954 ?_
  refine va_sld hx hb hX hbl hbA M.2.2.2 h1 dL_law_955 ?_
  refine lv_aload_n hx hb dL_law_956 rfl (lv_at hl 0 rfl) ?_
  refine lv_iload hx hb dL_law_957 (lv_at hl 5 rfl) ?_
  refine lv_iconst (v := 2) hx hb dL_law_959 (by decide) ?_
  refine lv_iadd hx hb dL_law_960 ?_
  refine va_sld hx hb hX hbl hbA M.2.2.2 h2 dL_law_961 ?_
  refine lv_aload_n hx hb dL_law_962 rfl (lv_at hl 3 rfl) ?_
  obtain ⟨r1, σ2, lo3, dd4, h5, hf⟩ := bd4_x hf
  refine g_callR (st1 := [.int r1]) (cells' := cells + 3) (slots' := slots + 18) M (g_invW (R := room_1) (index := 196) (cells := cells) (slots := slots) S M C0 hl (c_L_distanceByRounds l hfl G H.size lo dd σ (xs (i + 1).toNatClampNeg) (xs (i + 2).toNatClampNeg) h5) kw_L_distanceByRounds tw_4_139 tw_4_138 rfl rfl rfl (gRm_mk rfl rfl (by omega) (by omega)) dL_law_963) rfl rfl rfl (fun H locs M => ?_)
  refine lv_istore (lv' := [(6, .int r1), (0, .ref b), (1, .ref (G.1 0)), (2, .ref (G.1 219)), (3, .ref (G.1 228)), (4, .ref (G.1 229)), (5, .int i)]) hx hb dL_law_966 hl (by decide) rfl (fun ls hl => ?_)
  refine lv_aload_n hx hb dL_law_968 rfl (lv_at hl 3 rfl) ?_
  refine lv_aload_n hx hb dL_law_969 rfl (lv_at hl 1 rfl) ?_
  refine lv_iload hx hb dL_law_970 (lv_at hl 6 rfl) ?_
  refine lv_iconst (v := 1) hx hb dL_law_972 (by decide) ?_
  refine lv_iadd hx hb dL_law_973 ?_
  refine va_sld hx hb hX hbl hbA M.2.2.2 h1 dL_law_974 ?_
  refine lv_aload_n hx hb dL_law_975 rfl (lv_at hl 1 rfl) ?_
  refine lv_iload hx hb dL_law_976 (lv_at hl 6 rfl) ?_
  refine lv_iconst (v := 2) hx hb dL_law_978 (by decide) ?_
  refine lv_iadd hx hb dL_law_979 ?_
  refine va_sld hx hb hX hbl hbA M.2.2.2 h2 dL_law_980 ?_
  obtain ⟨r6, σ8, h7, hf⟩ := bd2_x hf
  refine g_callR (st1 := [.int r6]) (cells' := cells + 3) (slots' := slots + 18) M (g_invV (R := room_1) (index := 198) (cells := cells + 3) (slots := slots + 18) S M C0 hl (c_X13_distanceByRounds l G H.size lo3 dd4 σ2 (xs (i + 1).toNatClampNeg) (xs (i + 2).toNatClampNeg) h7) k_X13_distanceByRounds tw_7_68 tw_7_69 tw_7_67 (by decide) (ge_13 rfl) rfl rfl rfl rfl rfl (gRm_mk rfl rfl (by omega) (by omega)) dL_law_981) rfl rfl rfl (fun H locs M => ?_)
  refine lv_istore (lv' := [(7, .int r6), (6, .int r1), (0, .ref b), (1, .ref (G.1 0)), (2, .ref (G.1 219)), (3, .ref (G.1 228)), (4, .ref (G.1 229)), (5, .int i)]) hx hb dL_law_984 hl (by decide) rfl (fun ls hl => ?_)
  refine lv_aload_n hx hb dL_law_986 rfl (lv_at hl 4 rfl) ?_
  obtain ⟨r9, h10, hf⟩ := bd_x hf
  refine g_callR (st1 := [.int r9]) (cells' := cells + 3) (slots' := slots + 18) M (g_invV (R := room_1) (index := 160) (cells := cells + 3) (slots := slots + 18) S M C0 hl (c_X13_thrown l G H.size lo3 dd4 σ8 h10) k_X13_thrown tw_6_160 tw_6_161 tw_6_159 (by decide) (ge_13 rfl) rfl rfl rfl rfl rfl (gRm_mk rfl rfl (by omega) (by omega)) dL_law_987) rfl rfl rfl (fun H locs M => ?_)
  refine lv_iload hx hb dL_law_990 (lv_at hl 1 rfl) ?_
  refine lv_icmp_eq (tgt := 997) hx hb dL_law_992 (by decide) (fun c11 => ?_) (fun c11 => ?_)
  · have hf := it_p c11 hf
    refine lv_iload hx hb dL_law_997 (lv_at hl 1 rfl) ?_
    refine lv_if_ne (tgt := 1014) hx hb dL_law_999 (by decide) (fun c12 => ?_) (fun c12 => ?_)
    · have hf := it_n c12 hf
      refine lv_goto (tgt := 2764) hx hb dL_law_1014 (by decide) ?_
      cases hf
      refine W.widen (k := cells + 3) (n := slots + 18) (by omega) (by omega) ?_
      exact kk _ _ _ M (lv_sub hl [2, 3, 4, 5, 6, 7] rfl)
    · have hf := it_p c12 hf
      refine lv_aload_n hx hb dL_law_1002 rfl (lv_at hl 5 rfl) ?_
      refine lv_iconst (v := 0) hx hb dL_law_1003 (by decide) ?_
      refine g_lald S M dL_law_1004 ?_
      refine lv_iload hx hb dL_law_1005 (lv_at hl 0 rfl) ?_
      refine lv_i2l hx hb dL_law_1007 rfl ?_
      refine W.lcmp hx hb dL_law_1008 ?_
      refine lv_if_eq (tgt := 1014) hx hb dL_law_1009 (by decide) (fun c13 => ?_) (fun c13 => ?_)
      · have hf := it_p c13 hf
        refine lv_goto (tgt := 2764) hx hb dL_law_1014 (by decide) ?_
        cases hf
        refine W.widen (k := cells + 3) (n := slots + 18) (by omega) (by omega) ?_
        exact kk _ _ _ M (lv_sub hl [2, 3, 4, 5, 6, 7] rfl)
      · have hf := it_n c13 hf
        cases hf
  · have hf := it_n c11 hf
    cases hf
set_option maxHeartbeats 400000 in
set_option maxRecDepth 100000 in
theorem t_12 {p : Program} {l : Launch} {e : Env} {s : State} {m : MethodId} {args : Array Value} {below : List Frame} {meth : Method} {c : Code} {Q : State → Prop} {G : gT} {lo : Int64} {dd : UInt64} {σ : gM} {b L : Nat} {xs : Nat → Int32} (hfl : l.stackTraces = false) (S : CallFix p m c cL_law 9 s args gTs "ParcelDepotLaw") (C0 : gCST G (gAA G s.heap.size) s) (hX : va_X b L xs s s.heap) (hbl : b < s.heap.size) (hbA : ¬ gAA G s.heap.size b) {i : Int32} (h1 : vp_in (i + 1) L) (h2 : vp_in (i + 2) L) (h3 : vp_in (i + 3) L) {cells slots : Nat} (hc : cells + 3 ≤ room_1.cells) (hs : slots + 18 ≤ room_1.slots) {o : gM × Int64 × UInt64} (hf : f_T_12 σ lo dd (xs (i + 1).toNatClampNeg) (xs (i + 2).toNatClampNeg) (xs (i + 3).toNatClampNeg) = some o) (H : Heap) (locs : List Loc) (ls : Array Slot) (M : gMS G (gAA G s.heap.size) lo dd σ s H locs) (hl : lv_has ls 9 [(0, .ref b), (1, .ref (G.1 0)), (2, .ref (G.1 219)), (3, .ref (G.1 228)), (4, .ref (G.1 229)), (5, .int i)]) (kk : ∀ (H : Heap) (locs : List Loc) (ls : Array Slot), gMS G (gAA G s.heap.size) o.2.1 o.2.2 o.1 s H locs → lv_has ls 9 [(0, .ref b), (1, .ref (G.1 0)), (2, .ref (G.1 219)), (3, .ref (G.1 228)), (4, .ref (G.1 229)), (5, .int i)] → W p l e room_1 s m args below meth c H locs (cells + 3) (slots + 18) Q (F0 m 2764 ls [])) : W p l e room_1 s m args below meth c H locs cells slots Q (F0 m 1017 ls []) := by
  have hx := S.1
  have hb := S.2.1
  unfold f_T_12 at hf
  refine lv_aload_n hx hb dL_law_1017 rfl (lv_at hl 1 rfl) ?_
  refine lv_aload_n hx hb dL_law_1018 rfl (lv_at hl 0 rfl) ?_
  refine lv_iload hx hb dL_law_1019 (lv_at hl 5 rfl) ?_
  refine lv_iconst (v := 1) hx hb dL_law_1021 (by decide) ?_
  refine lv_iadd hx hb dL_law_1022 ?_
  refine va_sld hx hb hX hbl hbA M.2.2.2 h1 dL_law_1023 ?_
  refine lv_aload_n hx hb dL_law_1024 rfl (lv_at hl 3 rfl) ?_
  obtain ⟨r1, σ2, lo3, dd4, h5, hf⟩ := bd4_x hf
  refine g_callR (st1 := [.int r1]) (cells' := cells + 1) (slots' := slots + 6) M (g_invW (R := room_1) (index := 199) (cells := cells) (slots := slots) S M C0 hl (c_L_farthestPlace l hfl G H.size lo dd σ (xs (i + 1).toNatClampNeg) h5) kw_L_farthestPlace tw_4_148 tw_4_147 rfl rfl rfl (gRm_mk rfl rfl (by omega) (by omega)) dL_law_1025) rfl rfl rfl (fun H locs M => ?_)
  refine lv_istore (lv' := [(6, .int r1), (0, .ref b), (1, .ref (G.1 0)), (2, .ref (G.1 219)), (3, .ref (G.1 228)), (4, .ref (G.1 229)), (5, .int i)]) hx hb dL_law_1028 hl (by decide) rfl (fun ls hl => ?_)
  refine lv_aload_n hx hb dL_law_1030 rfl (lv_at hl 3 rfl) ?_
  refine lv_aload_n hx hb dL_law_1031 rfl (lv_at hl 1 rfl) ?_
  refine lv_iload hx hb dL_law_1032 (lv_at hl 6 rfl) ?_
  refine lv_iconst (v := 1) hx hb dL_law_1034 (by decide) ?_
  refine lv_iadd hx hb dL_law_1035 ?_
  refine va_sld hx hb hX hbl hbA M.2.2.2 h1 dL_law_1036 ?_
  obtain ⟨r6, σ8, h7, hf⟩ := bd2_x hf
  refine g_callR (st1 := [.int r6]) (cells' := cells + 1) (slots' := slots + 6) M (g_invV (R := room_1) (index := 201) (cells := cells + 1) (slots := slots + 6) S M C0 hl (c_X13_farthestPlace l G H.size lo3 dd4 σ2 (xs (i + 1).toNatClampNeg) h7) k_X13_farthestPlace tw_7_73 tw_7_74 tw_7_72 (by decide) (ge_13 rfl) rfl rfl rfl rfl rfl (gRm_mk rfl rfl (by omega) (by omega)) dL_law_1037) rfl rfl rfl (fun H locs M => ?_)
  refine lv_istore (lv' := [(7, .int r6), (6, .int r1), (0, .ref b), (1, .ref (G.1 0)), (2, .ref (G.1 219)), (3, .ref (G.1 228)), (4, .ref (G.1 229)), (5, .int i)]) hx hb dL_law_1040 hl (by decide) rfl (fun ls hl => ?_)
  refine lv_aload_n hx hb dL_law_1042 rfl (lv_at hl 4 rfl) ?_
  obtain ⟨r9, h10, hf⟩ := bd_x hf
  refine g_callR (st1 := [.int r9]) (cells' := cells + 1) (slots' := slots + 6) M (g_invV (R := room_1) (index := 160) (cells := cells + 1) (slots := slots + 6) S M C0 hl (c_X13_thrown l G H.size lo3 dd4 σ8 h10) k_X13_thrown tw_6_160 tw_6_161 tw_6_159 (by decide) (ge_13 rfl) rfl rfl rfl rfl rfl (gRm_mk rfl rfl (by omega) (by omega)) dL_law_1043) rfl rfl rfl (fun H locs M => ?_)
  refine lv_iload hx hb dL_law_1046 (lv_at hl 1 rfl) ?_
  refine lv_icmp_eq (tgt := 1053) hx hb dL_law_1048 (by decide) (fun c11 => ?_) (fun c11 => ?_)
  · have hf := it_p c11 hf
    refine lv_iload hx hb dL_law_1053 (lv_at hl 1 rfl) ?_
    refine lv_if_ne (tgt := 1070) hx hb dL_law_1055 (by decide) (fun c12 => ?_) (fun c12 => ?_)
    · have hf := it_n c12 hf
      refine lv_goto (tgt := 2764) hx hb dL_law_1070 (by decide) ?_
      cases hf
      refine W.widen (k := cells + 3) (n := slots + 18) (by omega) (by omega) ?_
      exact kk _ _ _ M (lv_sub hl [2, 3, 4, 5, 6, 7] rfl)
    · have hf := it_p c12 hf
      refine lv_aload_n hx hb dL_law_1058 rfl (lv_at hl 5 rfl) ?_
      refine lv_iconst (v := 0) hx hb dL_law_1059 (by decide) ?_
      refine g_lald S M dL_law_1060 ?_
      refine lv_iload hx hb dL_law_1061 (lv_at hl 0 rfl) ?_
      refine lv_i2l hx hb dL_law_1063 rfl ?_
      refine W.lcmp hx hb dL_law_1064 ?_
      refine lv_if_eq (tgt := 1070) hx hb dL_law_1065 (by decide) (fun c13 => ?_) (fun c13 => ?_)
      · have hf := it_p c13 hf
        refine lv_goto (tgt := 2764) hx hb dL_law_1070 (by decide) ?_
        cases hf
        refine W.widen (k := cells + 3) (n := slots + 18) (by omega) (by omega) ?_
        exact kk _ _ _ M (lv_sub hl [2, 3, 4, 5, 6, 7] rfl)
      · have hf := it_n c13 hf
        cases hf
  · have hf := it_n c11 hf
    cases hf
set_option maxHeartbeats 400000 in
set_option maxRecDepth 100000 in
theorem t_13 {p : Program} {l : Launch} {e : Env} {s : State} {m : MethodId} {args : Array Value} {below : List Frame} {meth : Method} {c : Code} {Q : State → Prop} {G : gT} {lo : Int64} {dd : UInt64} {σ : gM} {b L : Nat} {xs : Nat → Int32} (hfl : l.stackTraces = false) (S : CallFix p m c cL_law 9 s args gTs "ParcelDepotLaw") (C0 : gCST G (gAA G s.heap.size) s) (hX : va_X b L xs s s.heap) (hbl : b < s.heap.size) (hbA : ¬ gAA G s.heap.size b) {i : Int32} (h1 : vp_in (i + 1) L) (h2 : vp_in (i + 2) L) (h3 : vp_in (i + 3) L) {cells slots : Nat} (hc : cells + 3 ≤ room_1.cells) (hs : slots + 18 ≤ room_1.slots) {o : gM × Int64 × UInt64} (hf : f_T_13 σ lo dd (xs (i + 1).toNatClampNeg) (xs (i + 2).toNatClampNeg) (xs (i + 3).toNatClampNeg) = some o) (H : Heap) (locs : List Loc) (ls : Array Slot) (M : gMS G (gAA G s.heap.size) lo dd σ s H locs) (hl : lv_has ls 9 [(0, .ref b), (1, .ref (G.1 0)), (2, .ref (G.1 219)), (3, .ref (G.1 228)), (4, .ref (G.1 229)), (5, .int i)]) (kk : ∀ (H : Heap) (locs : List Loc) (ls : Array Slot), gMS G (gAA G s.heap.size) o.2.1 o.2.2 o.1 s H locs → lv_has ls 9 [(0, .ref b), (1, .ref (G.1 0)), (2, .ref (G.1 219)), (3, .ref (G.1 228)), (4, .ref (G.1 229)), (5, .int i)] → W p l e room_1 s m args below meth c H locs (cells + 3) (slots + 18) Q (F0 m 2764 ls [])) : W p l e room_1 s m args below meth c H locs cells slots Q (F0 m 1073 ls []) := by
  have hx := S.1
  have hb := S.2.1
  unfold f_T_13 at hf
  refine lv_aload_n hx hb dL_law_1073 rfl (lv_at hl 1 rfl) ?_
  obtain ⟨r1, h2, hf⟩ := bd_x hf
  refine g_callR (st1 := [.int r1]) (cells' := cells + 0) (slots' := slots + 0) M (g_invV (R := room_1) (index := 202) (cells := cells + 0) (slots := slots + 0) S M C0 hl (c_X12_parcelCount l G H.size lo dd σ h2) k_X12_parcelCount tw_2_39 tw_2_40 tw_2_38 (by decide) (ge_0 rfl) rfl rfl rfl rfl rfl (gRm_mk rfl rfl (by omega) (by omega)) dL_law_1074) rfl rfl rfl (fun H locs M => ?_)
  refine lv_aload_n hx hb dL_law_1077 rfl (lv_at hl 2 rfl) ?_
  obtain ⟨r3, σ5, h4, hf⟩ := bd2_x hf
  refine g_callR (st1 := [.int r3, .int r1]) (cells' := cells + 0) (slots' := slots + 0) M (g_invV (R := room_1) (index := 205) (cells := cells + 0) (slots := slots + 0) S M C0 hl (c_X13_parcelCount l G H.size lo dd σ h4) k_X13_parcelCount tw_7_77 tw_7_78 tw_7_76 (by decide) (ge_13 rfl) rfl rfl rfl rfl rfl (gRm_mk rfl rfl (by omega) (by omega)) dL_law_1078) rfl rfl rfl (fun H locs M => ?_)
  refine lv_icmp_eq (tgt := 2764) hx hb dL_law_1081 (by decide) (fun c6 => ?_) (fun c6 => ?_)
  · have hf := it_p c6 hf
    cases hf
    refine W.widen (k := cells + 3) (n := slots + 18) (by omega) (by omega) ?_
    exact kk _ _ _ M (lv_sub hl [0, 1, 2, 3, 4, 5] rfl)
  · have hf := it_n c6 hf
    cases hf
set_option maxHeartbeats 400000 in
set_option maxRecDepth 100000 in
theorem t_14 {p : Program} {l : Launch} {e : Env} {s : State} {m : MethodId} {args : Array Value} {below : List Frame} {meth : Method} {c : Code} {Q : State → Prop} {G : gT} {lo : Int64} {dd : UInt64} {σ : gM} {b L : Nat} {xs : Nat → Int32} (hfl : l.stackTraces = false) (S : CallFix p m c cL_law 9 s args gTs "ParcelDepotLaw") (C0 : gCST G (gAA G s.heap.size) s) (hX : va_X b L xs s s.heap) (hbl : b < s.heap.size) (hbA : ¬ gAA G s.heap.size b) {i : Int32} (h1 : vp_in (i + 1) L) (h2 : vp_in (i + 2) L) (h3 : vp_in (i + 3) L) {cells slots : Nat} (hc : cells + 3 ≤ room_1.cells) (hs : slots + 18 ≤ room_1.slots) {o : gM × Int64 × UInt64} (hf : f_T_14 σ lo dd (xs (i + 1).toNatClampNeg) (xs (i + 2).toNatClampNeg) (xs (i + 3).toNatClampNeg) = some o) (H : Heap) (locs : List Loc) (ls : Array Slot) (M : gMS G (gAA G s.heap.size) lo dd σ s H locs) (hl : lv_has ls 9 [(0, .ref b), (1, .ref (G.1 0)), (2, .ref (G.1 219)), (3, .ref (G.1 228)), (4, .ref (G.1 229)), (5, .int i)]) (kk : ∀ (H : Heap) (locs : List Loc) (ls : Array Slot), gMS G (gAA G s.heap.size) o.2.1 o.2.2 o.1 s H locs → lv_has ls 9 [(0, .ref b), (1, .ref (G.1 0)), (2, .ref (G.1 219)), (3, .ref (G.1 228)), (4, .ref (G.1 229)), (5, .int i)] → W p l e room_1 s m args below meth c H locs (cells + 3) (slots + 18) Q (F0 m 2764 ls [])) : W p l e room_1 s m args below meth c H locs cells slots Q (F0 m 1086 ls []) := by
  have hx := S.1
  have hb := S.2.1
  unfold f_T_14 at hf
  refine lv_aload_n hx hb dL_law_1086 rfl (lv_at hl 1 rfl) ?_
  refine lv_aload_n hx hb dL_law_1087 rfl (lv_at hl 0 rfl) ?_
  refine lv_iload hx hb dL_law_1088 (lv_at hl 5 rfl) ?_
  refine lv_iconst (v := 1) hx hb dL_law_1090 (by decide) ?_
  refine lv_iadd hx hb dL_law_1091 ?_
  refine va_sld hx hb hX hbl hbA M.2.2.2 h1 dL_law_1092 ?_
  refine lv_aload_n hx hb dL_law_1093 rfl (lv_at hl 3 rfl) ?_
  obtain ⟨r1, σ2, lo3, dd4, h5, hf⟩ := bd4_x hf
  refine g_callR (st1 := [.int r1]) (cells' := cells + 1) (slots' := slots + 6) M (g_invW (R := room_1) (index := 206) (cells := cells) (slots := slots) S M C0 hl (c_L_weight l hfl G H.size lo dd σ (xs (i + 1).toNatClampNeg) h5) kw_L_weight tw_4_159 tw_4_158 rfl rfl rfl (gRm_mk rfl rfl (by omega) (by omega)) dL_law_1094) rfl rfl rfl (fun H locs M => ?_)
  refine lv_istore (lv' := [(6, .int r1), (0, .ref b), (1, .ref (G.1 0)), (2, .ref (G.1 219)), (3, .ref (G.1 228)), (4, .ref (G.1 229)), (5, .int i)]) hx hb dL_law_1097 hl (by decide) rfl (fun ls hl => ?_)
  refine lv_aload_n hx hb dL_law_1099 rfl (lv_at hl 3 rfl) ?_
  refine lv_aload_n hx hb dL_law_1100 rfl (lv_at hl 1 rfl) ?_
  refine lv_iload hx hb dL_law_1101 (lv_at hl 6 rfl) ?_
  refine lv_iconst (v := 1) hx hb dL_law_1103 (by decide) ?_
  refine lv_iadd hx hb dL_law_1104 ?_
  refine va_sld hx hb hX hbl hbA M.2.2.2 h1 dL_law_1105 ?_
  obtain ⟨r6, σ8, h7, hf⟩ := bd2_x hf
  refine g_callR (st1 := [.int r6]) (cells' := cells + 1) (slots' := slots + 6) M (g_invV (R := room_1) (index := 208) (cells := cells + 1) (slots := slots + 6) S M C0 hl (c_X13_weight l G H.size lo3 dd4 σ2 (xs (i + 1).toNatClampNeg) h7) k_X13_weight tw_7_81 tw_7_82 tw_7_80 (by decide) (ge_13 rfl) rfl rfl rfl rfl rfl (gRm_mk rfl rfl (by omega) (by omega)) dL_law_1106) rfl rfl rfl (fun H locs M => ?_)
  refine lv_istore (lv' := [(7, .int r6), (6, .int r1), (0, .ref b), (1, .ref (G.1 0)), (2, .ref (G.1 219)), (3, .ref (G.1 228)), (4, .ref (G.1 229)), (5, .int i)]) hx hb dL_law_1109 hl (by decide) rfl (fun ls hl => ?_)
  refine lv_aload_n hx hb dL_law_1111 rfl (lv_at hl 4 rfl) ?_
  obtain ⟨r9, h10, hf⟩ := bd_x hf
  refine g_callR (st1 := [.int r9]) (cells' := cells + 1) (slots' := slots + 6) M (g_invV (R := room_1) (index := 160) (cells := cells + 1) (slots := slots + 6) S M C0 hl (c_X13_thrown l G H.size lo3 dd4 σ8 h10) k_X13_thrown tw_6_160 tw_6_161 tw_6_159 (by decide) (ge_13 rfl) rfl rfl rfl rfl rfl (gRm_mk rfl rfl (by omega) (by omega)) dL_law_1112) rfl rfl rfl (fun H locs M => ?_)
  refine lv_iload hx hb dL_law_1115 (lv_at hl 1 rfl) ?_
  refine lv_icmp_eq (tgt := 1122) hx hb dL_law_1117 (by decide) (fun c11 => ?_) (fun c11 => ?_)
  · have hf := it_p c11 hf
    refine lv_iload hx hb dL_law_1122 (lv_at hl 1 rfl) ?_
    refine lv_if_ne (tgt := 1139) hx hb dL_law_1124 (by decide) (fun c12 => ?_) (fun c12 => ?_)
    · have hf := it_n c12 hf
      refine lv_goto (tgt := 2764) hx hb dL_law_1139 (by decide) ?_
      cases hf
      refine W.widen (k := cells + 3) (n := slots + 18) (by omega) (by omega) ?_
      exact kk _ _ _ M (lv_sub hl [2, 3, 4, 5, 6, 7] rfl)
    · have hf := it_p c12 hf
      refine lv_aload_n hx hb dL_law_1127 rfl (lv_at hl 5 rfl) ?_
      refine lv_iconst (v := 0) hx hb dL_law_1128 (by decide) ?_
      refine g_lald S M dL_law_1129 ?_
      refine lv_iload hx hb dL_law_1130 (lv_at hl 0 rfl) ?_
      refine lv_i2l hx hb dL_law_1132 rfl ?_
      refine W.lcmp hx hb dL_law_1133 ?_
      refine lv_if_eq (tgt := 1139) hx hb dL_law_1134 (by decide) (fun c13 => ?_) (fun c13 => ?_)
      · have hf := it_p c13 hf
        refine lv_goto (tgt := 2764) hx hb dL_law_1139 (by decide) ?_
        cases hf
        refine W.widen (k := cells + 3) (n := slots + 18) (by omega) (by omega) ?_
        exact kk _ _ _ M (lv_sub hl [2, 3, 4, 5, 6, 7] rfl)
      · have hf := it_n c13 hf
        cases hf
  · have hf := it_n c11 hf
    cases hf
set_option maxHeartbeats 400000 in
set_option maxRecDepth 100000 in
theorem t_15 {p : Program} {l : Launch} {e : Env} {s : State} {m : MethodId} {args : Array Value} {below : List Frame} {meth : Method} {c : Code} {Q : State → Prop} {G : gT} {lo : Int64} {dd : UInt64} {σ : gM} {b L : Nat} {xs : Nat → Int32} (hfl : l.stackTraces = false) (S : CallFix p m c cL_law 9 s args gTs "ParcelDepotLaw") (C0 : gCST G (gAA G s.heap.size) s) (hX : va_X b L xs s s.heap) (hbl : b < s.heap.size) (hbA : ¬ gAA G s.heap.size b) {i : Int32} (h1 : vp_in (i + 1) L) (h2 : vp_in (i + 2) L) (h3 : vp_in (i + 3) L) {cells slots : Nat} (hc : cells + 3 ≤ room_1.cells) (hs : slots + 18 ≤ room_1.slots) {o : gM × Int64 × UInt64} (hf : f_T_15 σ lo dd (xs (i + 1).toNatClampNeg) (xs (i + 2).toNatClampNeg) (xs (i + 3).toNatClampNeg) = some o) (H : Heap) (locs : List Loc) (ls : Array Slot) (M : gMS G (gAA G s.heap.size) lo dd σ s H locs) (hl : lv_has ls 9 [(0, .ref b), (1, .ref (G.1 0)), (2, .ref (G.1 219)), (3, .ref (G.1 228)), (4, .ref (G.1 229)), (5, .int i)]) (kk : ∀ (H : Heap) (locs : List Loc) (ls : Array Slot), gMS G (gAA G s.heap.size) o.2.1 o.2.2 o.1 s H locs → lv_has ls 9 [(0, .ref b), (1, .ref (G.1 0)), (2, .ref (G.1 219)), (3, .ref (G.1 228)), (4, .ref (G.1 229)), (5, .int i)] → W p l e room_1 s m args below meth c H locs (cells + 3) (slots + 18) Q (F0 m 2764 ls [])) : W p l e room_1 s m args below meth c H locs cells slots Q (F0 m 1142 ls []) := by
  have hx := S.1
  have hb := S.2.1
  unfold f_T_15 at hf
  refine lv_aload_n hx hb dL_law_1142 rfl (lv_at hl 1 rfl) ?_
  refine lv_aload_n hx hb dL_law_1143 rfl (lv_at hl 0 rfl) ?_
  refine lv_iload hx hb dL_law_1144 (lv_at hl 5 rfl) ?_
  refine lv_iconst (v := 1) hx hb dL_law_1146 (by decide) ?_
  refine lv_iadd hx hb dL_law_1147 ?_
  refine va_sld hx hb hX hbl hbA M.2.2.2 h1 dL_law_1148 ?_
  refine lv_aload_n hx hb dL_law_1149 rfl (lv_at hl 3 rfl) ?_
  obtain ⟨r1, σ2, lo3, dd4, h5, hf⟩ := bd4_x hf
  refine g_callR (st1 := [.int r1]) (cells' := cells + 1) (slots' := slots + 6) M (g_invW (R := room_1) (index := 209) (cells := cells) (slots := slots) S M C0 hl (c_L_hazard l hfl G H.size lo dd σ (xs (i + 1).toNatClampNeg) h5) kw_L_hazard tw_4_171 tw_4_170 rfl rfl rfl (gRm_mk rfl rfl (by omega) (by omega)) dL_law_1150) rfl rfl rfl (fun H locs M => ?_)
  refine lv_istore (lv' := [(6, .int r1), (0, .ref b), (1, .ref (G.1 0)), (2, .ref (G.1 219)), (3, .ref (G.1 228)), (4, .ref (G.1 229)), (5, .int i)]) hx hb dL_law_1153 hl (by decide) rfl (fun ls hl => ?_)
  refine lv_aload_n hx hb dL_law_1155 rfl (lv_at hl 3 rfl) ?_
  refine lv_aload_n hx hb dL_law_1156 rfl (lv_at hl 1 rfl) ?_
  refine lv_iload hx hb dL_law_1157 (lv_at hl 6 rfl) ?_
  refine lv_iconst (v := 1) hx hb dL_law_1159 (by decide) ?_
  refine lv_iadd hx hb dL_law_1160 ?_
  refine va_sld hx hb hX hbl hbA M.2.2.2 h1 dL_law_1161 ?_
  obtain ⟨r6, σ8, h7, hf⟩ := bd2_x hf
  refine g_callR (st1 := [.int r6]) (cells' := cells + 1) (slots' := slots + 6) M (g_invV (R := room_1) (index := 211) (cells := cells + 1) (slots := slots + 6) S M C0 hl (c_X13_hazard l G H.size lo3 dd4 σ2 (xs (i + 1).toNatClampNeg) h7) k_X13_hazard tw_7_89 tw_7_90 tw_7_88 (by decide) (ge_13 rfl) rfl rfl rfl rfl rfl (gRm_mk rfl rfl (by omega) (by omega)) dL_law_1162) rfl rfl rfl (fun H locs M => ?_)
  refine lv_istore (lv' := [(7, .int r6), (6, .int r1), (0, .ref b), (1, .ref (G.1 0)), (2, .ref (G.1 219)), (3, .ref (G.1 228)), (4, .ref (G.1 229)), (5, .int i)]) hx hb dL_law_1165 hl (by decide) rfl (fun ls hl => ?_)
  refine lv_aload_n hx hb dL_law_1167 rfl (lv_at hl 4 rfl) ?_
  obtain ⟨r9, h10, hf⟩ := bd_x hf
  refine g_callR (st1 := [.int r9]) (cells' := cells + 1) (slots' := slots + 6) M (g_invV (R := room_1) (index := 160) (cells := cells + 1) (slots := slots + 6) S M C0 hl (c_X13_thrown l G H.size lo3 dd4 σ8 h10) k_X13_thrown tw_6_160 tw_6_161 tw_6_159 (by decide) (ge_13 rfl) rfl rfl rfl rfl rfl (gRm_mk rfl rfl (by omega) (by omega)) dL_law_1168) rfl rfl rfl (fun H locs M => ?_)
  refine lv_iload hx hb dL_law_1171 (lv_at hl 1 rfl) ?_
  refine lv_icmp_eq (tgt := 1178) hx hb dL_law_1173 (by decide) (fun c11 => ?_) (fun c11 => ?_)
  · have hf := it_p c11 hf
    refine lv_iload hx hb dL_law_1178 (lv_at hl 1 rfl) ?_
    refine lv_if_ne (tgt := 1195) hx hb dL_law_1180 (by decide) (fun c12 => ?_) (fun c12 => ?_)
    · have hf := it_n c12 hf
      refine lv_goto (tgt := 2764) hx hb dL_law_1195 (by decide) ?_
      cases hf
      refine W.widen (k := cells + 3) (n := slots + 18) (by omega) (by omega) ?_
      exact kk _ _ _ M (lv_sub hl [2, 3, 4, 5, 6, 7] rfl)
    · have hf := it_p c12 hf
      refine lv_aload_n hx hb dL_law_1183 rfl (lv_at hl 5 rfl) ?_
      refine lv_iconst (v := 0) hx hb dL_law_1184 (by decide) ?_
      refine g_lald S M dL_law_1185 ?_
      refine lv_iload hx hb dL_law_1186 (lv_at hl 0 rfl) ?_
      refine lv_i2l hx hb dL_law_1188 rfl ?_
      refine W.lcmp hx hb dL_law_1189 ?_
      refine lv_if_eq (tgt := 1195) hx hb dL_law_1190 (by decide) (fun c13 => ?_) (fun c13 => ?_)
      · have hf := it_p c13 hf
        refine lv_goto (tgt := 2764) hx hb dL_law_1195 (by decide) ?_
        cases hf
        refine W.widen (k := cells + 3) (n := slots + 18) (by omega) (by omega) ?_
        exact kk _ _ _ M (lv_sub hl [2, 3, 4, 5, 6, 7] rfl)
      · have hf := it_n c13 hf
        cases hf
  · have hf := it_n c11 hf
    cases hf
set_option maxHeartbeats 400000 in
set_option maxRecDepth 100000 in
theorem t_16 {p : Program} {l : Launch} {e : Env} {s : State} {m : MethodId} {args : Array Value} {below : List Frame} {meth : Method} {c : Code} {Q : State → Prop} {G : gT} {lo : Int64} {dd : UInt64} {σ : gM} {b L : Nat} {xs : Nat → Int32} (hfl : l.stackTraces = false) (S : CallFix p m c cL_law 9 s args gTs "ParcelDepotLaw") (C0 : gCST G (gAA G s.heap.size) s) (hX : va_X b L xs s s.heap) (hbl : b < s.heap.size) (hbA : ¬ gAA G s.heap.size b) {i : Int32} (h1 : vp_in (i + 1) L) (h2 : vp_in (i + 2) L) (h3 : vp_in (i + 3) L) {cells slots : Nat} (hc : cells + 3 ≤ room_1.cells) (hs : slots + 18 ≤ room_1.slots) {o : gM × Int64 × UInt64} (hf : f_T_16 σ lo dd (xs (i + 1).toNatClampNeg) (xs (i + 2).toNatClampNeg) (xs (i + 3).toNatClampNeg) = some o) (H : Heap) (locs : List Loc) (ls : Array Slot) (M : gMS G (gAA G s.heap.size) lo dd σ s H locs) (hl : lv_has ls 9 [(0, .ref b), (1, .ref (G.1 0)), (2, .ref (G.1 219)), (3, .ref (G.1 228)), (4, .ref (G.1 229)), (5, .int i)]) (kk : ∀ (H : Heap) (locs : List Loc) (ls : Array Slot), gMS G (gAA G s.heap.size) o.2.1 o.2.2 o.1 s H locs → lv_has ls 9 [(0, .ref b), (1, .ref (G.1 0)), (2, .ref (G.1 219)), (3, .ref (G.1 228)), (4, .ref (G.1 229)), (5, .int i)] → W p l e room_1 s m args below meth c H locs (cells + 3) (slots + 18) Q (F0 m 2764 ls [])) : W p l e room_1 s m args below meth c H locs cells slots Q (F0 m 1198 ls []) := by
  have hx := S.1
  have hb := S.2.1
  unfold f_T_16 at hf
  refine lv_aload_n hx hb dL_law_1198 rfl (lv_at hl 1 rfl) ?_
  refine lv_aload_n hx hb dL_law_1199 rfl (lv_at hl 0 rfl) ?_
  refine lv_iload hx hb dL_law_1200 (lv_at hl 5 rfl) ?_
  refine lv_iconst (v := 1) hx hb dL_law_1202 (by decide) ?_
  refine lv_iadd hx hb dL_law_1203 ?_
  refine va_sld hx hb hX hbl hbA M.2.2.2 h1 dL_law_1204 ?_
  refine lv_aload_n hx hb dL_law_1205 rfl (lv_at hl 3 rfl) ?_
  obtain ⟨r1, σ2, lo3, dd4, h5, hf⟩ := bd4_x hf
  refine g_callR (st1 := [.int r1]) (cells' := cells + 1) (slots' := slots + 6) M (g_invW (R := room_1) (index := 212) (cells := cells) (slots := slots) S M C0 hl (c_L_destination l hfl G H.size lo dd σ (xs (i + 1).toNatClampNeg) h5) kw_L_destination tw_4_179 tw_4_178 rfl rfl rfl (gRm_mk rfl rfl (by omega) (by omega)) dL_law_1206) rfl rfl rfl (fun H locs M => ?_)
  refine lv_istore (lv' := [(6, .int r1), (0, .ref b), (1, .ref (G.1 0)), (2, .ref (G.1 219)), (3, .ref (G.1 228)), (4, .ref (G.1 229)), (5, .int i)]) hx hb dL_law_1209 hl (by decide) rfl (fun ls hl => ?_)
  refine lv_aload_n hx hb dL_law_1211 rfl (lv_at hl 3 rfl) ?_
  refine lv_aload_n hx hb dL_law_1212 rfl (lv_at hl 1 rfl) ?_
  refine lv_iload hx hb dL_law_1213 (lv_at hl 6 rfl) ?_
  refine lv_iconst (v := 1) hx hb dL_law_1215 (by decide) ?_
  refine lv_iadd hx hb dL_law_1216 ?_
  refine va_sld hx hb hX hbl hbA M.2.2.2 h1 dL_law_1217 ?_
  obtain ⟨r6, σ8, h7, hf⟩ := bd2_x hf
  refine g_callR (st1 := [.int r6]) (cells' := cells + 1) (slots' := slots + 6) M (g_invV (R := room_1) (index := 214) (cells := cells + 1) (slots := slots + 6) S M C0 hl (c_X13_destination l G H.size lo3 dd4 σ2 (xs (i + 1).toNatClampNeg) h7) k_X13_destination tw_7_93 tw_7_94 tw_7_92 (by decide) (ge_13 rfl) rfl rfl rfl rfl rfl (gRm_mk rfl rfl (by omega) (by omega)) dL_law_1218) rfl rfl rfl (fun H locs M => ?_)
  refine lv_istore (lv' := [(7, .int r6), (6, .int r1), (0, .ref b), (1, .ref (G.1 0)), (2, .ref (G.1 219)), (3, .ref (G.1 228)), (4, .ref (G.1 229)), (5, .int i)]) hx hb dL_law_1221 hl (by decide) rfl (fun ls hl => ?_)
  refine lv_aload_n hx hb dL_law_1223 rfl (lv_at hl 4 rfl) ?_
  obtain ⟨r9, h10, hf⟩ := bd_x hf
  refine g_callR (st1 := [.int r9]) (cells' := cells + 1) (slots' := slots + 6) M (g_invV (R := room_1) (index := 160) (cells := cells + 1) (slots := slots + 6) S M C0 hl (c_X13_thrown l G H.size lo3 dd4 σ8 h10) k_X13_thrown tw_6_160 tw_6_161 tw_6_159 (by decide) (ge_13 rfl) rfl rfl rfl rfl rfl (gRm_mk rfl rfl (by omega) (by omega)) dL_law_1224) rfl rfl rfl (fun H locs M => ?_)
  refine lv_iload hx hb dL_law_1227 (lv_at hl 1 rfl) ?_
  refine lv_icmp_eq (tgt := 1234) hx hb dL_law_1229 (by decide) (fun c11 => ?_) (fun c11 => ?_)
  · have hf := it_p c11 hf
    refine lv_iload hx hb dL_law_1234 (lv_at hl 1 rfl) ?_
    refine lv_if_ne (tgt := 1251) hx hb dL_law_1236 (by decide) (fun c12 => ?_) (fun c12 => ?_)
    · have hf := it_n c12 hf
      refine lv_goto (tgt := 2764) hx hb dL_law_1251 (by decide) ?_
      cases hf
      refine W.widen (k := cells + 3) (n := slots + 18) (by omega) (by omega) ?_
      exact kk _ _ _ M (lv_sub hl [2, 3, 4, 5, 6, 7] rfl)
    · have hf := it_p c12 hf
      refine lv_aload_n hx hb dL_law_1239 rfl (lv_at hl 5 rfl) ?_
      refine lv_iconst (v := 0) hx hb dL_law_1240 (by decide) ?_
      refine g_lald S M dL_law_1241 ?_
      refine lv_iload hx hb dL_law_1242 (lv_at hl 0 rfl) ?_
      refine lv_i2l hx hb dL_law_1244 rfl ?_
      refine W.lcmp hx hb dL_law_1245 ?_
      refine lv_if_eq (tgt := 1251) hx hb dL_law_1246 (by decide) (fun c13 => ?_) (fun c13 => ?_)
      · have hf := it_p c13 hf
        refine lv_goto (tgt := 2764) hx hb dL_law_1251 (by decide) ?_
        cases hf
        refine W.widen (k := cells + 3) (n := slots + 18) (by omega) (by omega) ?_
        exact kk _ _ _ M (lv_sub hl [2, 3, 4, 5, 6, 7] rfl)
      · have hf := it_n c13 hf
        cases hf
  · have hf := it_n c11 hf
    cases hf
set_option maxHeartbeats 400000 in
set_option maxRecDepth 100000 in
theorem t_17 {p : Program} {l : Launch} {e : Env} {s : State} {m : MethodId} {args : Array Value} {below : List Frame} {meth : Method} {c : Code} {Q : State → Prop} {G : gT} {lo : Int64} {dd : UInt64} {σ : gM} {b L : Nat} {xs : Nat → Int32} (hfl : l.stackTraces = false) (S : CallFix p m c cL_law 9 s args gTs "ParcelDepotLaw") (C0 : gCST G (gAA G s.heap.size) s) (hX : va_X b L xs s s.heap) (hbl : b < s.heap.size) (hbA : ¬ gAA G s.heap.size b) {i : Int32} (h1 : vp_in (i + 1) L) (h2 : vp_in (i + 2) L) (h3 : vp_in (i + 3) L) {cells slots : Nat} (hc : cells + 3 ≤ room_1.cells) (hs : slots + 18 ≤ room_1.slots) {o : gM × Int64 × UInt64} (hf : f_T_17 σ lo dd (xs (i + 1).toNatClampNeg) (xs (i + 2).toNatClampNeg) (xs (i + 3).toNatClampNeg) = some o) (H : Heap) (locs : List Loc) (ls : Array Slot) (M : gMS G (gAA G s.heap.size) lo dd σ s H locs) (hl : lv_has ls 9 [(0, .ref b), (1, .ref (G.1 0)), (2, .ref (G.1 219)), (3, .ref (G.1 228)), (4, .ref (G.1 229)), (5, .int i)]) (kk : ∀ (H : Heap) (locs : List Loc) (ls : Array Slot), gMS G (gAA G s.heap.size) o.2.1 o.2.2 o.1 s H locs → lv_has ls 9 [(0, .ref b), (1, .ref (G.1 0)), (2, .ref (G.1 219)), (3, .ref (G.1 228)), (4, .ref (G.1 229)), (5, .int i)] → W p l e room_1 s m args below meth c H locs (cells + 3) (slots + 18) Q (F0 m 2764 ls [])) : W p l e room_1 s m args below meth c H locs cells slots Q (F0 m 1254 ls []) := by
  have hx := S.1
  have hb := S.2.1
  unfold f_T_17 at hf
  refine lv_aload_n hx hb dL_law_1254 rfl (lv_at hl 1 rfl) ?_
  refine lv_aload_n hx hb dL_law_1255 rfl (lv_at hl 0 rfl) ?_
  refine lv_iload hx hb dL_law_1256 (lv_at hl 5 rfl) ?_
  refine lv_iconst (v := 1) hx hb dL_law_1258 (by decide) ?_
  refine lv_iadd hx hb dL_law_1259 ?_
  refine va_sld hx hb hX hbl hbA M.2.2.2 h1 dL_law_1260 ?_
  refine lv_aload_n hx hb dL_law_1261 rfl (lv_at hl 3 rfl) ?_
  obtain ⟨r1, σ2, lo3, dd4, h5, hf⟩ := bd4_x hf
  refine g_callR (st1 := [.int r1]) (cells' := cells + 1) (slots' := slots + 6) M (g_invW (R := room_1) (index := 215) (cells := cells) (slots := slots) S M C0 hl (c_L_state l hfl G H.size lo dd σ (xs (i + 1).toNatClampNeg) h5) kw_L_state tw_4_190 tw_4_189 rfl rfl rfl (gRm_mk rfl rfl (by omega) (by omega)) dL_law_1262) rfl rfl rfl (fun H locs M => ?_)
  refine lv_istore (lv' := [(6, .int r1), (0, .ref b), (1, .ref (G.1 0)), (2, .ref (G.1 219)), (3, .ref (G.1 228)), (4, .ref (G.1 229)), (5, .int i)]) hx hb dL_law_1265 hl (by decide) rfl (fun ls hl => ?_)
  refine lv_aload_n hx hb dL_law_1267 rfl (lv_at hl 3 rfl) ?_
  refine lv_aload_n hx hb dL_law_1268 rfl (lv_at hl 1 rfl) ?_
  refine lv_iload hx hb dL_law_1269 (lv_at hl 6 rfl) ?_
  refine lv_iconst (v := 1) hx hb dL_law_1271 (by decide) ?_
  refine lv_iadd hx hb dL_law_1272 ?_
  refine va_sld hx hb hX hbl hbA M.2.2.2 h1 dL_law_1273 ?_
  obtain ⟨r6, σ8, h7, hf⟩ := bd2_x hf
  refine g_callR (st1 := [.int r6]) (cells' := cells + 1) (slots' := slots + 6) M (g_invV (R := room_1) (index := 217) (cells := cells + 1) (slots := slots + 6) S M C0 hl (c_X13_state l G H.size lo3 dd4 σ2 (xs (i + 1).toNatClampNeg) h7) k_X13_state tw_7_97 tw_7_98 tw_7_96 (by decide) (ge_13 rfl) rfl rfl rfl rfl rfl (gRm_mk rfl rfl (by omega) (by omega)) dL_law_1274) rfl rfl rfl (fun H locs M => ?_)
  refine lv_istore (lv' := [(7, .int r6), (6, .int r1), (0, .ref b), (1, .ref (G.1 0)), (2, .ref (G.1 219)), (3, .ref (G.1 228)), (4, .ref (G.1 229)), (5, .int i)]) hx hb dL_law_1277 hl (by decide) rfl (fun ls hl => ?_)
  refine lv_aload_n hx hb dL_law_1279 rfl (lv_at hl 4 rfl) ?_
  obtain ⟨r9, h10, hf⟩ := bd_x hf
  refine g_callR (st1 := [.int r9]) (cells' := cells + 1) (slots' := slots + 6) M (g_invV (R := room_1) (index := 160) (cells := cells + 1) (slots := slots + 6) S M C0 hl (c_X13_thrown l G H.size lo3 dd4 σ8 h10) k_X13_thrown tw_6_160 tw_6_161 tw_6_159 (by decide) (ge_13 rfl) rfl rfl rfl rfl rfl (gRm_mk rfl rfl (by omega) (by omega)) dL_law_1280) rfl rfl rfl (fun H locs M => ?_)
  refine lv_iload hx hb dL_law_1283 (lv_at hl 1 rfl) ?_
  refine lv_icmp_eq (tgt := 1290) hx hb dL_law_1285 (by decide) (fun c11 => ?_) (fun c11 => ?_)
  · have hf := it_p c11 hf
    refine lv_iload hx hb dL_law_1290 (lv_at hl 1 rfl) ?_
    refine lv_if_ne (tgt := 1307) hx hb dL_law_1292 (by decide) (fun c12 => ?_) (fun c12 => ?_)
    · have hf := it_n c12 hf
      refine lv_goto (tgt := 2764) hx hb dL_law_1307 (by decide) ?_
      cases hf
      refine W.widen (k := cells + 3) (n := slots + 18) (by omega) (by omega) ?_
      exact kk _ _ _ M (lv_sub hl [2, 3, 4, 5, 6, 7] rfl)
    · have hf := it_p c12 hf
      refine lv_aload_n hx hb dL_law_1295 rfl (lv_at hl 5 rfl) ?_
      refine lv_iconst (v := 0) hx hb dL_law_1296 (by decide) ?_
      refine g_lald S M dL_law_1297 ?_
      refine lv_iload hx hb dL_law_1298 (lv_at hl 0 rfl) ?_
      refine lv_i2l hx hb dL_law_1300 rfl ?_
      refine W.lcmp hx hb dL_law_1301 ?_
      refine lv_if_eq (tgt := 1307) hx hb dL_law_1302 (by decide) (fun c13 => ?_) (fun c13 => ?_)
      · have hf := it_p c13 hf
        refine lv_goto (tgt := 2764) hx hb dL_law_1307 (by decide) ?_
        cases hf
        refine W.widen (k := cells + 3) (n := slots + 18) (by omega) (by omega) ?_
        exact kk _ _ _ M (lv_sub hl [2, 3, 4, 5, 6, 7] rfl)
      · have hf := it_n c13 hf
        cases hf
  · have hf := it_n c11 hf
    cases hf
set_option maxHeartbeats 400000 in
set_option maxRecDepth 100000 in
theorem t_18 {p : Program} {l : Launch} {e : Env} {s : State} {m : MethodId} {args : Array Value} {below : List Frame} {meth : Method} {c : Code} {Q : State → Prop} {G : gT} {lo : Int64} {dd : UInt64} {σ : gM} {b L : Nat} {xs : Nat → Int32} (hfl : l.stackTraces = false) (S : CallFix p m c cL_law 9 s args gTs "ParcelDepotLaw") (C0 : gCST G (gAA G s.heap.size) s) (hX : va_X b L xs s s.heap) (hbl : b < s.heap.size) (hbA : ¬ gAA G s.heap.size b) {i : Int32} (h1 : vp_in (i + 1) L) (h2 : vp_in (i + 2) L) (h3 : vp_in (i + 3) L) {cells slots : Nat} (hc : cells + 3 ≤ room_1.cells) (hs : slots + 18 ≤ room_1.slots) {o : gM × Int64 × UInt64} (hf : f_T_18 σ lo dd (xs (i + 1).toNatClampNeg) (xs (i + 2).toNatClampNeg) (xs (i + 3).toNatClampNeg) = some o) (H : Heap) (locs : List Loc) (ls : Array Slot) (M : gMS G (gAA G s.heap.size) lo dd σ s H locs) (hl : lv_has ls 9 [(0, .ref b), (1, .ref (G.1 0)), (2, .ref (G.1 219)), (3, .ref (G.1 228)), (4, .ref (G.1 229)), (5, .int i)]) (kk : ∀ (H : Heap) (locs : List Loc) (ls : Array Slot), gMS G (gAA G s.heap.size) o.2.1 o.2.2 o.1 s H locs → lv_has ls 9 [(0, .ref b), (1, .ref (G.1 0)), (2, .ref (G.1 219)), (3, .ref (G.1 228)), (4, .ref (G.1 229)), (5, .int i)] → W p l e room_1 s m args below meth c H locs (cells + 3) (slots + 18) Q (F0 m 2764 ls [])) : W p l e room_1 s m args below meth c H locs cells slots Q (F0 m 1310 ls []) := by
  have hx := S.1
  have hb := S.2.1
  unfold f_T_18 at hf
  refine lv_aload_n hx hb dL_law_1310 rfl (lv_at hl 1 rfl) ?_
  refine lv_aload_n hx hb dL_law_1311 rfl (lv_at hl 0 rfl) ?_
  refine lv_iload hx hb dL_law_1312 (lv_at hl 5 rfl) ?_
  refine lv_iconst (v := 1) hx hb dL_law_1314 (by decide) ?_
  refine lv_iadd hx hb dL_law_1315 ?_
  refine va_sld hx hb hX hbl hbA M.2.2.2 h1 dL_law_1316 ?_
  refine lv_aload_n hx hb dL_law_1317 rfl (lv_at hl 3 rfl) ?_
  obtain ⟨r1, σ2, lo3, dd4, h5, hf⟩ := bd4_x hf
  refine g_callR (st1 := [.int r1]) (cells' := cells + 2) (slots' := slots + 12) M (g_invW (R := room_1) (index := 218) (cells := cells) (slots := slots) S M C0 hl (c_L_sackOf l hfl G H.size lo dd σ (xs (i + 1).toNatClampNeg) h5) kw_L_sackOf tw_4_201 tw_4_200 rfl rfl rfl (gRm_mk rfl rfl (by omega) (by omega)) dL_law_1318) rfl rfl rfl (fun H locs M => ?_)
  refine lv_istore (lv' := [(6, .int r1), (0, .ref b), (1, .ref (G.1 0)), (2, .ref (G.1 219)), (3, .ref (G.1 228)), (4, .ref (G.1 229)), (5, .int i)]) hx hb dL_law_1321 hl (by decide) rfl (fun ls hl => ?_)
  refine lv_aload_n hx hb dL_law_1323 rfl (lv_at hl 3 rfl) ?_
  refine lv_aload_n hx hb dL_law_1324 rfl (lv_at hl 1 rfl) ?_
  refine lv_iload hx hb dL_law_1325 (lv_at hl 6 rfl) ?_
  refine lv_iconst (v := 1) hx hb dL_law_1327 (by decide) ?_
  refine lv_iadd hx hb dL_law_1328 ?_
  refine va_sld hx hb hX hbl hbA M.2.2.2 h1 dL_law_1329 ?_
  obtain ⟨r6, σ8, h7, hf⟩ := bd2_x hf
  refine g_callR (st1 := [.int r6]) (cells' := cells + 2) (slots' := slots + 12) M (g_invV (R := room_1) (index := 220) (cells := cells + 2) (slots := slots + 12) S M C0 hl (c_X13_sackOf l G H.size lo3 dd4 σ2 (xs (i + 1).toNatClampNeg) h7) k_X13_sackOf tw_7_101 tw_7_102 tw_7_100 (by decide) (ge_13 rfl) rfl rfl rfl rfl rfl (gRm_mk rfl rfl (by omega) (by omega)) dL_law_1330) rfl rfl rfl (fun H locs M => ?_)
  refine lv_istore (lv' := [(7, .int r6), (6, .int r1), (0, .ref b), (1, .ref (G.1 0)), (2, .ref (G.1 219)), (3, .ref (G.1 228)), (4, .ref (G.1 229)), (5, .int i)]) hx hb dL_law_1333 hl (by decide) rfl (fun ls hl => ?_)
  refine lv_aload_n hx hb dL_law_1335 rfl (lv_at hl 4 rfl) ?_
  obtain ⟨r9, h10, hf⟩ := bd_x hf
  refine g_callR (st1 := [.int r9]) (cells' := cells + 2) (slots' := slots + 12) M (g_invV (R := room_1) (index := 160) (cells := cells + 2) (slots := slots + 12) S M C0 hl (c_X13_thrown l G H.size lo3 dd4 σ8 h10) k_X13_thrown tw_6_160 tw_6_161 tw_6_159 (by decide) (ge_13 rfl) rfl rfl rfl rfl rfl (gRm_mk rfl rfl (by omega) (by omega)) dL_law_1336) rfl rfl rfl (fun H locs M => ?_)
  refine lv_iload hx hb dL_law_1339 (lv_at hl 1 rfl) ?_
  refine lv_icmp_eq (tgt := 1346) hx hb dL_law_1341 (by decide) (fun c11 => ?_) (fun c11 => ?_)
  · have hf := it_p c11 hf
    refine lv_iload hx hb dL_law_1346 (lv_at hl 1 rfl) ?_
    refine lv_if_ne (tgt := 1363) hx hb dL_law_1348 (by decide) (fun c12 => ?_) (fun c12 => ?_)
    · have hf := it_n c12 hf
      refine lv_goto (tgt := 2764) hx hb dL_law_1363 (by decide) ?_
      cases hf
      refine W.widen (k := cells + 3) (n := slots + 18) (by omega) (by omega) ?_
      exact kk _ _ _ M (lv_sub hl [2, 3, 4, 5, 6, 7] rfl)
    · have hf := it_p c12 hf
      refine lv_aload_n hx hb dL_law_1351 rfl (lv_at hl 5 rfl) ?_
      refine lv_iconst (v := 0) hx hb dL_law_1352 (by decide) ?_
      refine g_lald S M dL_law_1353 ?_
      refine lv_iload hx hb dL_law_1354 (lv_at hl 0 rfl) ?_
      refine lv_i2l hx hb dL_law_1356 rfl ?_
      refine W.lcmp hx hb dL_law_1357 ?_
      refine lv_if_eq (tgt := 1363) hx hb dL_law_1358 (by decide) (fun c13 => ?_) (fun c13 => ?_)
      · have hf := it_p c13 hf
        refine lv_goto (tgt := 2764) hx hb dL_law_1363 (by decide) ?_
        cases hf
        refine W.widen (k := cells + 3) (n := slots + 18) (by omega) (by omega) ?_
        exact kk _ _ _ M (lv_sub hl [2, 3, 4, 5, 6, 7] rfl)
      · have hf := it_n c13 hf
        cases hf
  · have hf := it_n c11 hf
    cases hf
set_option maxHeartbeats 400000 in
set_option maxRecDepth 100000 in
theorem t_19 {p : Program} {l : Launch} {e : Env} {s : State} {m : MethodId} {args : Array Value} {below : List Frame} {meth : Method} {c : Code} {Q : State → Prop} {G : gT} {lo : Int64} {dd : UInt64} {σ : gM} {b L : Nat} {xs : Nat → Int32} (hfl : l.stackTraces = false) (S : CallFix p m c cL_law 9 s args gTs "ParcelDepotLaw") (C0 : gCST G (gAA G s.heap.size) s) (hX : va_X b L xs s s.heap) (hbl : b < s.heap.size) (hbA : ¬ gAA G s.heap.size b) {i : Int32} (h1 : vp_in (i + 1) L) (h2 : vp_in (i + 2) L) (h3 : vp_in (i + 3) L) {cells slots : Nat} (hc : cells + 3 ≤ room_1.cells) (hs : slots + 18 ≤ room_1.slots) {o : gM × Int64 × UInt64} (hf : f_T_19 σ lo dd (xs (i + 1).toNatClampNeg) (xs (i + 2).toNatClampNeg) (xs (i + 3).toNatClampNeg) = some o) (H : Heap) (locs : List Loc) (ls : Array Slot) (M : gMS G (gAA G s.heap.size) lo dd σ s H locs) (hl : lv_has ls 9 [(0, .ref b), (1, .ref (G.1 0)), (2, .ref (G.1 219)), (3, .ref (G.1 228)), (4, .ref (G.1 229)), (5, .int i)]) (kk : ∀ (H : Heap) (locs : List Loc) (ls : Array Slot), gMS G (gAA G s.heap.size) o.2.1 o.2.2 o.1 s H locs → lv_has ls 9 [(0, .ref b), (1, .ref (G.1 0)), (2, .ref (G.1 219)), (3, .ref (G.1 228)), (4, .ref (G.1 229)), (5, .int i)] → W p l e room_1 s m args below meth c H locs (cells + 3) (slots + 18) Q (F0 m 2764 ls [])) : W p l e room_1 s m args below meth c H locs cells slots Q (F0 m 1366 ls []) := by
  have hx := S.1
  have hb := S.2.1
  unfold f_T_19 at hf
  refine lv_aload_n hx hb dL_law_1366 rfl (lv_at hl 1 rfl) ?_
  refine lv_aload_n hx hb dL_law_1367 rfl (lv_at hl 0 rfl) ?_
  refine lv_iload hx hb dL_law_1368 (lv_at hl 5 rfl) ?_
  refine lv_iconst (v := 1) hx hb dL_law_1370 (by decide) ?_
  refine lv_iadd hx hb dL_law_1371 ?_
  refine va_sld hx hb hX hbl hbA M.2.2.2 h1 dL_law_1372 ?_
  refine lv_aload_n hx hb dL_law_1373 rfl (lv_at hl 3 rfl) ?_
  obtain ⟨r1, σ2, lo3, dd4, h5, hf⟩ := bd4_x hf
  refine g_callR (st1 := [.int r1]) (cells' := cells + 1) (slots' := slots + 6) M (g_invW (R := room_1) (index := 221) (cells := cells) (slots := slots) S M C0 hl (c_L_returns l hfl G H.size lo dd σ (xs (i + 1).toNatClampNeg) h5) kw_L_returns tw_4_209 tw_4_208 rfl rfl rfl (gRm_mk rfl rfl (by omega) (by omega)) dL_law_1374) rfl rfl rfl (fun H locs M => ?_)
  refine lv_istore (lv' := [(6, .int r1), (0, .ref b), (1, .ref (G.1 0)), (2, .ref (G.1 219)), (3, .ref (G.1 228)), (4, .ref (G.1 229)), (5, .int i)]) hx hb dL_law_1377 hl (by decide) rfl (fun ls hl => ?_)
  refine lv_aload_n hx hb dL_law_1379 rfl (lv_at hl 3 rfl) ?_
  refine lv_aload_n hx hb dL_law_1380 rfl (lv_at hl 1 rfl) ?_
  refine lv_iload hx hb dL_law_1381 (lv_at hl 6 rfl) ?_
  refine lv_iconst (v := 1) hx hb dL_law_1383 (by decide) ?_
  refine lv_iadd hx hb dL_law_1384 ?_
  refine va_sld hx hb hX hbl hbA M.2.2.2 h1 dL_law_1385 ?_
  obtain ⟨r6, σ8, h7, hf⟩ := bd2_x hf
  refine g_callR (st1 := [.int r6]) (cells' := cells + 1) (slots' := slots + 6) M (g_invV (R := room_1) (index := 223) (cells := cells + 1) (slots := slots + 6) S M C0 hl (c_X13_returns l G H.size lo3 dd4 σ2 (xs (i + 1).toNatClampNeg) h7) k_X13_returns tw_7_105 tw_7_106 tw_7_104 (by decide) (ge_13 rfl) rfl rfl rfl rfl rfl (gRm_mk rfl rfl (by omega) (by omega)) dL_law_1386) rfl rfl rfl (fun H locs M => ?_)
  refine lv_istore (lv' := [(7, .int r6), (6, .int r1), (0, .ref b), (1, .ref (G.1 0)), (2, .ref (G.1 219)), (3, .ref (G.1 228)), (4, .ref (G.1 229)), (5, .int i)]) hx hb dL_law_1389 hl (by decide) rfl (fun ls hl => ?_)
  refine lv_aload_n hx hb dL_law_1391 rfl (lv_at hl 4 rfl) ?_
  obtain ⟨r9, h10, hf⟩ := bd_x hf
  refine g_callR (st1 := [.int r9]) (cells' := cells + 1) (slots' := slots + 6) M (g_invV (R := room_1) (index := 160) (cells := cells + 1) (slots := slots + 6) S M C0 hl (c_X13_thrown l G H.size lo3 dd4 σ8 h10) k_X13_thrown tw_6_160 tw_6_161 tw_6_159 (by decide) (ge_13 rfl) rfl rfl rfl rfl rfl (gRm_mk rfl rfl (by omega) (by omega)) dL_law_1392) rfl rfl rfl (fun H locs M => ?_)
  refine lv_iload hx hb dL_law_1395 (lv_at hl 1 rfl) ?_
  refine lv_icmp_eq (tgt := 1402) hx hb dL_law_1397 (by decide) (fun c11 => ?_) (fun c11 => ?_)
  · have hf := it_p c11 hf
    refine lv_iload hx hb dL_law_1402 (lv_at hl 1 rfl) ?_
    refine lv_if_ne (tgt := 1419) hx hb dL_law_1404 (by decide) (fun c12 => ?_) (fun c12 => ?_)
    · have hf := it_n c12 hf
      refine lv_goto (tgt := 2764) hx hb dL_law_1419 (by decide) ?_
      cases hf
      refine W.widen (k := cells + 3) (n := slots + 18) (by omega) (by omega) ?_
      exact kk _ _ _ M (lv_sub hl [2, 3, 4, 5, 6, 7] rfl)
    · have hf := it_p c12 hf
      refine lv_aload_n hx hb dL_law_1407 rfl (lv_at hl 5 rfl) ?_
      refine lv_iconst (v := 0) hx hb dL_law_1408 (by decide) ?_
      refine g_lald S M dL_law_1409 ?_
      refine lv_iload hx hb dL_law_1410 (lv_at hl 0 rfl) ?_
      refine lv_i2l hx hb dL_law_1412 rfl ?_
      refine W.lcmp hx hb dL_law_1413 ?_
      refine lv_if_eq (tgt := 1419) hx hb dL_law_1414 (by decide) (fun c13 => ?_) (fun c13 => ?_)
      · have hf := it_p c13 hf
        refine lv_goto (tgt := 2764) hx hb dL_law_1419 (by decide) ?_
        cases hf
        refine W.widen (k := cells + 3) (n := slots + 18) (by omega) (by omega) ?_
        exact kk _ _ _ M (lv_sub hl [2, 3, 4, 5, 6, 7] rfl)
      · have hf := it_n c13 hf
        cases hf
  · have hf := it_n c11 hf
    cases hf
set_option maxHeartbeats 400000 in
set_option maxRecDepth 100000 in
theorem t_20 {p : Program} {l : Launch} {e : Env} {s : State} {m : MethodId} {args : Array Value} {below : List Frame} {meth : Method} {c : Code} {Q : State → Prop} {G : gT} {lo : Int64} {dd : UInt64} {σ : gM} {b L : Nat} {xs : Nat → Int32} (hfl : l.stackTraces = false) (S : CallFix p m c cL_law 9 s args gTs "ParcelDepotLaw") (C0 : gCST G (gAA G s.heap.size) s) (hX : va_X b L xs s s.heap) (hbl : b < s.heap.size) (hbA : ¬ gAA G s.heap.size b) {i : Int32} (h1 : vp_in (i + 1) L) (h2 : vp_in (i + 2) L) (h3 : vp_in (i + 3) L) {cells slots : Nat} (hc : cells + 3 ≤ room_1.cells) (hs : slots + 18 ≤ room_1.slots) {o : gM × Int64 × UInt64} (hf : f_T_20 σ lo dd (xs (i + 1).toNatClampNeg) (xs (i + 2).toNatClampNeg) (xs (i + 3).toNatClampNeg) = some o) (H : Heap) (locs : List Loc) (ls : Array Slot) (M : gMS G (gAA G s.heap.size) lo dd σ s H locs) (hl : lv_has ls 9 [(0, .ref b), (1, .ref (G.1 0)), (2, .ref (G.1 219)), (3, .ref (G.1 228)), (4, .ref (G.1 229)), (5, .int i)]) (kk : ∀ (H : Heap) (locs : List Loc) (ls : Array Slot), gMS G (gAA G s.heap.size) o.2.1 o.2.2 o.1 s H locs → lv_has ls 9 [(0, .ref b), (1, .ref (G.1 0)), (2, .ref (G.1 219)), (3, .ref (G.1 228)), (4, .ref (G.1 229)), (5, .int i)] → W p l e room_1 s m args below meth c H locs (cells + 3) (slots + 18) Q (F0 m 2764 ls [])) : W p l e room_1 s m args below meth c H locs cells slots Q (F0 m 1422 ls []) := by
  have hx := S.1
  have hb := S.2.1
  unfold f_T_20 at hf
  refine lv_aload_n hx hb dL_law_1422 rfl (lv_at hl 1 rfl) ?_
  obtain ⟨r1, h2, hf⟩ := bd_x hf
  refine g_callR (st1 := [.int r1]) (cells' := cells + 0) (slots' := slots + 0) M (g_invV (R := room_1) (index := 224) (cells := cells + 0) (slots := slots + 0) S M C0 hl (c_X12_waitingCount l G H.size lo dd σ h2) k_X12_waitingCount tw_2_47 tw_2_48 tw_2_46 (by decide) (ge_0 rfl) rfl rfl rfl rfl rfl (gRm_mk rfl rfl (by omega) (by omega)) dL_law_1423) rfl rfl rfl (fun H locs M => ?_)
  refine lv_aload_n hx hb dL_law_1426 rfl (lv_at hl 2 rfl) ?_
  obtain ⟨r3, σ5, h4, hf⟩ := bd2_x hf
  refine g_callR (st1 := [.int r3, .int r1]) (cells' := cells + 0) (slots' := slots + 0) M (g_invV (R := room_1) (index := 227) (cells := cells + 0) (slots := slots + 0) S M C0 hl (c_X13_waitingCount l G H.size lo dd σ h4) k_X13_waitingCount tw_7_109 tw_7_110 tw_7_108 (by decide) (ge_13 rfl) rfl rfl rfl rfl rfl (gRm_mk rfl rfl (by omega) (by omega)) dL_law_1427) rfl rfl rfl (fun H locs M => ?_)
  refine lv_icmp_eq (tgt := 2764) hx hb dL_law_1430 (by decide) (fun c6 => ?_) (fun c6 => ?_)
  · have hf := it_p c6 hf
    cases hf
    refine W.widen (k := cells + 3) (n := slots + 18) (by omega) (by omega) ?_
    exact kk _ _ _ M (lv_sub hl [0, 1, 2, 3, 4, 5] rfl)
  · have hf := it_n c6 hf
    cases hf
set_option maxHeartbeats 400000 in
set_option maxRecDepth 100000 in
theorem t_21 {p : Program} {l : Launch} {e : Env} {s : State} {m : MethodId} {args : Array Value} {below : List Frame} {meth : Method} {c : Code} {Q : State → Prop} {G : gT} {lo : Int64} {dd : UInt64} {σ : gM} {b L : Nat} {xs : Nat → Int32} (hfl : l.stackTraces = false) (S : CallFix p m c cL_law 9 s args gTs "ParcelDepotLaw") (C0 : gCST G (gAA G s.heap.size) s) (hX : va_X b L xs s s.heap) (hbl : b < s.heap.size) (hbA : ¬ gAA G s.heap.size b) {i : Int32} (h1 : vp_in (i + 1) L) (h2 : vp_in (i + 2) L) (h3 : vp_in (i + 3) L) {cells slots : Nat} (hc : cells + 3 ≤ room_1.cells) (hs : slots + 18 ≤ room_1.slots) {o : gM × Int64 × UInt64} (hf : f_T_21 σ lo dd (xs (i + 1).toNatClampNeg) (xs (i + 2).toNatClampNeg) (xs (i + 3).toNatClampNeg) = some o) (H : Heap) (locs : List Loc) (ls : Array Slot) (M : gMS G (gAA G s.heap.size) lo dd σ s H locs) (hl : lv_has ls 9 [(0, .ref b), (1, .ref (G.1 0)), (2, .ref (G.1 219)), (3, .ref (G.1 228)), (4, .ref (G.1 229)), (5, .int i)]) (kk : ∀ (H : Heap) (locs : List Loc) (ls : Array Slot), gMS G (gAA G s.heap.size) o.2.1 o.2.2 o.1 s H locs → lv_has ls 9 [(0, .ref b), (1, .ref (G.1 0)), (2, .ref (G.1 219)), (3, .ref (G.1 228)), (4, .ref (G.1 229)), (5, .int i)] → W p l e room_1 s m args below meth c H locs (cells + 3) (slots + 18) Q (F0 m 2764 ls [])) : W p l e room_1 s m args below meth c H locs cells slots Q (F0 m 1435 ls []) := by
  have hx := S.1
  have hb := S.2.1
  unfold f_T_21 at hf
  refine lv_aload_n hx hb dL_law_1435 rfl (lv_at hl 1 rfl) ?_
  obtain ⟨r1, h2, hf⟩ := bd_x hf
  refine g_callR (st1 := [.int r1]) (cells' := cells + 0) (slots' := slots + 0) M (g_invV (R := room_1) (index := 228) (cells := cells + 0) (slots := slots + 0) S M C0 hl (c_X12_deliveredCount l G H.size lo dd σ h2) k_X12_deliveredCount tw_2_55 tw_2_56 tw_2_54 (by decide) (ge_0 rfl) rfl rfl rfl rfl rfl (gRm_mk rfl rfl (by omega) (by omega)) dL_law_1436) rfl rfl rfl (fun H locs M => ?_)
  refine lv_aload_n hx hb dL_law_1439 rfl (lv_at hl 2 rfl) ?_
  obtain ⟨r3, σ5, h4, hf⟩ := bd2_x hf
  refine g_callR (st1 := [.int r3, .int r1]) (cells' := cells + 0) (slots' := slots + 0) M (g_invV (R := room_1) (index := 231) (cells := cells + 0) (slots := slots + 0) S M C0 hl (c_X13_deliveredCount l G H.size lo dd σ h4) k_X13_deliveredCount tw_7_117 tw_7_118 tw_7_116 (by decide) (ge_13 rfl) rfl rfl rfl rfl rfl (gRm_mk rfl rfl (by omega) (by omega)) dL_law_1440) rfl rfl rfl (fun H locs M => ?_)
  refine lv_icmp_eq (tgt := 2764) hx hb dL_law_1443 (by decide) (fun c6 => ?_) (fun c6 => ?_)
  · have hf := it_p c6 hf
    cases hf
    refine W.widen (k := cells + 3) (n := slots + 18) (by omega) (by omega) ?_
    exact kk _ _ _ M (lv_sub hl [0, 1, 2, 3, 4, 5] rfl)
  · have hf := it_n c6 hf
    cases hf
set_option maxHeartbeats 400000 in
set_option maxRecDepth 100000 in
theorem t_22 {p : Program} {l : Launch} {e : Env} {s : State} {m : MethodId} {args : Array Value} {below : List Frame} {meth : Method} {c : Code} {Q : State → Prop} {G : gT} {lo : Int64} {dd : UInt64} {σ : gM} {b L : Nat} {xs : Nat → Int32} (hfl : l.stackTraces = false) (S : CallFix p m c cL_law 9 s args gTs "ParcelDepotLaw") (C0 : gCST G (gAA G s.heap.size) s) (hX : va_X b L xs s s.heap) (hbl : b < s.heap.size) (hbA : ¬ gAA G s.heap.size b) {i : Int32} (h1 : vp_in (i + 1) L) (h2 : vp_in (i + 2) L) (h3 : vp_in (i + 3) L) {cells slots : Nat} (hc : cells + 3 ≤ room_1.cells) (hs : slots + 18 ≤ room_1.slots) {o : gM × Int64 × UInt64} (hf : f_T_22 σ lo dd (xs (i + 1).toNatClampNeg) (xs (i + 2).toNatClampNeg) (xs (i + 3).toNatClampNeg) = some o) (H : Heap) (locs : List Loc) (ls : Array Slot) (M : gMS G (gAA G s.heap.size) lo dd σ s H locs) (hl : lv_has ls 9 [(0, .ref b), (1, .ref (G.1 0)), (2, .ref (G.1 219)), (3, .ref (G.1 228)), (4, .ref (G.1 229)), (5, .int i)]) (kk : ∀ (H : Heap) (locs : List Loc) (ls : Array Slot), gMS G (gAA G s.heap.size) o.2.1 o.2.2 o.1 s H locs → lv_has ls 9 [(0, .ref b), (1, .ref (G.1 0)), (2, .ref (G.1 219)), (3, .ref (G.1 228)), (4, .ref (G.1 229)), (5, .int i)] → W p l e room_1 s m args below meth c H locs (cells + 3) (slots + 18) Q (F0 m 2764 ls [])) : W p l e room_1 s m args below meth c H locs cells slots Q (F0 m 1448 ls []) := by
  have hx := S.1
  have hb := S.2.1
  unfold f_T_22 at hf
  refine lv_aload_n hx hb dL_law_1448 rfl (lv_at hl 1 rfl) ?_
  obtain ⟨r1, h2, hf⟩ := bd_x hf
  refine g_callR (st1 := [.int r1]) (cells' := cells + 0) (slots' := slots + 0) M (g_invV (R := room_1) (index := 232) (cells := cells + 0) (slots := slots + 0) S M C0 hl (c_X12_gloveCount l G H.size lo dd σ h2) k_X12_gloveCount tw_2_59 tw_2_60 tw_2_58 (by decide) (ge_0 rfl) rfl rfl rfl rfl rfl (gRm_mk rfl rfl (by omega) (by omega)) dL_law_1449) rfl rfl rfl (fun H locs M => ?_)
  refine lv_aload_n hx hb dL_law_1452 rfl (lv_at hl 2 rfl) ?_
  obtain ⟨r3, σ5, h4, hf⟩ := bd2_x hf
  refine g_callR (st1 := [.int r3, .int r1]) (cells' := cells + 0) (slots' := slots + 0) M (g_invV (R := room_1) (index := 235) (cells := cells + 0) (slots := slots + 0) S M C0 hl (c_X13_gloveCount l G H.size lo dd σ h4) k_X13_gloveCount tw_7_121 tw_7_122 tw_7_120 (by decide) (ge_13 rfl) rfl rfl rfl rfl rfl (gRm_mk rfl rfl (by omega) (by omega)) dL_law_1453) rfl rfl rfl (fun H locs M => ?_)
  refine lv_icmp_eq (tgt := 2764) hx hb dL_law_1456 (by decide) (fun c6 => ?_) (fun c6 => ?_)
  · have hf := it_p c6 hf
    cases hf
    refine W.widen (k := cells + 3) (n := slots + 18) (by omega) (by omega) ?_
    exact kk _ _ _ M (lv_sub hl [0, 1, 2, 3, 4, 5] rfl)
  · have hf := it_n c6 hf
    cases hf
set_option maxHeartbeats 400000 in
set_option maxRecDepth 100000 in
theorem t_23 {p : Program} {l : Launch} {e : Env} {s : State} {m : MethodId} {args : Array Value} {below : List Frame} {meth : Method} {c : Code} {Q : State → Prop} {G : gT} {lo : Int64} {dd : UInt64} {σ : gM} {b L : Nat} {xs : Nat → Int32} (hfl : l.stackTraces = false) (S : CallFix p m c cL_law 9 s args gTs "ParcelDepotLaw") (C0 : gCST G (gAA G s.heap.size) s) (hX : va_X b L xs s s.heap) (hbl : b < s.heap.size) (hbA : ¬ gAA G s.heap.size b) {i : Int32} (h1 : vp_in (i + 1) L) (h2 : vp_in (i + 2) L) (h3 : vp_in (i + 3) L) {cells slots : Nat} (hc : cells + 3 ≤ room_1.cells) (hs : slots + 18 ≤ room_1.slots) {o : gM × Int64 × UInt64} (hf : f_T_23 σ lo dd (xs (i + 1).toNatClampNeg) (xs (i + 2).toNatClampNeg) (xs (i + 3).toNatClampNeg) = some o) (H : Heap) (locs : List Loc) (ls : Array Slot) (M : gMS G (gAA G s.heap.size) lo dd σ s H locs) (hl : lv_has ls 9 [(0, .ref b), (1, .ref (G.1 0)), (2, .ref (G.1 219)), (3, .ref (G.1 228)), (4, .ref (G.1 229)), (5, .int i)]) (kk : ∀ (H : Heap) (locs : List Loc) (ls : Array Slot), gMS G (gAA G s.heap.size) o.2.1 o.2.2 o.1 s H locs → lv_has ls 9 [(0, .ref b), (1, .ref (G.1 0)), (2, .ref (G.1 219)), (3, .ref (G.1 228)), (4, .ref (G.1 229)), (5, .int i)] → W p l e room_1 s m args below meth c H locs (cells + 3) (slots + 18) Q (F0 m 2764 ls [])) : W p l e room_1 s m args below meth c H locs cells slots Q (F0 m 1461 ls []) := by
  have hx := S.1
  have hb := S.2.1
  unfold f_T_23 at hf
  refine lv_aload_n hx hb dL_law_1461 rfl (lv_at hl 1 rfl) ?_
  refine lv_aload_n hx hb dL_law_1462 rfl (lv_at hl 0 rfl) ?_
  refine lv_iload hx hb dL_law_1463 (lv_at hl 5 rfl) ?_
  refine lv_iconst (v := 1) hx hb dL_law_1465 (by decide) ?_
  refine lv_iadd hx hb dL_law_1466 ?_
  refine va_sld hx hb hX hbl hbA M.2.2.2 h1 dL_law_1467 ?_
  refine lv_aload_n hx hb dL_law_1468 rfl (lv_at hl 3 rfl) ?_
  obtain ⟨r1, σ2, lo3, dd4, h5, hf⟩ := bd4_x hf
  refine g_callR (st1 := [.int r1]) (cells' := cells + 1) (slots' := slots + 6) M (g_invW (R := room_1) (index := 236) (cells := cells) (slots := slots) S M C0 hl (c_L_grade l hfl G H.size lo dd σ (xs (i + 1).toNatClampNeg) h5) kw_L_grade tw_4_220 tw_4_219 rfl rfl rfl (gRm_mk rfl rfl (by omega) (by omega)) dL_law_1469) rfl rfl rfl (fun H locs M => ?_)
  refine lv_istore (lv' := [(6, .int r1), (0, .ref b), (1, .ref (G.1 0)), (2, .ref (G.1 219)), (3, .ref (G.1 228)), (4, .ref (G.1 229)), (5, .int i)]) hx hb dL_law_1472 hl (by decide) rfl (fun ls hl => ?_)
  refine lv_aload_n hx hb dL_law_1474 rfl (lv_at hl 3 rfl) ?_
  refine lv_aload_n hx hb dL_law_1475 rfl (lv_at hl 1 rfl) ?_
  refine lv_iload hx hb dL_law_1476 (lv_at hl 6 rfl) ?_
  refine lv_iconst (v := 1) hx hb dL_law_1478 (by decide) ?_
  refine lv_iadd hx hb dL_law_1479 ?_
  refine va_sld hx hb hX hbl hbA M.2.2.2 h1 dL_law_1480 ?_
  obtain ⟨r6, σ8, h7, hf⟩ := bd2_x hf
  refine g_callR (st1 := [.int r6]) (cells' := cells + 1) (slots' := slots + 6) M (g_invV (R := room_1) (index := 238) (cells := cells + 1) (slots := slots + 6) S M C0 hl (c_X13_grade l G H.size lo3 dd4 σ2 (xs (i + 1).toNatClampNeg) h7) k_X13_grade tw_7_125 tw_7_126 tw_7_124 (by decide) (ge_13 rfl) rfl rfl rfl rfl rfl (gRm_mk rfl rfl (by omega) (by omega)) dL_law_1481) rfl rfl rfl (fun H locs M => ?_)
  refine lv_istore (lv' := [(7, .int r6), (6, .int r1), (0, .ref b), (1, .ref (G.1 0)), (2, .ref (G.1 219)), (3, .ref (G.1 228)), (4, .ref (G.1 229)), (5, .int i)]) hx hb dL_law_1484 hl (by decide) rfl (fun ls hl => ?_)
  refine lv_aload_n hx hb dL_law_1486 rfl (lv_at hl 4 rfl) ?_
  obtain ⟨r9, h10, hf⟩ := bd_x hf
  refine g_callR (st1 := [.int r9]) (cells' := cells + 1) (slots' := slots + 6) M (g_invV (R := room_1) (index := 160) (cells := cells + 1) (slots := slots + 6) S M C0 hl (c_X13_thrown l G H.size lo3 dd4 σ8 h10) k_X13_thrown tw_6_160 tw_6_161 tw_6_159 (by decide) (ge_13 rfl) rfl rfl rfl rfl rfl (gRm_mk rfl rfl (by omega) (by omega)) dL_law_1487) rfl rfl rfl (fun H locs M => ?_)
  refine lv_iload hx hb dL_law_1490 (lv_at hl 1 rfl) ?_
  refine lv_icmp_eq (tgt := 1497) hx hb dL_law_1492 (by decide) (fun c11 => ?_) (fun c11 => ?_)
  · have hf := it_p c11 hf
    refine lv_iload hx hb dL_law_1497 (lv_at hl 1 rfl) ?_
    refine lv_if_ne (tgt := 1514) hx hb dL_law_1499 (by decide) (fun c12 => ?_) (fun c12 => ?_)
    · have hf := it_n c12 hf
      refine lv_goto (tgt := 2764) hx hb dL_law_1514 (by decide) ?_
      cases hf
      refine W.widen (k := cells + 3) (n := slots + 18) (by omega) (by omega) ?_
      exact kk _ _ _ M (lv_sub hl [2, 3, 4, 5, 6, 7] rfl)
    · have hf := it_p c12 hf
      refine lv_aload_n hx hb dL_law_1502 rfl (lv_at hl 5 rfl) ?_
      refine lv_iconst (v := 0) hx hb dL_law_1503 (by decide) ?_
      refine g_lald S M dL_law_1504 ?_
      refine lv_iload hx hb dL_law_1505 (lv_at hl 0 rfl) ?_
      refine lv_i2l hx hb dL_law_1507 rfl ?_
      refine W.lcmp hx hb dL_law_1508 ?_
      refine lv_if_eq (tgt := 1514) hx hb dL_law_1509 (by decide) (fun c13 => ?_) (fun c13 => ?_)
      · have hf := it_p c13 hf
        refine lv_goto (tgt := 2764) hx hb dL_law_1514 (by decide) ?_
        cases hf
        refine W.widen (k := cells + 3) (n := slots + 18) (by omega) (by omega) ?_
        exact kk _ _ _ M (lv_sub hl [2, 3, 4, 5, 6, 7] rfl)
      · have hf := it_n c13 hf
        cases hf
  · have hf := it_n c11 hf
    cases hf
set_option maxHeartbeats 400000 in
set_option maxRecDepth 100000 in
theorem t_24 {p : Program} {l : Launch} {e : Env} {s : State} {m : MethodId} {args : Array Value} {below : List Frame} {meth : Method} {c : Code} {Q : State → Prop} {G : gT} {lo : Int64} {dd : UInt64} {σ : gM} {b L : Nat} {xs : Nat → Int32} (hfl : l.stackTraces = false) (S : CallFix p m c cL_law 9 s args gTs "ParcelDepotLaw") (C0 : gCST G (gAA G s.heap.size) s) (hX : va_X b L xs s s.heap) (hbl : b < s.heap.size) (hbA : ¬ gAA G s.heap.size b) {i : Int32} (h1 : vp_in (i + 1) L) (h2 : vp_in (i + 2) L) (h3 : vp_in (i + 3) L) {cells slots : Nat} (hc : cells + 3 ≤ room_1.cells) (hs : slots + 18 ≤ room_1.slots) {o : gM × Int64 × UInt64} (hf : f_T_24 σ lo dd (xs (i + 1).toNatClampNeg) (xs (i + 2).toNatClampNeg) (xs (i + 3).toNatClampNeg) = some o) (H : Heap) (locs : List Loc) (ls : Array Slot) (M : gMS G (gAA G s.heap.size) lo dd σ s H locs) (hl : lv_has ls 9 [(0, .ref b), (1, .ref (G.1 0)), (2, .ref (G.1 219)), (3, .ref (G.1 228)), (4, .ref (G.1 229)), (5, .int i)]) (kk : ∀ (H : Heap) (locs : List Loc) (ls : Array Slot), gMS G (gAA G s.heap.size) o.2.1 o.2.2 o.1 s H locs → lv_has ls 9 [(0, .ref b), (1, .ref (G.1 0)), (2, .ref (G.1 219)), (3, .ref (G.1 228)), (4, .ref (G.1 229)), (5, .int i)] → W p l e room_1 s m args below meth c H locs (cells + 3) (slots + 18) Q (F0 m 2764 ls [])) : W p l e room_1 s m args below meth c H locs cells slots Q (F0 m 1517 ls []) := by
  have hx := S.1
  have hb := S.2.1
  unfold f_T_24 at hf
  refine lv_aload_n hx hb dL_law_1517 rfl (lv_at hl 1 rfl) ?_
  refine lv_aload_n hx hb dL_law_1518 rfl (lv_at hl 0 rfl) ?_
  refine lv_iload hx hb dL_law_1519 (lv_at hl 5 rfl) ?_
  refine lv_iconst (v := 1) hx hb dL_law_1521 (by decide) ?_
  refine lv_iadd hx hb dL_law_1522 ?_
  refine va_sld hx hb hX hbl hbA M.2.2.2 h1 dL_law_1523 ?_
  refine lv_aload_n hx hb dL_law_1524 rfl (lv_at hl 3 rfl) ?_
  obtain ⟨r1, σ2, lo3, dd4, h5, hf⟩ := bd4_x hf
  refine g_callR (st1 := [.int r1]) (cells' := cells + 1) (slots' := slots + 6) M (g_invW (R := room_1) (index := 239) (cells := cells) (slots := slots) S M C0 hl (c_L_usesLeft l hfl G H.size lo dd σ (xs (i + 1).toNatClampNeg) h5) kw_L_usesLeft tw_4_231 tw_4_230 rfl rfl rfl (gRm_mk rfl rfl (by omega) (by omega)) dL_law_1525) rfl rfl rfl (fun H locs M => ?_)
  refine lv_istore (lv' := [(6, .int r1), (0, .ref b), (1, .ref (G.1 0)), (2, .ref (G.1 219)), (3, .ref (G.1 228)), (4, .ref (G.1 229)), (5, .int i)]) hx hb dL_law_1528 hl (by decide) rfl (fun ls hl => ?_)
  refine lv_aload_n hx hb dL_law_1530 rfl (lv_at hl 3 rfl) ?_
  refine lv_aload_n hx hb dL_law_1531 rfl (lv_at hl 1 rfl) ?_
  refine lv_iload hx hb dL_law_1532 (lv_at hl 6 rfl) ?_
  refine lv_iconst (v := 1) hx hb dL_law_1534 (by decide) ?_
  refine lv_iadd hx hb dL_law_1535 ?_
  refine va_sld hx hb hX hbl hbA M.2.2.2 h1 dL_law_1536 ?_
  obtain ⟨r6, σ8, h7, hf⟩ := bd2_x hf
  refine g_callR (st1 := [.int r6]) (cells' := cells + 1) (slots' := slots + 6) M (g_invV (R := room_1) (index := 241) (cells := cells + 1) (slots := slots + 6) S M C0 hl (c_X13_usesLeft l G H.size lo3 dd4 σ2 (xs (i + 1).toNatClampNeg) h7) k_X13_usesLeft tw_7_133 tw_7_134 tw_7_132 (by decide) (ge_13 rfl) rfl rfl rfl rfl rfl (gRm_mk rfl rfl (by omega) (by omega)) dL_law_1537) rfl rfl rfl (fun H locs M => ?_)
  refine lv_istore (lv' := [(7, .int r6), (6, .int r1), (0, .ref b), (1, .ref (G.1 0)), (2, .ref (G.1 219)), (3, .ref (G.1 228)), (4, .ref (G.1 229)), (5, .int i)]) hx hb dL_law_1540 hl (by decide) rfl (fun ls hl => ?_)
  refine lv_aload_n hx hb dL_law_1542 rfl (lv_at hl 4 rfl) ?_
  obtain ⟨r9, h10, hf⟩ := bd_x hf
  refine g_callR (st1 := [.int r9]) (cells' := cells + 1) (slots' := slots + 6) M (g_invV (R := room_1) (index := 160) (cells := cells + 1) (slots := slots + 6) S M C0 hl (c_X13_thrown l G H.size lo3 dd4 σ8 h10) k_X13_thrown tw_6_160 tw_6_161 tw_6_159 (by decide) (ge_13 rfl) rfl rfl rfl rfl rfl (gRm_mk rfl rfl (by omega) (by omega)) dL_law_1543) rfl rfl rfl (fun H locs M => ?_)
  refine lv_iload hx hb dL_law_1546 (lv_at hl 1 rfl) ?_
  refine lv_icmp_eq (tgt := 1553) hx hb dL_law_1548 (by decide) (fun c11 => ?_) (fun c11 => ?_)
  · have hf := it_p c11 hf
    refine lv_iload hx hb dL_law_1553 (lv_at hl 1 rfl) ?_
    refine lv_if_ne (tgt := 1570) hx hb dL_law_1555 (by decide) (fun c12 => ?_) (fun c12 => ?_)
    · have hf := it_n c12 hf
      refine lv_goto (tgt := 2764) hx hb dL_law_1570 (by decide) ?_
      cases hf
      refine W.widen (k := cells + 3) (n := slots + 18) (by omega) (by omega) ?_
      exact kk _ _ _ M (lv_sub hl [2, 3, 4, 5, 6, 7] rfl)
    · have hf := it_p c12 hf
      refine lv_aload_n hx hb dL_law_1558 rfl (lv_at hl 5 rfl) ?_
      refine lv_iconst (v := 0) hx hb dL_law_1559 (by decide) ?_
      refine g_lald S M dL_law_1560 ?_
      refine lv_iload hx hb dL_law_1561 (lv_at hl 0 rfl) ?_
      refine lv_i2l hx hb dL_law_1563 rfl ?_
      refine W.lcmp hx hb dL_law_1564 ?_
      refine lv_if_eq (tgt := 1570) hx hb dL_law_1565 (by decide) (fun c13 => ?_) (fun c13 => ?_)
      · have hf := it_p c13 hf
        refine lv_goto (tgt := 2764) hx hb dL_law_1570 (by decide) ?_
        cases hf
        refine W.widen (k := cells + 3) (n := slots + 18) (by omega) (by omega) ?_
        exact kk _ _ _ M (lv_sub hl [2, 3, 4, 5, 6, 7] rfl)
      · have hf := it_n c13 hf
        cases hf
  · have hf := it_n c11 hf
    cases hf
set_option maxHeartbeats 400000 in
set_option maxRecDepth 100000 in
theorem t_25 {p : Program} {l : Launch} {e : Env} {s : State} {m : MethodId} {args : Array Value} {below : List Frame} {meth : Method} {c : Code} {Q : State → Prop} {G : gT} {lo : Int64} {dd : UInt64} {σ : gM} {b L : Nat} {xs : Nat → Int32} (hfl : l.stackTraces = false) (S : CallFix p m c cL_law 9 s args gTs "ParcelDepotLaw") (C0 : gCST G (gAA G s.heap.size) s) (hX : va_X b L xs s s.heap) (hbl : b < s.heap.size) (hbA : ¬ gAA G s.heap.size b) {i : Int32} (h1 : vp_in (i + 1) L) (h2 : vp_in (i + 2) L) (h3 : vp_in (i + 3) L) {cells slots : Nat} (hc : cells + 3 ≤ room_1.cells) (hs : slots + 18 ≤ room_1.slots) {o : gM × Int64 × UInt64} (hf : f_T_25 σ lo dd (xs (i + 1).toNatClampNeg) (xs (i + 2).toNatClampNeg) (xs (i + 3).toNatClampNeg) = some o) (H : Heap) (locs : List Loc) (ls : Array Slot) (M : gMS G (gAA G s.heap.size) lo dd σ s H locs) (hl : lv_has ls 9 [(0, .ref b), (1, .ref (G.1 0)), (2, .ref (G.1 219)), (3, .ref (G.1 228)), (4, .ref (G.1 229)), (5, .int i)]) (kk : ∀ (H : Heap) (locs : List Loc) (ls : Array Slot), gMS G (gAA G s.heap.size) o.2.1 o.2.2 o.1 s H locs → lv_has ls 9 [(0, .ref b), (1, .ref (G.1 0)), (2, .ref (G.1 219)), (3, .ref (G.1 228)), (4, .ref (G.1 229)), (5, .int i)] → W p l e room_1 s m args below meth c H locs (cells + 3) (slots + 18) Q (F0 m 2764 ls [])) : W p l e room_1 s m args below meth c H locs cells slots Q (F0 m 1573 ls []) := by
  have hx := S.1
  have hb := S.2.1
  unfold f_T_25 at hf
  refine lv_aload_n hx hb dL_law_1573 rfl (lv_at hl 1 rfl) ?_
  refine lv_aload_n hx hb dL_law_1574 rfl (lv_at hl 0 rfl) ?_
  refine lv_iload hx hb dL_law_1575 (lv_at hl 5 rfl) ?_
  refine lv_iconst (v := 1) hx hb dL_law_1577 (by decide) ?_
  refine lv_iadd hx hb dL_law_1578 ?_
  refine va_sld hx hb hX hbl hbA M.2.2.2 h1 dL_law_1579 ?_
  refine lv_aload_n hx hb dL_law_1580 rfl (lv_at hl 3 rfl) ?_
  obtain ⟨r1, σ2, lo3, dd4, h5, hf⟩ := bd4_x hf
  refine g_callR (st1 := [.int r1]) (cells' := cells + 2) (slots' := slots + 12) M (g_invW (R := room_1) (index := 242) (cells := cells) (slots := slots) S M C0 hl (c_L_gloveFor l hfl G H.size lo dd σ (xs (i + 1).toNatClampNeg) h5) kw_L_gloveFor tw_5_2 tw_5_1 rfl rfl rfl (gRm_mk rfl rfl (by omega) (by omega)) dL_law_1581) rfl rfl rfl (fun H locs M => ?_)
  refine lv_istore (lv' := [(6, .int r1), (0, .ref b), (1, .ref (G.1 0)), (2, .ref (G.1 219)), (3, .ref (G.1 228)), (4, .ref (G.1 229)), (5, .int i)]) hx hb dL_law_1584 hl (by decide) rfl (fun ls hl => ?_)
  refine lv_aload_n hx hb dL_law_1586 rfl (lv_at hl 3 rfl) ?_
  refine lv_aload_n hx hb dL_law_1587 rfl (lv_at hl 1 rfl) ?_
  refine lv_iload hx hb dL_law_1588 (lv_at hl 6 rfl) ?_
  refine lv_iconst (v := 1) hx hb dL_law_1590 (by decide) ?_
  refine lv_iadd hx hb dL_law_1591 ?_
  refine va_sld hx hb hX hbl hbA M.2.2.2 h1 dL_law_1592 ?_
  obtain ⟨r6, σ8, h7, hf⟩ := bd2_x hf
  refine g_callR (st1 := [.int r6]) (cells' := cells + 2) (slots' := slots + 12) M (g_invV (R := room_1) (index := 244) (cells := cells + 2) (slots := slots + 12) S M C0 hl (c_X13_gloveFor l G H.size lo3 dd4 σ2 (xs (i + 1).toNatClampNeg) h7) k_X13_gloveFor tw_7_137 tw_7_138 tw_7_136 (by decide) (ge_13 rfl) rfl rfl rfl rfl rfl (gRm_mk rfl rfl (by omega) (by omega)) dL_law_1593) rfl rfl rfl (fun H locs M => ?_)
  refine lv_istore (lv' := [(7, .int r6), (6, .int r1), (0, .ref b), (1, .ref (G.1 0)), (2, .ref (G.1 219)), (3, .ref (G.1 228)), (4, .ref (G.1 229)), (5, .int i)]) hx hb dL_law_1596 hl (by decide) rfl (fun ls hl => ?_)
  refine lv_aload_n hx hb dL_law_1598 rfl (lv_at hl 4 rfl) ?_
  obtain ⟨r9, h10, hf⟩ := bd_x hf
  refine g_callR (st1 := [.int r9]) (cells' := cells + 2) (slots' := slots + 12) M (g_invV (R := room_1) (index := 160) (cells := cells + 2) (slots := slots + 12) S M C0 hl (c_X13_thrown l G H.size lo3 dd4 σ8 h10) k_X13_thrown tw_6_160 tw_6_161 tw_6_159 (by decide) (ge_13 rfl) rfl rfl rfl rfl rfl (gRm_mk rfl rfl (by omega) (by omega)) dL_law_1599) rfl rfl rfl (fun H locs M => ?_)
  refine lv_iload hx hb dL_law_1602 (lv_at hl 1 rfl) ?_
  refine lv_icmp_eq (tgt := 1609) hx hb dL_law_1604 (by decide) (fun c11 => ?_) (fun c11 => ?_)
  · have hf := it_p c11 hf
    refine lv_iload hx hb dL_law_1609 (lv_at hl 1 rfl) ?_
    refine lv_if_ne (tgt := 1626) hx hb dL_law_1611 (by decide) (fun c12 => ?_) (fun c12 => ?_)
    · have hf := it_n c12 hf
      refine lv_goto (tgt := 2764) hx hb dL_law_1626 (by decide) ?_
      cases hf
      refine W.widen (k := cells + 3) (n := slots + 18) (by omega) (by omega) ?_
      exact kk _ _ _ M (lv_sub hl [2, 3, 4, 5, 6, 7] rfl)
    · have hf := it_p c12 hf
      refine lv_aload_n hx hb dL_law_1614 rfl (lv_at hl 5 rfl) ?_
      refine lv_iconst (v := 0) hx hb dL_law_1615 (by decide) ?_
      refine g_lald S M dL_law_1616 ?_
      refine lv_iload hx hb dL_law_1617 (lv_at hl 0 rfl) ?_
      refine lv_i2l hx hb dL_law_1619 rfl ?_
      refine W.lcmp hx hb dL_law_1620 ?_
      refine lv_if_eq (tgt := 1626) hx hb dL_law_1621 (by decide) (fun c13 => ?_) (fun c13 => ?_)
      · have hf := it_p c13 hf
        refine lv_goto (tgt := 2764) hx hb dL_law_1626 (by decide) ?_
        cases hf
        refine W.widen (k := cells + 3) (n := slots + 18) (by omega) (by omega) ?_
        exact kk _ _ _ M (lv_sub hl [2, 3, 4, 5, 6, 7] rfl)
      · have hf := it_n c13 hf
        cases hf
  · have hf := it_n c11 hf
    cases hf
set_option maxHeartbeats 400000 in
set_option maxRecDepth 100000 in
theorem t_26 {p : Program} {l : Launch} {e : Env} {s : State} {m : MethodId} {args : Array Value} {below : List Frame} {meth : Method} {c : Code} {Q : State → Prop} {G : gT} {lo : Int64} {dd : UInt64} {σ : gM} {b L : Nat} {xs : Nat → Int32} (hfl : l.stackTraces = false) (S : CallFix p m c cL_law 9 s args gTs "ParcelDepotLaw") (C0 : gCST G (gAA G s.heap.size) s) (hX : va_X b L xs s s.heap) (hbl : b < s.heap.size) (hbA : ¬ gAA G s.heap.size b) {i : Int32} (h1 : vp_in (i + 1) L) (h2 : vp_in (i + 2) L) (h3 : vp_in (i + 3) L) {cells slots : Nat} (hc : cells + 3 ≤ room_1.cells) (hs : slots + 18 ≤ room_1.slots) {o : gM × Int64 × UInt64} (hf : f_T_26 σ lo dd (xs (i + 1).toNatClampNeg) (xs (i + 2).toNatClampNeg) (xs (i + 3).toNatClampNeg) = some o) (H : Heap) (locs : List Loc) (ls : Array Slot) (M : gMS G (gAA G s.heap.size) lo dd σ s H locs) (hl : lv_has ls 9 [(0, .ref b), (1, .ref (G.1 0)), (2, .ref (G.1 219)), (3, .ref (G.1 228)), (4, .ref (G.1 229)), (5, .int i)]) (kk : ∀ (H : Heap) (locs : List Loc) (ls : Array Slot), gMS G (gAA G s.heap.size) o.2.1 o.2.2 o.1 s H locs → lv_has ls 9 [(0, .ref b), (1, .ref (G.1 0)), (2, .ref (G.1 219)), (3, .ref (G.1 228)), (4, .ref (G.1 229)), (5, .int i)] → W p l e room_1 s m args below meth c H locs (cells + 3) (slots + 18) Q (F0 m 2764 ls [])) : W p l e room_1 s m args below meth c H locs cells slots Q (F0 m 1629 ls []) := by
  have hx := S.1
  have hb := S.2.1
  unfold f_T_26 at hf
  refine lv_aload_n hx hb dL_law_1629 rfl (lv_at hl 1 rfl) ?_
  refine lv_aload_n hx hb dL_law_1630 rfl (lv_at hl 0 rfl) ?_
  refine lv_iload hx hb dL_law_1631 (lv_at hl 5 rfl) ?_
  refine lv_iconst (v := 1) hx hb dL_law_1633 (by decide) ?_
  refine lv_iadd hx hb dL_law_1634 ?_
  refine va_sld hx hb hX hbl hbA M.2.2.2 h1 dL_law_1635 ?_
  refine lv_aload_n hx hb dL_law_1636 rfl (lv_at hl 3 rfl) ?_
  obtain ⟨r1, σ2, lo3, dd4, h5, hf⟩ := bd4_x hf
  refine g_callR (st1 := [.int r1]) (cells' := cells + 1) (slots' := slots + 6) M (g_invW (R := room_1) (index := 245) (cells := cells) (slots := slots) S M C0 hl (c_L_canHandle l hfl G H.size lo dd σ (xs (i + 1).toNatClampNeg) h5) kw_L_canHandle tw_5_10 tw_5_9 rfl rfl rfl (gRm_mk rfl rfl (by omega) (by omega)) dL_law_1637) rfl rfl rfl (fun H locs M => ?_)
  refine lv_istore (lv' := [(6, .int r1), (0, .ref b), (1, .ref (G.1 0)), (2, .ref (G.1 219)), (3, .ref (G.1 228)), (4, .ref (G.1 229)), (5, .int i)]) hx hb dL_law_1640 hl (by decide) rfl (fun ls hl => ?_)
  refine lv_aload_n hx hb dL_law_1642 rfl (lv_at hl 3 rfl) ?_
  refine lv_aload_n hx hb dL_law_1643 rfl (lv_at hl 1 rfl) ?_
  refine lv_iload hx hb dL_law_1644 (lv_at hl 6 rfl) ?_
  refine lv_iconst (v := 1) hx hb dL_law_1646 (by decide) ?_
  refine lv_iadd hx hb dL_law_1647 ?_
  refine va_sld hx hb hX hbl hbA M.2.2.2 h1 dL_law_1648 ?_
  obtain ⟨r6, σ8, h7, hf⟩ := bd2_x hf
  refine g_callR (st1 := [.int r6]) (cells' := cells + 1) (slots' := slots + 6) M (g_invV (R := room_1) (index := 247) (cells := cells + 1) (slots := slots + 6) S M C0 hl (c_X13_canHandle l G H.size lo3 dd4 σ2 (xs (i + 1).toNatClampNeg) h7) k_X13_canHandle tw_7_141 tw_7_142 tw_7_140 (by decide) (ge_13 rfl) rfl rfl rfl rfl rfl (gRm_mk rfl rfl (by omega) (by omega)) dL_law_1649) rfl rfl rfl (fun H locs M => ?_)
  refine lv_istore (lv' := [(7, .int r6), (6, .int r1), (0, .ref b), (1, .ref (G.1 0)), (2, .ref (G.1 219)), (3, .ref (G.1 228)), (4, .ref (G.1 229)), (5, .int i)]) hx hb dL_law_1652 hl (by decide) rfl (fun ls hl => ?_)
  refine lv_aload_n hx hb dL_law_1654 rfl (lv_at hl 4 rfl) ?_
  obtain ⟨r9, h10, hf⟩ := bd_x hf
  refine g_callR (st1 := [.int r9]) (cells' := cells + 1) (slots' := slots + 6) M (g_invV (R := room_1) (index := 160) (cells := cells + 1) (slots := slots + 6) S M C0 hl (c_X13_thrown l G H.size lo3 dd4 σ8 h10) k_X13_thrown tw_6_160 tw_6_161 tw_6_159 (by decide) (ge_13 rfl) rfl rfl rfl rfl rfl (gRm_mk rfl rfl (by omega) (by omega)) dL_law_1655) rfl rfl rfl (fun H locs M => ?_)
  refine lv_iload hx hb dL_law_1658 (lv_at hl 1 rfl) ?_
  refine lv_icmp_eq (tgt := 1665) hx hb dL_law_1660 (by decide) (fun c11 => ?_) (fun c11 => ?_)
  · have hf := it_p c11 hf
    refine lv_iload hx hb dL_law_1665 (lv_at hl 1 rfl) ?_
    refine lv_if_ne (tgt := 1689) hx hb dL_law_1667 (by decide) (fun c12 => ?_) (fun c12 => ?_)
    · have hf := it_n c12 hf
      refine lv_goto (tgt := 2764) hx hb dL_law_1689 (by decide) ?_
      cases hf
      refine W.widen (k := cells + 3) (n := slots + 18) (by omega) (by omega) ?_
      exact kk _ _ _ M (lv_sub hl [2, 3, 4, 5, 6, 7] rfl)
    · have hf := it_p c12 hf
      refine lv_aload_n hx hb dL_law_1670 rfl (lv_at hl 5 rfl) ?_
      refine lv_iconst (v := 0) hx hb dL_law_1671 (by decide) ?_
      refine g_lald S M dL_law_1672 ?_
      refine lv_iload hx hb dL_law_1673 (lv_at hl 0 rfl) ?_
      refine lv_if_eq (tgt := 1682) hx hb dL_law_1675 (by decide) (fun c13 => ?_) (fun c13 => ?_)
      · have hf := it_p c13 hf
        refine lv_lconst (v := 0) hx hb dL_law_1682 (by decide) ?_
        refine W.lcmp hx hb dL_law_1683 ?_
        refine lv_if_eq (tgt := 1689) hx hb dL_law_1684 (by decide) (fun c14 => ?_) (fun c14 => ?_)
        · have hf := it_p c14 hf
          refine lv_goto (tgt := 2764) hx hb dL_law_1689 (by decide) ?_
          cases hf
          refine W.widen (k := cells + 3) (n := slots + 18) (by omega) (by omega) ?_
          exact kk _ _ _ M (lv_sub hl [2, 3, 4, 5, 6, 7] rfl)
        · have hf := it_n c14 hf
          cases hf
      · have hf := it_n c13 hf
        refine lv_lconst (v := 1) hx hb dL_law_1678 (by decide) ?_
        refine lv_goto (tgt := 1683) hx hb dL_law_1679 (by decide) ?_
        refine W.lcmp hx hb dL_law_1683 ?_
        refine lv_if_eq (tgt := 1689) hx hb dL_law_1684 (by decide) (fun c15 => ?_) (fun c15 => ?_)
        · have hf := it_p c15 hf
          refine lv_goto (tgt := 2764) hx hb dL_law_1689 (by decide) ?_
          cases hf
          refine W.widen (k := cells + 3) (n := slots + 18) (by omega) (by omega) ?_
          exact kk _ _ _ M (lv_sub hl [2, 3, 4, 5, 6, 7] rfl)
        · have hf := it_n c15 hf
          cases hf
  · have hf := it_n c11 hf
    cases hf
set_option maxHeartbeats 400000 in
set_option maxRecDepth 100000 in
theorem t_27 {p : Program} {l : Launch} {e : Env} {s : State} {m : MethodId} {args : Array Value} {below : List Frame} {meth : Method} {c : Code} {Q : State → Prop} {G : gT} {lo : Int64} {dd : UInt64} {σ : gM} {b L : Nat} {xs : Nat → Int32} (hfl : l.stackTraces = false) (S : CallFix p m c cL_law 9 s args gTs "ParcelDepotLaw") (C0 : gCST G (gAA G s.heap.size) s) (hX : va_X b L xs s s.heap) (hbl : b < s.heap.size) (hbA : ¬ gAA G s.heap.size b) {i : Int32} (h1 : vp_in (i + 1) L) (h2 : vp_in (i + 2) L) (h3 : vp_in (i + 3) L) {cells slots : Nat} (hc : cells + 3 ≤ room_1.cells) (hs : slots + 18 ≤ room_1.slots) {o : gM × Int64 × UInt64} (hf : f_T_27 σ lo dd (xs (i + 1).toNatClampNeg) (xs (i + 2).toNatClampNeg) (xs (i + 3).toNatClampNeg) = some o) (H : Heap) (locs : List Loc) (ls : Array Slot) (M : gMS G (gAA G s.heap.size) lo dd σ s H locs) (hl : lv_has ls 9 [(0, .ref b), (1, .ref (G.1 0)), (2, .ref (G.1 219)), (3, .ref (G.1 228)), (4, .ref (G.1 229)), (5, .int i)]) (kk : ∀ (H : Heap) (locs : List Loc) (ls : Array Slot), gMS G (gAA G s.heap.size) o.2.1 o.2.2 o.1 s H locs → lv_has ls 9 [(0, .ref b), (1, .ref (G.1 0)), (2, .ref (G.1 219)), (3, .ref (G.1 228)), (4, .ref (G.1 229)), (5, .int i)] → W p l e room_1 s m args below meth c H locs (cells + 3) (slots + 18) Q (F0 m 2764 ls [])) : W p l e room_1 s m args below meth c H locs cells slots Q (F0 m 1692 ls []) := by
  have hx := S.1
  have hb := S.2.1
  unfold f_T_27 at hf
  refine lv_aload_n hx hb dL_law_1692 rfl (lv_at hl 1 rfl) ?_
  obtain ⟨r1, σ3, h2, hf⟩ := bd2_x hf
  refine g_callR (st1 := [.int r1]) (cells' := cells + 0) (slots' := slots + 0) M (g_invV (R := room_1) (index := 248) (cells := cells + 0) (slots := slots + 0) S M C0 hl (c_X12_handleable l G H.size lo dd σ h2) k_X12_handleable tw_2_67 tw_2_68 tw_2_66 (by decide) (ge_0 rfl) rfl rfl rfl rfl rfl (gRm_mk rfl rfl (by omega) (by omega)) dL_law_1693) rfl rfl rfl (fun H locs M => ?_)
  refine lv_aload_n hx hb dL_law_1696 rfl (lv_at hl 2 rfl) ?_
  obtain ⟨r4, σ6, h5, hf⟩ := bd2_x hf
  refine g_callR (st1 := [.int r4, .int r1]) (cells' := cells + 0) (slots' := slots + 0) M (g_invV (R := room_1) (index := 251) (cells := cells + 0) (slots := slots + 0) S M C0 hl (c_X13_handleable l G H.size lo dd σ3 h5) k_X13_handleable tw_7_145 tw_7_146 tw_7_144 (by decide) (ge_13 rfl) rfl rfl rfl rfl rfl (gRm_mk rfl rfl (by omega) (by omega)) dL_law_1697) rfl rfl rfl (fun H locs M => ?_)
  refine lv_icmp_eq (tgt := 2764) hx hb dL_law_1700 (by decide) (fun c7 => ?_) (fun c7 => ?_)
  · have hf := it_p c7 hf
    cases hf
    refine W.widen (k := cells + 3) (n := slots + 18) (by omega) (by omega) ?_
    exact kk _ _ _ M (lv_sub hl [0, 1, 2, 3, 4, 5] rfl)
  · have hf := it_n c7 hf
    cases hf
set_option maxHeartbeats 400000 in
set_option maxRecDepth 100000 in
theorem t_28 {p : Program} {l : Launch} {e : Env} {s : State} {m : MethodId} {args : Array Value} {below : List Frame} {meth : Method} {c : Code} {Q : State → Prop} {G : gT} {lo : Int64} {dd : UInt64} {σ : gM} {b L : Nat} {xs : Nat → Int32} (hfl : l.stackTraces = false) (S : CallFix p m c cL_law 9 s args gTs "ParcelDepotLaw") (C0 : gCST G (gAA G s.heap.size) s) (hX : va_X b L xs s s.heap) (hbl : b < s.heap.size) (hbA : ¬ gAA G s.heap.size b) {i : Int32} (h1 : vp_in (i + 1) L) (h2 : vp_in (i + 2) L) (h3 : vp_in (i + 3) L) {cells slots : Nat} (hc : cells + 3 ≤ room_1.cells) (hs : slots + 18 ≤ room_1.slots) {o : gM × Int64 × UInt64} (hf : f_T_28 σ lo dd (xs (i + 1).toNatClampNeg) (xs (i + 2).toNatClampNeg) (xs (i + 3).toNatClampNeg) = some o) (H : Heap) (locs : List Loc) (ls : Array Slot) (M : gMS G (gAA G s.heap.size) lo dd σ s H locs) (hl : lv_has ls 9 [(0, .ref b), (1, .ref (G.1 0)), (2, .ref (G.1 219)), (3, .ref (G.1 228)), (4, .ref (G.1 229)), (5, .int i)]) (kk : ∀ (H : Heap) (locs : List Loc) (ls : Array Slot), gMS G (gAA G s.heap.size) o.2.1 o.2.2 o.1 s H locs → lv_has ls 9 [(0, .ref b), (1, .ref (G.1 0)), (2, .ref (G.1 219)), (3, .ref (G.1 228)), (4, .ref (G.1 229)), (5, .int i)] → W p l e room_1 s m args below meth c H locs (cells + 3) (slots + 18) Q (F0 m 2764 ls [])) : W p l e room_1 s m args below meth c H locs cells slots Q (F0 m 1705 ls []) := by
  have hx := S.1
  have hb := S.2.1
  unfold f_T_28 at hf
  refine lv_aload_n hx hb dL_law_1705 rfl (lv_at hl 1 rfl) ?_
  obtain ⟨r1, h2, hf⟩ := bd_x hf
  refine g_callR (st1 := [.int r1]) (cells' := cells + 0) (slots' := slots + 0) M (g_invV (R := room_1) (index := 252) (cells := cells + 0) (slots := slots + 0) S M C0 hl (c_X12_handleableByShortage l G H.size lo dd σ h2) k_X12_handleableByShortage tw_2_90 tw_2_91 tw_2_89 (by decide) (ge_0 rfl) rfl rfl rfl rfl rfl (gRm_mk rfl rfl (by omega) (by omega)) dL_law_1706) rfl rfl rfl (fun H locs M => ?_)
  refine lv_aload_n hx hb dL_law_1709 rfl (lv_at hl 2 rfl) ?_
  obtain ⟨r3, σ5, h4, hf⟩ := bd2_x hf
  refine g_callR (st1 := [.int r3, .int r1]) (cells' := cells + 0) (slots' := slots + 0) M (g_invV (R := room_1) (index := 255) (cells := cells + 0) (slots := slots + 0) S M C0 hl (c_X13_handleableByShortage l G H.size lo dd σ h4) k_X13_handleableByShortage tw_7_153 tw_7_154 tw_7_152 (by decide) (ge_13 rfl) rfl rfl rfl rfl rfl (gRm_mk rfl rfl (by omega) (by omega)) dL_law_1710) rfl rfl rfl (fun H locs M => ?_)
  refine lv_icmp_eq (tgt := 2764) hx hb dL_law_1713 (by decide) (fun c6 => ?_) (fun c6 => ?_)
  · have hf := it_p c6 hf
    cases hf
    refine W.widen (k := cells + 3) (n := slots + 18) (by omega) (by omega) ?_
    exact kk _ _ _ M (lv_sub hl [0, 1, 2, 3, 4, 5] rfl)
  · have hf := it_n c6 hf
    cases hf
set_option maxHeartbeats 400000 in
set_option maxRecDepth 100000 in
theorem t_29 {p : Program} {l : Launch} {e : Env} {s : State} {m : MethodId} {args : Array Value} {below : List Frame} {meth : Method} {c : Code} {Q : State → Prop} {G : gT} {lo : Int64} {dd : UInt64} {σ : gM} {b L : Nat} {xs : Nat → Int32} (hfl : l.stackTraces = false) (S : CallFix p m c cL_law 9 s args gTs "ParcelDepotLaw") (C0 : gCST G (gAA G s.heap.size) s) (hX : va_X b L xs s s.heap) (hbl : b < s.heap.size) (hbA : ¬ gAA G s.heap.size b) {i : Int32} (h1 : vp_in (i + 1) L) (h2 : vp_in (i + 2) L) (h3 : vp_in (i + 3) L) {cells slots : Nat} (hc : cells + 3 ≤ room_1.cells) (hs : slots + 18 ≤ room_1.slots) {o : gM × Int64 × UInt64} (hf : f_T_29 σ lo dd (xs (i + 1).toNatClampNeg) (xs (i + 2).toNatClampNeg) (xs (i + 3).toNatClampNeg) = some o) (H : Heap) (locs : List Loc) (ls : Array Slot) (M : gMS G (gAA G s.heap.size) lo dd σ s H locs) (hl : lv_has ls 9 [(0, .ref b), (1, .ref (G.1 0)), (2, .ref (G.1 219)), (3, .ref (G.1 228)), (4, .ref (G.1 229)), (5, .int i)]) (kk : ∀ (H : Heap) (locs : List Loc) (ls : Array Slot), gMS G (gAA G s.heap.size) o.2.1 o.2.2 o.1 s H locs → lv_has ls 9 [(0, .ref b), (1, .ref (G.1 0)), (2, .ref (G.1 219)), (3, .ref (G.1 228)), (4, .ref (G.1 229)), (5, .int i)] → W p l e room_1 s m args below meth c H locs (cells + 3) (slots + 18) Q (F0 m 2764 ls [])) : W p l e room_1 s m args below meth c H locs cells slots Q (F0 m 1718 ls []) := by
  have hx := S.1
  have hb := S.2.1
  unfold f_T_29 at hf
  refine lv_aload_n hx hb dL_law_1718 rfl (lv_at hl 1 rfl) ?_
  refine lv_aload_n hx hb dL_law_1719 rfl (lv_at hl 0 rfl) ?_
  refine lv_iload hx hb dL_law_1720 (lv_at hl 5 rfl) ?_
  refine lv_iconst (v := 1) hx hb dL_law_1722 (by decide) ?_
  refine lv_iadd hx hb dL_law_1723 ?_
  refine va_sld hx hb hX hbl hbA M.2.2.2 h1 dL_law_1724 ?_
  refine lv_aload_n hx hb dL_law_1725 rfl (lv_at hl 3 rfl) ?_
  obtain ⟨r1, σ2, lo3, dd4, h5, hf⟩ := bd4_x hf
  refine g_callR (st1 := [.int r1]) (cells' := cells + 1) (slots' := slots + 6) M (g_invW (R := room_1) (index := 256) (cells := cells) (slots := slots) S M C0 hl (c_L_place l hfl G H.size lo dd σ (xs (i + 1).toNatClampNeg) h5) kw_L_place tw_5_18 tw_5_17 rfl rfl rfl (gRm_mk rfl rfl (by omega) (by omega)) dL_law_1726) rfl rfl rfl (fun H locs M => ?_)
  refine lv_istore (lv' := [(6, .int r1), (0, .ref b), (1, .ref (G.1 0)), (2, .ref (G.1 219)), (3, .ref (G.1 228)), (4, .ref (G.1 229)), (5, .int i)]) hx hb dL_law_1729 hl (by decide) rfl (fun ls hl => ?_)
  refine lv_aload_n hx hb dL_law_1731 rfl (lv_at hl 3 rfl) ?_
  refine lv_aload_n hx hb dL_law_1732 rfl (lv_at hl 1 rfl) ?_
  refine lv_iload hx hb dL_law_1733 (lv_at hl 6 rfl) ?_
  refine lv_iconst (v := 1) hx hb dL_law_1735 (by decide) ?_
  refine lv_iadd hx hb dL_law_1736 ?_
  refine va_sld hx hb hX hbl hbA M.2.2.2 h1 dL_law_1737 ?_
  obtain ⟨r6, σ8, h7, hf⟩ := bd2_x hf
  refine g_callR (st1 := [.int r6]) (cells' := cells + 1) (slots' := slots + 6) M (g_invV (R := room_1) (index := 258) (cells := cells + 1) (slots := slots + 6) S M C0 hl (c_X13_place l G H.size lo3 dd4 σ2 (xs (i + 1).toNatClampNeg) h7) k_X13_place tw_7_158 tw_7_159 tw_7_157 (by decide) (ge_13 rfl) rfl rfl rfl rfl rfl (gRm_mk rfl rfl (by omega) (by omega)) dL_law_1738) rfl rfl rfl (fun H locs M => ?_)
  refine lv_istore (lv' := [(7, .int r6), (6, .int r1), (0, .ref b), (1, .ref (G.1 0)), (2, .ref (G.1 219)), (3, .ref (G.1 228)), (4, .ref (G.1 229)), (5, .int i)]) hx hb dL_law_1741 hl (by decide) rfl (fun ls hl => ?_)
  refine lv_aload_n hx hb dL_law_1743 rfl (lv_at hl 4 rfl) ?_
  obtain ⟨r9, h10, hf⟩ := bd_x hf
  refine g_callR (st1 := [.int r9]) (cells' := cells + 1) (slots' := slots + 6) M (g_invV (R := room_1) (index := 160) (cells := cells + 1) (slots := slots + 6) S M C0 hl (c_X13_thrown l G H.size lo3 dd4 σ8 h10) k_X13_thrown tw_6_160 tw_6_161 tw_6_159 (by decide) (ge_13 rfl) rfl rfl rfl rfl rfl (gRm_mk rfl rfl (by omega) (by omega)) dL_law_1744) rfl rfl rfl (fun H locs M => ?_)
  refine lv_iload hx hb dL_law_1747 (lv_at hl 1 rfl) ?_
  refine lv_icmp_eq (tgt := 1754) hx hb dL_law_1749 (by decide) (fun c11 => ?_) (fun c11 => ?_)
  · have hf := it_p c11 hf
    refine lv_iload hx hb dL_law_1754 (lv_at hl 1 rfl) ?_
    refine lv_if_ne (tgt := 1771) hx hb dL_law_1756 (by decide) (fun c12 => ?_) (fun c12 => ?_)
    · have hf := it_n c12 hf
      refine lv_goto (tgt := 2764) hx hb dL_law_1771 (by decide) ?_
      cases hf
      refine W.widen (k := cells + 3) (n := slots + 18) (by omega) (by omega) ?_
      exact kk _ _ _ M (lv_sub hl [2, 3, 4, 5, 6, 7] rfl)
    · have hf := it_p c12 hf
      refine lv_aload_n hx hb dL_law_1759 rfl (lv_at hl 5 rfl) ?_
      refine lv_iconst (v := 0) hx hb dL_law_1760 (by decide) ?_
      refine g_lald S M dL_law_1761 ?_
      refine lv_iload hx hb dL_law_1762 (lv_at hl 0 rfl) ?_
      refine lv_i2l hx hb dL_law_1764 rfl ?_
      refine W.lcmp hx hb dL_law_1765 ?_
      refine lv_if_eq (tgt := 1771) hx hb dL_law_1766 (by decide) (fun c13 => ?_) (fun c13 => ?_)
      · have hf := it_p c13 hf
        refine lv_goto (tgt := 2764) hx hb dL_law_1771 (by decide) ?_
        cases hf
        refine W.widen (k := cells + 3) (n := slots + 18) (by omega) (by omega) ?_
        exact kk _ _ _ M (lv_sub hl [2, 3, 4, 5, 6, 7] rfl)
      · have hf := it_n c13 hf
        cases hf
  · have hf := it_n c11 hf
    cases hf
set_option maxHeartbeats 400000 in
set_option maxRecDepth 100000 in
theorem t_30 {p : Program} {l : Launch} {e : Env} {s : State} {m : MethodId} {args : Array Value} {below : List Frame} {meth : Method} {c : Code} {Q : State → Prop} {G : gT} {lo : Int64} {dd : UInt64} {σ : gM} {b L : Nat} {xs : Nat → Int32} (hfl : l.stackTraces = false) (S : CallFix p m c cL_law 9 s args gTs "ParcelDepotLaw") (C0 : gCST G (gAA G s.heap.size) s) (hX : va_X b L xs s s.heap) (hbl : b < s.heap.size) (hbA : ¬ gAA G s.heap.size b) {i : Int32} (h1 : vp_in (i + 1) L) (h2 : vp_in (i + 2) L) (h3 : vp_in (i + 3) L) {cells slots : Nat} (hc : cells + 3 ≤ room_1.cells) (hs : slots + 18 ≤ room_1.slots) {o : gM × Int64 × UInt64} (hf : f_T_30 σ lo dd (xs (i + 1).toNatClampNeg) (xs (i + 2).toNatClampNeg) (xs (i + 3).toNatClampNeg) = some o) (H : Heap) (locs : List Loc) (ls : Array Slot) (M : gMS G (gAA G s.heap.size) lo dd σ s H locs) (hl : lv_has ls 9 [(0, .ref b), (1, .ref (G.1 0)), (2, .ref (G.1 219)), (3, .ref (G.1 228)), (4, .ref (G.1 229)), (5, .int i)]) (kk : ∀ (H : Heap) (locs : List Loc) (ls : Array Slot), gMS G (gAA G s.heap.size) o.2.1 o.2.2 o.1 s H locs → lv_has ls 9 [(0, .ref b), (1, .ref (G.1 0)), (2, .ref (G.1 219)), (3, .ref (G.1 228)), (4, .ref (G.1 229)), (5, .int i)] → W p l e room_1 s m args below meth c H locs (cells + 3) (slots + 18) Q (F0 m 2764 ls [])) : W p l e room_1 s m args below meth c H locs cells slots Q (F0 m 1774 ls []) := by
  have hx := S.1
  have hb := S.2.1
  unfold f_T_30 at hf
  refine lv_aload_n hx hb dL_law_1774 rfl (lv_at hl 1 rfl) ?_
  refine lv_aload_n hx hb dL_law_1775 rfl (lv_at hl 0 rfl) ?_
  refine lv_iload hx hb dL_law_1776 (lv_at hl 5 rfl) ?_
  refine lv_iconst (v := 1) hx hb dL_law_1778 (by decide) ?_
  refine lv_iadd hx hb dL_law_1779 ?_
  refine va_sld hx hb hX hbl hbA M.2.2.2 h1 dL_law_1780 ?_
  refine lv_aload_n hx hb dL_law_1781 rfl (lv_at hl 3 rfl) ?_
  obtain ⟨r1, σ2, lo3, dd4, h5, hf⟩ := bd4_x hf
  refine g_callR (st1 := [.int r1]) (cells' := cells + 1) (slots' := slots + 6) M (g_invW (R := room_1) (index := 259) (cells := cells) (slots := slots) S M C0 hl (c_L_capacity l hfl G H.size lo dd σ (xs (i + 1).toNatClampNeg) h5) kw_L_capacity tw_5_26 tw_5_25 rfl rfl rfl (gRm_mk rfl rfl (by omega) (by omega)) dL_law_1782) rfl rfl rfl (fun H locs M => ?_)
  refine lv_istore (lv' := [(6, .int r1), (0, .ref b), (1, .ref (G.1 0)), (2, .ref (G.1 219)), (3, .ref (G.1 228)), (4, .ref (G.1 229)), (5, .int i)]) hx hb dL_law_1785 hl (by decide) rfl (fun ls hl => ?_)
  refine lv_aload_n hx hb dL_law_1787 rfl (lv_at hl 3 rfl) ?_
  refine lv_aload_n hx hb dL_law_1788 rfl (lv_at hl 1 rfl) ?_
  refine lv_iload hx hb dL_law_1789 (lv_at hl 6 rfl) ?_
  refine lv_iconst (v := 1) hx hb dL_law_1791 (by decide) ?_
  refine lv_iadd hx hb dL_law_1792 ?_
  refine va_sld hx hb hX hbl hbA M.2.2.2 h1 dL_law_1793 ?_
  obtain ⟨r6, σ8, h7, hf⟩ := bd2_x hf
  refine g_callR (st1 := [.int r6]) (cells' := cells + 1) (slots' := slots + 6) M (g_invV (R := room_1) (index := 261) (cells := cells + 1) (slots := slots + 6) S M C0 hl (c_X13_capacity l G H.size lo3 dd4 σ2 (xs (i + 1).toNatClampNeg) h7) k_X13_capacity tw_7_166 tw_7_167 tw_7_165 (by decide) (ge_13 rfl) rfl rfl rfl rfl rfl (gRm_mk rfl rfl (by omega) (by omega)) dL_law_1794) rfl rfl rfl (fun H locs M => ?_)
  refine lv_istore (lv' := [(7, .int r6), (6, .int r1), (0, .ref b), (1, .ref (G.1 0)), (2, .ref (G.1 219)), (3, .ref (G.1 228)), (4, .ref (G.1 229)), (5, .int i)]) hx hb dL_law_1797 hl (by decide) rfl (fun ls hl => ?_)
  refine lv_aload_n hx hb dL_law_1799 rfl (lv_at hl 4 rfl) ?_
  obtain ⟨r9, h10, hf⟩ := bd_x hf
  refine g_callR (st1 := [.int r9]) (cells' := cells + 1) (slots' := slots + 6) M (g_invV (R := room_1) (index := 160) (cells := cells + 1) (slots := slots + 6) S M C0 hl (c_X13_thrown l G H.size lo3 dd4 σ8 h10) k_X13_thrown tw_6_160 tw_6_161 tw_6_159 (by decide) (ge_13 rfl) rfl rfl rfl rfl rfl (gRm_mk rfl rfl (by omega) (by omega)) dL_law_1800) rfl rfl rfl (fun H locs M => ?_)
  refine lv_iload hx hb dL_law_1803 (lv_at hl 1 rfl) ?_
  refine lv_icmp_eq (tgt := 1810) hx hb dL_law_1805 (by decide) (fun c11 => ?_) (fun c11 => ?_)
  · have hf := it_p c11 hf
    refine lv_iload hx hb dL_law_1810 (lv_at hl 1 rfl) ?_
    refine lv_if_ne (tgt := 1827) hx hb dL_law_1812 (by decide) (fun c12 => ?_) (fun c12 => ?_)
    · have hf := it_n c12 hf
      refine lv_goto (tgt := 2764) hx hb dL_law_1827 (by decide) ?_
      cases hf
      refine W.widen (k := cells + 3) (n := slots + 18) (by omega) (by omega) ?_
      exact kk _ _ _ M (lv_sub hl [2, 3, 4, 5, 6, 7] rfl)
    · have hf := it_p c12 hf
      refine lv_aload_n hx hb dL_law_1815 rfl (lv_at hl 5 rfl) ?_
      refine lv_iconst (v := 0) hx hb dL_law_1816 (by decide) ?_
      refine g_lald S M dL_law_1817 ?_
      refine lv_iload hx hb dL_law_1818 (lv_at hl 0 rfl) ?_
      refine lv_i2l hx hb dL_law_1820 rfl ?_
      refine W.lcmp hx hb dL_law_1821 ?_
      refine lv_if_eq (tgt := 1827) hx hb dL_law_1822 (by decide) (fun c13 => ?_) (fun c13 => ?_)
      · have hf := it_p c13 hf
        refine lv_goto (tgt := 2764) hx hb dL_law_1827 (by decide) ?_
        cases hf
        refine W.widen (k := cells + 3) (n := slots + 18) (by omega) (by omega) ?_
        exact kk _ _ _ M (lv_sub hl [2, 3, 4, 5, 6, 7] rfl)
      · have hf := it_n c13 hf
        cases hf
  · have hf := it_n c11 hf
    cases hf
set_option maxHeartbeats 400000 in
set_option maxRecDepth 100000 in
theorem t_31 {p : Program} {l : Launch} {e : Env} {s : State} {m : MethodId} {args : Array Value} {below : List Frame} {meth : Method} {c : Code} {Q : State → Prop} {G : gT} {lo : Int64} {dd : UInt64} {σ : gM} {b L : Nat} {xs : Nat → Int32} (hfl : l.stackTraces = false) (S : CallFix p m c cL_law 9 s args gTs "ParcelDepotLaw") (C0 : gCST G (gAA G s.heap.size) s) (hX : va_X b L xs s s.heap) (hbl : b < s.heap.size) (hbA : ¬ gAA G s.heap.size b) {i : Int32} (h1 : vp_in (i + 1) L) (h2 : vp_in (i + 2) L) (h3 : vp_in (i + 3) L) {cells slots : Nat} (hc : cells + 3 ≤ room_1.cells) (hs : slots + 18 ≤ room_1.slots) {o : gM × Int64 × UInt64} (hf : f_T_31 σ lo dd (xs (i + 1).toNatClampNeg) (xs (i + 2).toNatClampNeg) (xs (i + 3).toNatClampNeg) = some o) (H : Heap) (locs : List Loc) (ls : Array Slot) (M : gMS G (gAA G s.heap.size) lo dd σ s H locs) (hl : lv_has ls 9 [(0, .ref b), (1, .ref (G.1 0)), (2, .ref (G.1 219)), (3, .ref (G.1 228)), (4, .ref (G.1 229)), (5, .int i)]) (kk : ∀ (H : Heap) (locs : List Loc) (ls : Array Slot), gMS G (gAA G s.heap.size) o.2.1 o.2.2 o.1 s H locs → lv_has ls 9 [(0, .ref b), (1, .ref (G.1 0)), (2, .ref (G.1 219)), (3, .ref (G.1 228)), (4, .ref (G.1 229)), (5, .int i)] → W p l e room_1 s m args below meth c H locs (cells + 3) (slots + 18) Q (F0 m 2764 ls [])) : W p l e room_1 s m args below meth c H locs cells slots Q (F0 m 1830 ls []) := by
  have hx := S.1
  have hb := S.2.1
  unfold f_T_31 at hf
  refine lv_aload_n hx hb dL_law_1830 rfl (lv_at hl 1 rfl) ?_
  refine lv_aload_n hx hb dL_law_1831 rfl (lv_at hl 0 rfl) ?_
  refine lv_iload hx hb dL_law_1832 (lv_at hl 5 rfl) ?_
  refine lv_iconst (v := 1) hx hb dL_law_1834 (by decide) ?_
  refine lv_iadd hx hb dL_law_1835 ?_
  refine va_sld hx hb hX hbl hbA M.2.2.2 h1 dL_law_1836 ?_
  refine lv_aload_n hx hb dL_law_1837 rfl (lv_at hl 3 rfl) ?_
  obtain ⟨r1, σ2, lo3, dd4, h5, hf⟩ := bd4_x hf
  refine g_callR (st1 := [.int r1]) (cells' := cells + 1) (slots' := slots + 6) M (g_invW (R := room_1) (index := 262) (cells := cells) (slots := slots) S M C0 hl (c_L_load l hfl G H.size lo dd σ (xs (i + 1).toNatClampNeg) h5) kw_L_load tw_5_34 tw_5_33 rfl rfl rfl (gRm_mk rfl rfl (by omega) (by omega)) dL_law_1838) rfl rfl rfl (fun H locs M => ?_)
  refine lv_istore (lv' := [(6, .int r1), (0, .ref b), (1, .ref (G.1 0)), (2, .ref (G.1 219)), (3, .ref (G.1 228)), (4, .ref (G.1 229)), (5, .int i)]) hx hb dL_law_1841 hl (by decide) rfl (fun ls hl => ?_)
  refine lv_aload_n hx hb dL_law_1843 rfl (lv_at hl 3 rfl) ?_
  refine lv_aload_n hx hb dL_law_1844 rfl (lv_at hl 1 rfl) ?_
  refine lv_iload hx hb dL_law_1845 (lv_at hl 6 rfl) ?_
  refine lv_iconst (v := 1) hx hb dL_law_1847 (by decide) ?_
  refine lv_iadd hx hb dL_law_1848 ?_
  refine va_sld hx hb hX hbl hbA M.2.2.2 h1 dL_law_1849 ?_
  obtain ⟨r6, σ8, h7, hf⟩ := bd2_x hf
  refine g_callR (st1 := [.int r6]) (cells' := cells + 1) (slots' := slots + 6) M (g_invV (R := room_1) (index := 264) (cells := cells + 1) (slots := slots + 6) S M C0 hl (c_X13_load l G H.size lo3 dd4 σ2 (xs (i + 1).toNatClampNeg) h7) k_X13_load tw_7_170 tw_7_171 tw_7_169 (by decide) (ge_13 rfl) rfl rfl rfl rfl rfl (gRm_mk rfl rfl (by omega) (by omega)) dL_law_1850) rfl rfl rfl (fun H locs M => ?_)
  refine lv_istore (lv' := [(7, .int r6), (6, .int r1), (0, .ref b), (1, .ref (G.1 0)), (2, .ref (G.1 219)), (3, .ref (G.1 228)), (4, .ref (G.1 229)), (5, .int i)]) hx hb dL_law_1853 hl (by decide) rfl (fun ls hl => ?_)
  refine lv_aload_n hx hb dL_law_1855 rfl (lv_at hl 4 rfl) ?_
  obtain ⟨r9, h10, hf⟩ := bd_x hf
  refine g_callR (st1 := [.int r9]) (cells' := cells + 1) (slots' := slots + 6) M (g_invV (R := room_1) (index := 160) (cells := cells + 1) (slots := slots + 6) S M C0 hl (c_X13_thrown l G H.size lo3 dd4 σ8 h10) k_X13_thrown tw_6_160 tw_6_161 tw_6_159 (by decide) (ge_13 rfl) rfl rfl rfl rfl rfl (gRm_mk rfl rfl (by omega) (by omega)) dL_law_1856) rfl rfl rfl (fun H locs M => ?_)
  refine lv_iload hx hb dL_law_1859 (lv_at hl 1 rfl) ?_
  refine lv_icmp_eq (tgt := 1866) hx hb dL_law_1861 (by decide) (fun c11 => ?_) (fun c11 => ?_)
  · have hf := it_p c11 hf
    refine lv_iload hx hb dL_law_1866 (lv_at hl 1 rfl) ?_
    refine lv_if_ne (tgt := 1883) hx hb dL_law_1868 (by decide) (fun c12 => ?_) (fun c12 => ?_)
    · have hf := it_n c12 hf
      refine lv_goto (tgt := 2764) hx hb dL_law_1883 (by decide) ?_
      cases hf
      refine W.widen (k := cells + 3) (n := slots + 18) (by omega) (by omega) ?_
      exact kk _ _ _ M (lv_sub hl [2, 3, 4, 5, 6, 7] rfl)
    · have hf := it_p c12 hf
      refine lv_aload_n hx hb dL_law_1871 rfl (lv_at hl 5 rfl) ?_
      refine lv_iconst (v := 0) hx hb dL_law_1872 (by decide) ?_
      refine g_lald S M dL_law_1873 ?_
      refine lv_iload hx hb dL_law_1874 (lv_at hl 0 rfl) ?_
      refine lv_i2l hx hb dL_law_1876 rfl ?_
      refine W.lcmp hx hb dL_law_1877 ?_
      refine lv_if_eq (tgt := 1883) hx hb dL_law_1878 (by decide) (fun c13 => ?_) (fun c13 => ?_)
      · have hf := it_p c13 hf
        refine lv_goto (tgt := 2764) hx hb dL_law_1883 (by decide) ?_
        cases hf
        refine W.widen (k := cells + 3) (n := slots + 18) (by omega) (by omega) ?_
        exact kk _ _ _ M (lv_sub hl [2, 3, 4, 5, 6, 7] rfl)
      · have hf := it_n c13 hf
        cases hf
  · have hf := it_n c11 hf
    cases hf
set_option maxHeartbeats 400000 in
set_option maxRecDepth 100000 in
theorem t_32 {p : Program} {l : Launch} {e : Env} {s : State} {m : MethodId} {args : Array Value} {below : List Frame} {meth : Method} {c : Code} {Q : State → Prop} {G : gT} {lo : Int64} {dd : UInt64} {σ : gM} {b L : Nat} {xs : Nat → Int32} (hfl : l.stackTraces = false) (S : CallFix p m c cL_law 9 s args gTs "ParcelDepotLaw") (C0 : gCST G (gAA G s.heap.size) s) (hX : va_X b L xs s s.heap) (hbl : b < s.heap.size) (hbA : ¬ gAA G s.heap.size b) {i : Int32} (h1 : vp_in (i + 1) L) (h2 : vp_in (i + 2) L) (h3 : vp_in (i + 3) L) {cells slots : Nat} (hc : cells + 3 ≤ room_1.cells) (hs : slots + 18 ≤ room_1.slots) {o : gM × Int64 × UInt64} (hf : f_T_32 σ lo dd (xs (i + 1).toNatClampNeg) (xs (i + 2).toNatClampNeg) (xs (i + 3).toNatClampNeg) = some o) (H : Heap) (locs : List Loc) (ls : Array Slot) (M : gMS G (gAA G s.heap.size) lo dd σ s H locs) (hl : lv_has ls 9 [(0, .ref b), (1, .ref (G.1 0)), (2, .ref (G.1 219)), (3, .ref (G.1 228)), (4, .ref (G.1 229)), (5, .int i)]) (kk : ∀ (H : Heap) (locs : List Loc) (ls : Array Slot), gMS G (gAA G s.heap.size) o.2.1 o.2.2 o.1 s H locs → lv_has ls 9 [(0, .ref b), (1, .ref (G.1 0)), (2, .ref (G.1 219)), (3, .ref (G.1 228)), (4, .ref (G.1 229)), (5, .int i)] → W p l e room_1 s m args below meth c H locs (cells + 3) (slots + 18) Q (F0 m 2764 ls [])) : W p l e room_1 s m args below meth c H locs cells slots Q (F0 m 1886 ls []) := by
  have hx := S.1
  have hb := S.2.1
  unfold f_T_32 at hf
  refine lv_aload_n hx hb dL_law_1886 rfl (lv_at hl 1 rfl) ?_
  refine lv_aload_n hx hb dL_law_1887 rfl (lv_at hl 0 rfl) ?_
  refine lv_iload hx hb dL_law_1888 (lv_at hl 5 rfl) ?_
  refine lv_iconst (v := 1) hx hb dL_law_1890 (by decide) ?_
  refine lv_iadd hx hb dL_law_1891 ?_
  refine va_sld hx hb hX hbl hbA M.2.2.2 h1 dL_law_1892 ?_
  refine lv_aload_n hx hb dL_law_1893 rfl (lv_at hl 3 rfl) ?_
  obtain ⟨r1, σ2, lo3, dd4, h5, hf⟩ := bd4_x hf
  refine g_callR (st1 := [.int r1]) (cells' := cells + 1) (slots' := slots + 6) M (g_invW (R := room_1) (index := 265) (cells := cells) (slots := slots) S M C0 hl (c_L_parcelsIn l hfl G H.size lo dd σ (xs (i + 1).toNatClampNeg) h5) kw_L_parcelsIn tw_5_42 tw_5_41 rfl rfl rfl (gRm_mk rfl rfl (by omega) (by omega)) dL_law_1894) rfl rfl rfl (fun H locs M => ?_)
  refine lv_istore (lv' := [(6, .int r1), (0, .ref b), (1, .ref (G.1 0)), (2, .ref (G.1 219)), (3, .ref (G.1 228)), (4, .ref (G.1 229)), (5, .int i)]) hx hb dL_law_1897 hl (by decide) rfl (fun ls hl => ?_)
  refine lv_aload_n hx hb dL_law_1899 rfl (lv_at hl 3 rfl) ?_
  refine lv_aload_n hx hb dL_law_1900 rfl (lv_at hl 1 rfl) ?_
  refine lv_iload hx hb dL_law_1901 (lv_at hl 6 rfl) ?_
  refine lv_iconst (v := 1) hx hb dL_law_1903 (by decide) ?_
  refine lv_iadd hx hb dL_law_1904 ?_
  refine va_sld hx hb hX hbl hbA M.2.2.2 h1 dL_law_1905 ?_
  obtain ⟨r6, σ8, h7, hf⟩ := bd2_x hf
  refine g_callR (st1 := [.int r6]) (cells' := cells + 1) (slots' := slots + 6) M (g_invV (R := room_1) (index := 267) (cells := cells + 1) (slots := slots + 6) S M C0 hl (c_X13_parcelsIn l G H.size lo3 dd4 σ2 (xs (i + 1).toNatClampNeg) h7) k_X13_parcelsIn tw_7_174 tw_7_175 tw_7_173 (by decide) (ge_13 rfl) rfl rfl rfl rfl rfl (gRm_mk rfl rfl (by omega) (by omega)) dL_law_1906) rfl rfl rfl (fun H locs M => ?_)
  refine lv_istore (lv' := [(7, .int r6), (6, .int r1), (0, .ref b), (1, .ref (G.1 0)), (2, .ref (G.1 219)), (3, .ref (G.1 228)), (4, .ref (G.1 229)), (5, .int i)]) hx hb dL_law_1909 hl (by decide) rfl (fun ls hl => ?_)
  refine lv_aload_n hx hb dL_law_1911 rfl (lv_at hl 4 rfl) ?_
  obtain ⟨r9, h10, hf⟩ := bd_x hf
  refine g_callR (st1 := [.int r9]) (cells' := cells + 1) (slots' := slots + 6) M (g_invV (R := room_1) (index := 160) (cells := cells + 1) (slots := slots + 6) S M C0 hl (c_X13_thrown l G H.size lo3 dd4 σ8 h10) k_X13_thrown tw_6_160 tw_6_161 tw_6_159 (by decide) (ge_13 rfl) rfl rfl rfl rfl rfl (gRm_mk rfl rfl (by omega) (by omega)) dL_law_1912) rfl rfl rfl (fun H locs M => ?_)
  refine lv_iload hx hb dL_law_1915 (lv_at hl 1 rfl) ?_
  refine lv_icmp_eq (tgt := 1922) hx hb dL_law_1917 (by decide) (fun c11 => ?_) (fun c11 => ?_)
  · have hf := it_p c11 hf
    refine lv_iload hx hb dL_law_1922 (lv_at hl 1 rfl) ?_
    refine lv_if_ne (tgt := 1939) hx hb dL_law_1924 (by decide) (fun c12 => ?_) (fun c12 => ?_)
    · have hf := it_n c12 hf
      refine lv_goto (tgt := 2764) hx hb dL_law_1939 (by decide) ?_
      cases hf
      refine W.widen (k := cells + 3) (n := slots + 18) (by omega) (by omega) ?_
      exact kk _ _ _ M (lv_sub hl [2, 3, 4, 5, 6, 7] rfl)
    · have hf := it_p c12 hf
      refine lv_aload_n hx hb dL_law_1927 rfl (lv_at hl 5 rfl) ?_
      refine lv_iconst (v := 0) hx hb dL_law_1928 (by decide) ?_
      refine g_lald S M dL_law_1929 ?_
      refine lv_iload hx hb dL_law_1930 (lv_at hl 0 rfl) ?_
      refine lv_i2l hx hb dL_law_1932 rfl ?_
      refine W.lcmp hx hb dL_law_1933 ?_
      refine lv_if_eq (tgt := 1939) hx hb dL_law_1934 (by decide) (fun c13 => ?_) (fun c13 => ?_)
      · have hf := it_p c13 hf
        refine lv_goto (tgt := 2764) hx hb dL_law_1939 (by decide) ?_
        cases hf
        refine W.widen (k := cells + 3) (n := slots + 18) (by omega) (by omega) ?_
        exact kk _ _ _ M (lv_sub hl [2, 3, 4, 5, 6, 7] rfl)
      · have hf := it_n c13 hf
        cases hf
  · have hf := it_n c11 hf
    cases hf
set_option maxHeartbeats 400000 in
set_option maxRecDepth 100000 in
theorem t_33 {p : Program} {l : Launch} {e : Env} {s : State} {m : MethodId} {args : Array Value} {below : List Frame} {meth : Method} {c : Code} {Q : State → Prop} {G : gT} {lo : Int64} {dd : UInt64} {σ : gM} {b L : Nat} {xs : Nat → Int32} (hfl : l.stackTraces = false) (S : CallFix p m c cL_law 9 s args gTs "ParcelDepotLaw") (C0 : gCST G (gAA G s.heap.size) s) (hX : va_X b L xs s s.heap) (hbl : b < s.heap.size) (hbA : ¬ gAA G s.heap.size b) {i : Int32} (h1 : vp_in (i + 1) L) (h2 : vp_in (i + 2) L) (h3 : vp_in (i + 3) L) {cells slots : Nat} (hc : cells + 3 ≤ room_1.cells) (hs : slots + 18 ≤ room_1.slots) {o : gM × Int64 × UInt64} (hf : f_T_33 σ lo dd (xs (i + 1).toNatClampNeg) (xs (i + 2).toNatClampNeg) (xs (i + 3).toNatClampNeg) = some o) (H : Heap) (locs : List Loc) (ls : Array Slot) (M : gMS G (gAA G s.heap.size) lo dd σ s H locs) (hl : lv_has ls 9 [(0, .ref b), (1, .ref (G.1 0)), (2, .ref (G.1 219)), (3, .ref (G.1 228)), (4, .ref (G.1 229)), (5, .int i)]) (kk : ∀ (H : Heap) (locs : List Loc) (ls : Array Slot), gMS G (gAA G s.heap.size) o.2.1 o.2.2 o.1 s H locs → lv_has ls 9 [(0, .ref b), (1, .ref (G.1 0)), (2, .ref (G.1 219)), (3, .ref (G.1 228)), (4, .ref (G.1 229)), (5, .int i)] → W p l e room_1 s m args below meth c H locs (cells + 3) (slots + 18) Q (F0 m 2764 ls [])) : W p l e room_1 s m args below meth c H locs cells slots Q (F0 m 1942 ls []) := by
  have hx := S.1
  have hb := S.2.1
  unfold f_T_33 at hf
  refine lv_aload_n hx hb dL_law_1942 rfl (lv_at hl 1 rfl) ?_
  refine lv_aload_n hx hb dL_law_1943 rfl (lv_at hl 0 rfl) ?_
  refine lv_iload hx hb dL_law_1944 (lv_at hl 5 rfl) ?_
  refine lv_iconst (v := 1) hx hb dL_law_1946 (by decide) ?_
  refine lv_iadd hx hb dL_law_1947 ?_
  refine va_sld hx hb hX hbl hbA M.2.2.2 h1 dL_law_1948 ?_
  refine lv_aload_n hx hb dL_law_1949 rfl (lv_at hl 3 rfl) ?_
  obtain ⟨r1, σ2, lo3, dd4, h5, hf⟩ := bd4_x hf
  refine g_callR (st1 := [.int r1]) (cells' := cells + 1) (slots' := slots + 6) M (g_invW (R := room_1) (index := 268) (cells := cells) (slots := slots) S M C0 hl (c_L_mostFitting l hfl G H.size lo dd σ (xs (i + 1).toNatClampNeg) h5) kw_L_mostFitting tw_5_49 tw_5_48 rfl rfl rfl (gRm_mk rfl rfl (by omega) (by omega)) dL_law_1950) rfl rfl rfl (fun H locs M => ?_)
  refine lv_istore (lv' := [(6, .int r1), (0, .ref b), (1, .ref (G.1 0)), (2, .ref (G.1 219)), (3, .ref (G.1 228)), (4, .ref (G.1 229)), (5, .int i)]) hx hb dL_law_1953 hl (by decide) rfl (fun ls hl => ?_)
  refine lv_aload_n hx hb dL_law_1955 rfl (lv_at hl 3 rfl) ?_
  refine lv_aload_n hx hb dL_law_1956 rfl (lv_at hl 1 rfl) ?_
  refine lv_iload hx hb dL_law_1957 (lv_at hl 6 rfl) ?_
  refine lv_iconst (v := 1) hx hb dL_law_1959 (by decide) ?_
  refine lv_iadd hx hb dL_law_1960 ?_
  refine va_sld hx hb hX hbl hbA M.2.2.2 h1 dL_law_1961 ?_
  obtain ⟨r6, σ8, h7, hf⟩ := bd2_x hf
  refine g_callR (st1 := [.int r6]) (cells' := cells + 1) (slots' := slots + 6) M (g_invV (R := room_1) (index := 270) (cells := cells + 1) (slots := slots + 6) S M C0 hl (c_X13_mostFitting l G H.size lo3 dd4 σ2 (xs (i + 1).toNatClampNeg) h7) k_X13_mostFitting tw_7_178 tw_7_179 tw_7_177 (by decide) (ge_13 rfl) rfl rfl rfl rfl rfl (gRm_mk rfl rfl (by omega) (by omega)) dL_law_1962) rfl rfl rfl (fun H locs M => ?_)
  refine lv_istore (lv' := [(7, .int r6), (6, .int r1), (0, .ref b), (1, .ref (G.1 0)), (2, .ref (G.1 219)), (3, .ref (G.1 228)), (4, .ref (G.1 229)), (5, .int i)]) hx hb dL_law_1965 hl (by decide) rfl (fun ls hl => ?_)
  refine lv_aload_n hx hb dL_law_1967 rfl (lv_at hl 4 rfl) ?_
  obtain ⟨r9, h10, hf⟩ := bd_x hf
  refine g_callR (st1 := [.int r9]) (cells' := cells + 1) (slots' := slots + 6) M (g_invV (R := room_1) (index := 160) (cells := cells + 1) (slots := slots + 6) S M C0 hl (c_X13_thrown l G H.size lo3 dd4 σ8 h10) k_X13_thrown tw_6_160 tw_6_161 tw_6_159 (by decide) (ge_13 rfl) rfl rfl rfl rfl rfl (gRm_mk rfl rfl (by omega) (by omega)) dL_law_1968) rfl rfl rfl (fun H locs M => ?_)
  refine lv_iload hx hb dL_law_1971 (lv_at hl 1 rfl) ?_
  refine lv_icmp_eq (tgt := 1978) hx hb dL_law_1973 (by decide) (fun c11 => ?_) (fun c11 => ?_)
  · have hf := it_p c11 hf
    refine lv_iload hx hb dL_law_1978 (lv_at hl 1 rfl) ?_
    refine lv_if_ne (tgt := 1995) hx hb dL_law_1980 (by decide) (fun c12 => ?_) (fun c12 => ?_)
    · have hf := it_n c12 hf
      refine lv_goto (tgt := 2764) hx hb dL_law_1995 (by decide) ?_
      cases hf
      refine W.widen (k := cells + 3) (n := slots + 18) (by omega) (by omega) ?_
      exact kk _ _ _ M (lv_sub hl [2, 3, 4, 5, 6, 7] rfl)
    · have hf := it_p c12 hf
      refine lv_aload_n hx hb dL_law_1983 rfl (lv_at hl 5 rfl) ?_
      refine lv_iconst (v := 0) hx hb dL_law_1984 (by decide) ?_
      refine g_lald S M dL_law_1985 ?_
      refine lv_iload hx hb dL_law_1986 (lv_at hl 0 rfl) ?_
      refine lv_i2l hx hb dL_law_1988 rfl ?_
      refine W.lcmp hx hb dL_law_1989 ?_
      refine lv_if_eq (tgt := 1995) hx hb dL_law_1990 (by decide) (fun c13 => ?_) (fun c13 => ?_)
      · have hf := it_p c13 hf
        refine lv_goto (tgt := 2764) hx hb dL_law_1995 (by decide) ?_
        cases hf
        refine W.widen (k := cells + 3) (n := slots + 18) (by omega) (by omega) ?_
        exact kk _ _ _ M (lv_sub hl [2, 3, 4, 5, 6, 7] rfl)
      · have hf := it_n c13 hf
        cases hf
  · have hf := it_n c11 hf
    cases hf
set_option maxHeartbeats 400000 in
set_option maxRecDepth 100000 in
theorem t_34 {p : Program} {l : Launch} {e : Env} {s : State} {m : MethodId} {args : Array Value} {below : List Frame} {meth : Method} {c : Code} {Q : State → Prop} {G : gT} {lo : Int64} {dd : UInt64} {σ : gM} {b L : Nat} {xs : Nat → Int32} (hfl : l.stackTraces = false) (S : CallFix p m c cL_law 9 s args gTs "ParcelDepotLaw") (C0 : gCST G (gAA G s.heap.size) s) (hX : va_X b L xs s s.heap) (hbl : b < s.heap.size) (hbA : ¬ gAA G s.heap.size b) {i : Int32} (h1 : vp_in (i + 1) L) (h2 : vp_in (i + 2) L) (h3 : vp_in (i + 3) L) {cells slots : Nat} (hc : cells + 3 ≤ room_1.cells) (hs : slots + 18 ≤ room_1.slots) {o : gM × Int64 × UInt64} (hf : f_T_34 σ lo dd (xs (i + 1).toNatClampNeg) (xs (i + 2).toNatClampNeg) (xs (i + 3).toNatClampNeg) = some o) (H : Heap) (locs : List Loc) (ls : Array Slot) (M : gMS G (gAA G s.heap.size) lo dd σ s H locs) (hl : lv_has ls 9 [(0, .ref b), (1, .ref (G.1 0)), (2, .ref (G.1 219)), (3, .ref (G.1 228)), (4, .ref (G.1 229)), (5, .int i)]) (kk : ∀ (H : Heap) (locs : List Loc) (ls : Array Slot), gMS G (gAA G s.heap.size) o.2.1 o.2.2 o.1 s H locs → lv_has ls 9 [(0, .ref b), (1, .ref (G.1 0)), (2, .ref (G.1 219)), (3, .ref (G.1 228)), (4, .ref (G.1 229)), (5, .int i)] → W p l e room_1 s m args below meth c H locs (cells + 3) (slots + 18) Q (F0 m 2764 ls [])) : W p l e room_1 s m args below meth c H locs cells slots Q (F0 m 1998 ls []) := by
  have hx := S.1
  have hb := S.2.1
  unfold f_T_34 at hf
  refine lv_aload_n hx hb dL_law_1998 rfl (lv_at hl 1 rfl) ?_
  refine lv_aload_n hx hb dL_law_1999 rfl (lv_at hl 0 rfl) ?_
  refine lv_iload hx hb dL_law_2000 (lv_at hl 5 rfl) ?_
  refine lv_iconst (v := 1) hx hb dL_law_2002 (by decide) ?_
  refine lv_iadd hx hb dL_law_2003 ?_
  refine va_sld hx hb hX hbl hbA M.2.2.2 h1 dL_law_2004 ?_
  refine lv_aload_n hx hb dL_law_2005 rfl (lv_at hl 3 rfl) ?_
  obtain ⟨r1, σ2, lo3, dd4, h5, hf⟩ := bd4_x hf
  refine g_callR (st1 := [.int r1]) (cells' := cells + 1) (slots' := slots + 6) M (g_invW (R := room_1) (index := 271) (cells := cells) (slots := slots) S M C0 hl (c_L_mostFittingByTable l hfl G H.size lo dd σ (xs (i + 1).toNatClampNeg) h5) kw_L_mostFittingByTable tw_5_56 tw_5_55 rfl rfl rfl (gRm_mk rfl rfl (by omega) (by omega)) dL_law_2006) rfl rfl rfl (fun H locs M => ?_)
  refine lv_istore (lv' := [(6, .int r1), (0, .ref b), (1, .ref (G.1 0)), (2, .ref (G.1 219)), (3, .ref (G.1 228)), (4, .ref (G.1 229)), (5, .int i)]) hx hb dL_law_2009 hl (by decide) rfl (fun ls hl => ?_)
  refine lv_aload_n hx hb dL_law_2011 rfl (lv_at hl 3 rfl) ?_
  refine lv_aload_n hx hb dL_law_2012 rfl (lv_at hl 1 rfl) ?_
  refine lv_iload hx hb dL_law_2013 (lv_at hl 6 rfl) ?_
  refine lv_iconst (v := 1) hx hb dL_law_2015 (by decide) ?_
  refine lv_iadd hx hb dL_law_2016 ?_
  refine va_sld hx hb hX hbl hbA M.2.2.2 h1 dL_law_2017 ?_
  obtain ⟨r6, σ8, h7, hf⟩ := bd2_x hf
  refine g_callR (st1 := [.int r6]) (cells' := cells + 1) (slots' := slots + 6) M (g_invV (R := room_1) (index := 273) (cells := cells + 1) (slots := slots + 6) S M C0 hl (c_X13_mostFittingByTable l G H.size lo3 dd4 σ2 (xs (i + 1).toNatClampNeg) h7) k_X13_mostFittingByTable tw_7_182 tw_7_183 tw_7_181 (by decide) (ge_13 rfl) rfl rfl rfl rfl rfl (gRm_mk rfl rfl (by omega) (by omega)) dL_law_2018) rfl rfl rfl (fun H locs M => ?_)
  refine lv_istore (lv' := [(7, .int r6), (6, .int r1), (0, .ref b), (1, .ref (G.1 0)), (2, .ref (G.1 219)), (3, .ref (G.1 228)), (4, .ref (G.1 229)), (5, .int i)]) hx hb dL_law_2021 hl (by decide) rfl (fun ls hl => ?_)
  refine lv_aload_n hx hb dL_law_2023 rfl (lv_at hl 4 rfl) ?_
  obtain ⟨r9, h10, hf⟩ := bd_x hf
  refine g_callR (st1 := [.int r9]) (cells' := cells + 1) (slots' := slots + 6) M (g_invV (R := room_1) (index := 160) (cells := cells + 1) (slots := slots + 6) S M C0 hl (c_X13_thrown l G H.size lo3 dd4 σ8 h10) k_X13_thrown tw_6_160 tw_6_161 tw_6_159 (by decide) (ge_13 rfl) rfl rfl rfl rfl rfl (gRm_mk rfl rfl (by omega) (by omega)) dL_law_2024) rfl rfl rfl (fun H locs M => ?_)
  refine lv_iload hx hb dL_law_2027 (lv_at hl 1 rfl) ?_
  refine lv_icmp_eq (tgt := 2034) hx hb dL_law_2029 (by decide) (fun c11 => ?_) (fun c11 => ?_)
  · have hf := it_p c11 hf
    refine lv_iload hx hb dL_law_2034 (lv_at hl 1 rfl) ?_
    refine lv_if_ne (tgt := 2051) hx hb dL_law_2036 (by decide) (fun c12 => ?_) (fun c12 => ?_)
    · have hf := it_n c12 hf
      refine lv_goto (tgt := 2764) hx hb dL_law_2051 (by decide) ?_
      cases hf
      refine W.widen (k := cells + 3) (n := slots + 18) (by omega) (by omega) ?_
      exact kk _ _ _ M (lv_sub hl [2, 3, 4, 5, 6, 7] rfl)
    · have hf := it_p c12 hf
      refine lv_aload_n hx hb dL_law_2039 rfl (lv_at hl 5 rfl) ?_
      refine lv_iconst (v := 0) hx hb dL_law_2040 (by decide) ?_
      refine g_lald S M dL_law_2041 ?_
      refine lv_iload hx hb dL_law_2042 (lv_at hl 0 rfl) ?_
      refine lv_i2l hx hb dL_law_2044 rfl ?_
      refine W.lcmp hx hb dL_law_2045 ?_
      refine lv_if_eq (tgt := 2051) hx hb dL_law_2046 (by decide) (fun c13 => ?_) (fun c13 => ?_)
      · have hf := it_p c13 hf
        refine lv_goto (tgt := 2764) hx hb dL_law_2051 (by decide) ?_
        cases hf
        refine W.widen (k := cells + 3) (n := slots + 18) (by omega) (by omega) ?_
        exact kk _ _ _ M (lv_sub hl [2, 3, 4, 5, 6, 7] rfl)
      · have hf := it_n c13 hf
        cases hf
  · have hf := it_n c11 hf
    cases hf
set_option maxHeartbeats 400000 in
set_option maxRecDepth 100000 in
theorem t_35 {p : Program} {l : Launch} {e : Env} {s : State} {m : MethodId} {args : Array Value} {below : List Frame} {meth : Method} {c : Code} {Q : State → Prop} {G : gT} {lo : Int64} {dd : UInt64} {σ : gM} {b L : Nat} {xs : Nat → Int32} (hfl : l.stackTraces = false) (S : CallFix p m c cL_law 9 s args gTs "ParcelDepotLaw") (C0 : gCST G (gAA G s.heap.size) s) (hX : va_X b L xs s s.heap) (hbl : b < s.heap.size) (hbA : ¬ gAA G s.heap.size b) {i : Int32} (h1 : vp_in (i + 1) L) (h2 : vp_in (i + 2) L) (h3 : vp_in (i + 3) L) {cells slots : Nat} (hc : cells + 3 ≤ room_1.cells) (hs : slots + 18 ≤ room_1.slots) {o : gM × Int64 × UInt64} (hf : f_T_35 σ lo dd (xs (i + 1).toNatClampNeg) (xs (i + 2).toNatClampNeg) (xs (i + 3).toNatClampNeg) = some o) (H : Heap) (locs : List Loc) (ls : Array Slot) (M : gMS G (gAA G s.heap.size) lo dd σ s H locs) (hl : lv_has ls 9 [(0, .ref b), (1, .ref (G.1 0)), (2, .ref (G.1 219)), (3, .ref (G.1 228)), (4, .ref (G.1 229)), (5, .int i)]) (kk : ∀ (H : Heap) (locs : List Loc) (ls : Array Slot), gMS G (gAA G s.heap.size) o.2.1 o.2.2 o.1 s H locs → lv_has ls 9 [(0, .ref b), (1, .ref (G.1 0)), (2, .ref (G.1 219)), (3, .ref (G.1 228)), (4, .ref (G.1 229)), (5, .int i)] → W p l e room_1 s m args below meth c H locs (cells + 3) (slots + 18) Q (F0 m 2764 ls [])) : W p l e room_1 s m args below meth c H locs cells slots Q (F0 m 2054 ls []) := by
  have hx := S.1
  have hb := S.2.1
  unfold f_T_35 at hf
  refine lv_aload_n hx hb dL_law_2054 rfl (lv_at hl 1 rfl) ?_
  refine lv_aload_n hx hb dL_law_2055 rfl (lv_at hl 0 rfl) ?_
  refine lv_iload hx hb dL_law_2056 (lv_at hl 5 rfl) ?_
  refine lv_iconst (v := 1) hx hb dL_law_2058 (by decide) ?_
  refine lv_iadd hx hb dL_law_2059 ?_
  refine va_sld hx hb hX hbl hbA M.2.2.2 h1 dL_law_2060 ?_
  refine lv_aload_n hx hb dL_law_2061 rfl (lv_at hl 0 rfl) ?_
  refine lv_iload hx hb dL_law_2062 (lv_at hl 5 rfl) ?_
  refine lv_iconst (v := 2) hx hb dL_law_2064 (by decide) ?_
  refine lv_iadd hx hb dL_law_2065 ?_
  refine va_sld hx hb hX hbl hbA M.2.2.2 h2 dL_law_2066 ?_
  refine lv_aload_n hx hb dL_law_2067 rfl (lv_at hl 3 rfl) ?_
  obtain ⟨r1, σ2, lo3, dd4, h5, hf⟩ := bd4_x hf
  refine g_callR (st1 := [.int r1]) (cells' := cells + 3) (slots' := slots + 18) M (g_invW (R := room_1) (index := 274) (cells := cells) (slots := slots) S M C0 hl (c_L_effortTo l hfl G H.size lo dd σ (xs (i + 1).toNatClampNeg) (xs (i + 2).toNatClampNeg) h5) kw_L_effortTo tw_5_63 tw_5_62 rfl rfl rfl (gRm_mk rfl rfl (by omega) (by omega)) dL_law_2068) rfl rfl rfl (fun H locs M => ?_)
  refine lv_istore (lv' := [(6, .int r1), (0, .ref b), (1, .ref (G.1 0)), (2, .ref (G.1 219)), (3, .ref (G.1 228)), (4, .ref (G.1 229)), (5, .int i)]) hx hb dL_law_2071 hl (by decide) rfl (fun ls hl => ?_)
  refine lv_aload_n hx hb dL_law_2073 rfl (lv_at hl 3 rfl) ?_
  refine lv_aload_n hx hb dL_law_2074 rfl (lv_at hl 1 rfl) ?_
  refine lv_iload hx hb dL_law_2075 (lv_at hl 6 rfl) ?_
  refine lv_iconst (v := 1) hx hb dL_law_2077 (by decide) ?_
  refine lv_iadd hx hb dL_law_2078 ?_
  refine va_sld hx hb hX hbl hbA M.2.2.2 h1 dL_law_2079 ?_
  refine lv_aload_n hx hb dL_law_2080 rfl (lv_at hl 1 rfl) ?_
  refine lv_iload hx hb dL_law_2081 (lv_at hl 6 rfl) ?_
  refine lv_iconst (v := 2) hx hb dL_law_2083 (by decide) ?_
  refine lv_iadd hx hb dL_law_2084 ?_
  refine va_sld hx hb hX hbl hbA M.2.2.2 h2 dL_law_2085 ?_
  obtain ⟨r6, σ8, h7, hf⟩ := bd2_x hf
  refine g_callR (st1 := [.int r6]) (cells' := cells + 3) (slots' := slots + 18) M (g_invV (R := room_1) (index := 276) (cells := cells + 3) (slots := slots + 18) S M C0 hl (c_X13_effortTo l G H.size lo3 dd4 σ2 (xs (i + 1).toNatClampNeg) (xs (i + 2).toNatClampNeg) h7) k_X13_effortTo tw_7_187 tw_7_188 tw_7_186 (by decide) (ge_13 rfl) rfl rfl rfl rfl rfl (gRm_mk rfl rfl (by omega) (by omega)) dL_law_2086) rfl rfl rfl (fun H locs M => ?_)
  refine lv_istore (lv' := [(7, .int r6), (6, .int r1), (0, .ref b), (1, .ref (G.1 0)), (2, .ref (G.1 219)), (3, .ref (G.1 228)), (4, .ref (G.1 229)), (5, .int i)]) hx hb dL_law_2089 hl (by decide) rfl (fun ls hl => ?_)
  refine lv_aload_n hx hb dL_law_2091 rfl (lv_at hl 4 rfl) ?_
  obtain ⟨r9, h10, hf⟩ := bd_x hf
  refine g_callR (st1 := [.int r9]) (cells' := cells + 3) (slots' := slots + 18) M (g_invV (R := room_1) (index := 160) (cells := cells + 3) (slots := slots + 18) S M C0 hl (c_X13_thrown l G H.size lo3 dd4 σ8 h10) k_X13_thrown tw_6_160 tw_6_161 tw_6_159 (by decide) (ge_13 rfl) rfl rfl rfl rfl rfl (gRm_mk rfl rfl (by omega) (by omega)) dL_law_2092) rfl rfl rfl (fun H locs M => ?_)
  refine lv_iload hx hb dL_law_2095 (lv_at hl 1 rfl) ?_
  refine lv_icmp_eq (tgt := 2102) hx hb dL_law_2097 (by decide) (fun c11 => ?_) (fun c11 => ?_)
  · have hf := it_p c11 hf
    refine lv_iload hx hb dL_law_2102 (lv_at hl 1 rfl) ?_
    refine lv_if_ne (tgt := 2119) hx hb dL_law_2104 (by decide) (fun c12 => ?_) (fun c12 => ?_)
    · have hf := it_n c12 hf
      refine lv_goto (tgt := 2764) hx hb dL_law_2119 (by decide) ?_
      cases hf
      refine W.widen (k := cells + 3) (n := slots + 18) (by omega) (by omega) ?_
      exact kk _ _ _ M (lv_sub hl [2, 3, 4, 5, 6, 7] rfl)
    · have hf := it_p c12 hf
      refine lv_aload_n hx hb dL_law_2107 rfl (lv_at hl 5 rfl) ?_
      refine lv_iconst (v := 0) hx hb dL_law_2108 (by decide) ?_
      refine g_lald S M dL_law_2109 ?_
      refine lv_iload hx hb dL_law_2110 (lv_at hl 0 rfl) ?_
      refine lv_i2l hx hb dL_law_2112 rfl ?_
      refine W.lcmp hx hb dL_law_2113 ?_
      refine lv_if_eq (tgt := 2119) hx hb dL_law_2114 (by decide) (fun c13 => ?_) (fun c13 => ?_)
      · have hf := it_p c13 hf
        refine lv_goto (tgt := 2764) hx hb dL_law_2119 (by decide) ?_
        cases hf
        refine W.widen (k := cells + 3) (n := slots + 18) (by omega) (by omega) ?_
        exact kk _ _ _ M (lv_sub hl [2, 3, 4, 5, 6, 7] rfl)
      · have hf := it_n c13 hf
        cases hf
  · have hf := it_n c11 hf
    cases hf
set_option maxHeartbeats 400000 in
set_option maxRecDepth 100000 in
theorem t_36 {p : Program} {l : Launch} {e : Env} {s : State} {m : MethodId} {args : Array Value} {below : List Frame} {meth : Method} {c : Code} {Q : State → Prop} {G : gT} {lo : Int64} {dd : UInt64} {σ : gM} {b L : Nat} {xs : Nat → Int32} (hfl : l.stackTraces = false) (S : CallFix p m c cL_law 9 s args gTs "ParcelDepotLaw") (C0 : gCST G (gAA G s.heap.size) s) (hX : va_X b L xs s s.heap) (hbl : b < s.heap.size) (hbA : ¬ gAA G s.heap.size b) {i : Int32} (h1 : vp_in (i + 1) L) (h2 : vp_in (i + 2) L) (h3 : vp_in (i + 3) L) {cells slots : Nat} (hc : cells + 3 ≤ room_1.cells) (hs : slots + 18 ≤ room_1.slots) {o : gM × Int64 × UInt64} (hf : f_T_36 σ lo dd (xs (i + 1).toNatClampNeg) (xs (i + 2).toNatClampNeg) (xs (i + 3).toNatClampNeg) = some o) (H : Heap) (locs : List Loc) (ls : Array Slot) (M : gMS G (gAA G s.heap.size) lo dd σ s H locs) (hl : lv_has ls 9 [(0, .ref b), (1, .ref (G.1 0)), (2, .ref (G.1 219)), (3, .ref (G.1 228)), (4, .ref (G.1 229)), (5, .int i)]) (kk : ∀ (H : Heap) (locs : List Loc) (ls : Array Slot), gMS G (gAA G s.heap.size) o.2.1 o.2.2 o.1 s H locs → lv_has ls 9 [(0, .ref b), (1, .ref (G.1 0)), (2, .ref (G.1 219)), (3, .ref (G.1 228)), (4, .ref (G.1 229)), (5, .int i)] → W p l e room_1 s m args below meth c H locs (cells + 3) (slots + 18) Q (F0 m 2764 ls [])) : W p l e room_1 s m args below meth c H locs cells slots Q (F0 m 2122 ls []) := by
  have hx := S.1
  have hb := S.2.1
  unfold f_T_36 at hf
  refine lv_aload_n hx hb dL_law_2122 rfl (lv_at hl 1 rfl) ?_
  obtain ⟨r1, h2, hf⟩ := bd_x hf
  refine g_callR (st1 := [.int r1]) (cells' := cells + 0) (slots' := slots + 0) M (g_invV (R := room_1) (index := 277) (cells := cells + 0) (slots := slots + 0) S M C0 hl (c_X12_effortSoFar l G H.size lo dd σ h2) k_X12_effortSoFar tw_2_102 tw_2_103 tw_2_101 (by decide) (ge_0 rfl) rfl rfl rfl rfl rfl (gRm_mk rfl rfl (by omega) (by omega)) dL_law_2123) rfl rfl rfl (fun H locs M => ?_)
  refine lv_aload_n hx hb dL_law_2126 rfl (lv_at hl 2 rfl) ?_
  obtain ⟨r3, σ5, h4, hf⟩ := bd2_x hf
  refine g_callR (st1 := [.int r3, .int r1]) (cells' := cells + 0) (slots' := slots + 0) M (g_invV (R := room_1) (index := 280) (cells := cells + 0) (slots := slots + 0) S M C0 hl (c_X13_effortSoFar l G H.size lo dd σ h4) k_X13_effortSoFar tw_7_191 tw_7_192 tw_7_190 (by decide) (ge_13 rfl) rfl rfl rfl rfl rfl (gRm_mk rfl rfl (by omega) (by omega)) dL_law_2127) rfl rfl rfl (fun H locs M => ?_)
  refine lv_icmp_eq (tgt := 2764) hx hb dL_law_2130 (by decide) (fun c6 => ?_) (fun c6 => ?_)
  · have hf := it_p c6 hf
    cases hf
    refine W.widen (k := cells + 3) (n := slots + 18) (by omega) (by omega) ?_
    exact kk _ _ _ M (lv_sub hl [0, 1, 2, 3, 4, 5] rfl)
  · have hf := it_n c6 hf
    cases hf
set_option maxHeartbeats 400000 in
set_option maxRecDepth 100000 in
theorem t_37 {p : Program} {l : Launch} {e : Env} {s : State} {m : MethodId} {args : Array Value} {below : List Frame} {meth : Method} {c : Code} {Q : State → Prop} {G : gT} {lo : Int64} {dd : UInt64} {σ : gM} {b L : Nat} {xs : Nat → Int32} (hfl : l.stackTraces = false) (S : CallFix p m c cL_law 9 s args gTs "ParcelDepotLaw") (C0 : gCST G (gAA G s.heap.size) s) (hX : va_X b L xs s s.heap) (hbl : b < s.heap.size) (hbA : ¬ gAA G s.heap.size b) {i : Int32} (h1 : vp_in (i + 1) L) (h2 : vp_in (i + 2) L) (h3 : vp_in (i + 3) L) {cells slots : Nat} (hc : cells + 3 ≤ room_1.cells) (hs : slots + 18 ≤ room_1.slots) {o : gM × Int64 × UInt64} (hf : f_T_37 σ lo dd (xs (i + 1).toNatClampNeg) (xs (i + 2).toNatClampNeg) (xs (i + 3).toNatClampNeg) = some o) (H : Heap) (locs : List Loc) (ls : Array Slot) (M : gMS G (gAA G s.heap.size) lo dd σ s H locs) (hl : lv_has ls 9 [(0, .ref b), (1, .ref (G.1 0)), (2, .ref (G.1 219)), (3, .ref (G.1 228)), (4, .ref (G.1 229)), (5, .int i)]) (kk : ∀ (H : Heap) (locs : List Loc) (ls : Array Slot), gMS G (gAA G s.heap.size) o.2.1 o.2.2 o.1 s H locs → lv_has ls 9 [(0, .ref b), (1, .ref (G.1 0)), (2, .ref (G.1 219)), (3, .ref (G.1 228)), (4, .ref (G.1 229)), (5, .int i)] → W p l e room_1 s m args below meth c H locs (cells + 3) (slots + 18) Q (F0 m 2764 ls [])) : W p l e room_1 s m args below meth c H locs cells slots Q (F0 m 2135 ls []) := by
  have hx := S.1
  have hb := S.2.1
  unfold f_T_37 at hf
  refine lv_aload_n hx hb dL_law_2135 rfl (lv_at hl 1 rfl) ?_
  obtain ⟨r1, h2, hf⟩ := bd_x hf
  refine g_callR (st1 := [.int r1]) (cells' := cells + 0) (slots' := slots + 0) M (g_invV (R := room_1) (index := 281) (cells := cells + 0) (slots := slots + 0) S M C0 hl (c_X12_glovesUsedUp l G H.size lo dd σ h2) k_X12_glovesUsedUp tw_2_110 tw_2_111 tw_2_109 (by decide) (ge_0 rfl) rfl rfl rfl rfl rfl (gRm_mk rfl rfl (by omega) (by omega)) dL_law_2136) rfl rfl rfl (fun H locs M => ?_)
  refine lv_aload_n hx hb dL_law_2139 rfl (lv_at hl 2 rfl) ?_
  obtain ⟨r3, σ5, h4, hf⟩ := bd2_x hf
  refine g_callR (st1 := [.int r3, .int r1]) (cells' := cells + 0) (slots' := slots + 0) M (g_invV (R := room_1) (index := 284) (cells := cells + 0) (slots := slots + 0) S M C0 hl (c_X13_glovesUsedUp l G H.size lo dd σ h4) k_X13_glovesUsedUp tw_7_195 tw_7_196 tw_7_194 (by decide) (ge_13 rfl) rfl rfl rfl rfl rfl (gRm_mk rfl rfl (by omega) (by omega)) dL_law_2140) rfl rfl rfl (fun H locs M => ?_)
  refine lv_icmp_eq (tgt := 2764) hx hb dL_law_2143 (by decide) (fun c6 => ?_) (fun c6 => ?_)
  · have hf := it_p c6 hf
    cases hf
    refine W.widen (k := cells + 3) (n := slots + 18) (by omega) (by omega) ?_
    exact kk _ _ _ M (lv_sub hl [0, 1, 2, 3, 4, 5] rfl)
  · have hf := it_n c6 hf
    cases hf
set_option maxHeartbeats 400000 in
set_option maxRecDepth 100000 in
theorem t_38 {p : Program} {l : Launch} {e : Env} {s : State} {m : MethodId} {args : Array Value} {below : List Frame} {meth : Method} {c : Code} {Q : State → Prop} {G : gT} {lo : Int64} {dd : UInt64} {σ : gM} {b L : Nat} {xs : Nat → Int32} (hfl : l.stackTraces = false) (S : CallFix p m c cL_law 9 s args gTs "ParcelDepotLaw") (C0 : gCST G (gAA G s.heap.size) s) (hX : va_X b L xs s s.heap) (hbl : b < s.heap.size) (hbA : ¬ gAA G s.heap.size b) {i : Int32} (h1 : vp_in (i + 1) L) (h2 : vp_in (i + 2) L) (h3 : vp_in (i + 3) L) {cells slots : Nat} (hc : cells + 3 ≤ room_1.cells) (hs : slots + 18 ≤ room_1.slots) {o : gM × Int64 × UInt64} (hf : f_T_38 σ lo dd (xs (i + 1).toNatClampNeg) (xs (i + 2).toNatClampNeg) (xs (i + 3).toNatClampNeg) = some o) (H : Heap) (locs : List Loc) (ls : Array Slot) (M : gMS G (gAA G s.heap.size) lo dd σ s H locs) (hl : lv_has ls 9 [(0, .ref b), (1, .ref (G.1 0)), (2, .ref (G.1 219)), (3, .ref (G.1 228)), (4, .ref (G.1 229)), (5, .int i)]) (kk : ∀ (H : Heap) (locs : List Loc) (ls : Array Slot), gMS G (gAA G s.heap.size) o.2.1 o.2.2 o.1 s H locs → lv_has ls 9 [(0, .ref b), (1, .ref (G.1 0)), (2, .ref (G.1 219)), (3, .ref (G.1 228)), (4, .ref (G.1 229)), (5, .int i)] → W p l e room_1 s m args below meth c H locs (cells + 3) (slots + 18) Q (F0 m 2764 ls [])) : W p l e room_1 s m args below meth c H locs cells slots Q (F0 m 2148 ls []) := by
  have hx := S.1
  have hb := S.2.1
  unfold f_T_38 at hf
  refine lv_aload_n hx hb dL_law_2148 rfl (lv_at hl 1 rfl) ?_
  refine lv_aload_n hx hb dL_law_2149 rfl (lv_at hl 0 rfl) ?_
  refine lv_iload hx hb dL_law_2150 (lv_at hl 5 rfl) ?_
  refine lv_iconst (v := 1) hx hb dL_law_2152 (by decide) ?_
  refine lv_iadd hx hb dL_law_2153 ?_
  refine va_sld hx hb hX hbl hbA M.2.2.2 h1 dL_law_2154 ?_
  refine lv_aload_n hx hb dL_law_2155 rfl (lv_at hl 3 rfl) ?_
  obtain ⟨r1, σ2, lo3, dd4, h5, hf⟩ := bd4_x hf
  refine g_callR (st1 := [.int r1]) (cells' := cells + 1) (slots' := slots + 6) M (g_invW (R := room_1) (index := 285) (cells := cells) (slots := slots) S M C0 hl (c_L_heaviest l hfl G H.size lo dd σ (xs (i + 1).toNatClampNeg) h5) kw_L_heaviest tw_5_74 tw_5_73 rfl rfl rfl (gRm_mk rfl rfl (by omega) (by omega)) dL_law_2156) rfl rfl rfl (fun H locs M => ?_)
  refine lv_istore (lv' := [(6, .int r1), (0, .ref b), (1, .ref (G.1 0)), (2, .ref (G.1 219)), (3, .ref (G.1 228)), (4, .ref (G.1 229)), (5, .int i)]) hx hb dL_law_2159 hl (by decide) rfl (fun ls hl => ?_)
  refine lv_aload_n hx hb dL_law_2161 rfl (lv_at hl 3 rfl) ?_
  refine lv_aload_n hx hb dL_law_2162 rfl (lv_at hl 1 rfl) ?_
  refine lv_iload hx hb dL_law_2163 (lv_at hl 6 rfl) ?_
  refine lv_iconst (v := 1) hx hb dL_law_2165 (by decide) ?_
  refine lv_iadd hx hb dL_law_2166 ?_
  refine va_sld hx hb hX hbl hbA M.2.2.2 h1 dL_law_2167 ?_
  obtain ⟨r6, σ8, h7, hf⟩ := bd2_x hf
  refine g_callR (st1 := [.int r6]) (cells' := cells + 1) (slots' := slots + 6) M (g_invV (R := room_1) (index := 287) (cells := cells + 1) (slots := slots + 6) S M C0 hl (c_X13_heaviest l G H.size lo3 dd4 σ2 (xs (i + 1).toNatClampNeg) h7) k_X13_heaviest tw_7_199 tw_7_200 tw_7_198 (by decide) (ge_13 rfl) rfl rfl rfl rfl rfl (gRm_mk rfl rfl (by omega) (by omega)) dL_law_2168) rfl rfl rfl (fun H locs M => ?_)
  refine lv_istore (lv' := [(7, .int r6), (6, .int r1), (0, .ref b), (1, .ref (G.1 0)), (2, .ref (G.1 219)), (3, .ref (G.1 228)), (4, .ref (G.1 229)), (5, .int i)]) hx hb dL_law_2171 hl (by decide) rfl (fun ls hl => ?_)
  refine lv_aload_n hx hb dL_law_2173 rfl (lv_at hl 4 rfl) ?_
  obtain ⟨r9, h10, hf⟩ := bd_x hf
  refine g_callR (st1 := [.int r9]) (cells' := cells + 1) (slots' := slots + 6) M (g_invV (R := room_1) (index := 160) (cells := cells + 1) (slots := slots + 6) S M C0 hl (c_X13_thrown l G H.size lo3 dd4 σ8 h10) k_X13_thrown tw_6_160 tw_6_161 tw_6_159 (by decide) (ge_13 rfl) rfl rfl rfl rfl rfl (gRm_mk rfl rfl (by omega) (by omega)) dL_law_2174) rfl rfl rfl (fun H locs M => ?_)
  refine lv_iload hx hb dL_law_2177 (lv_at hl 1 rfl) ?_
  refine lv_icmp_eq (tgt := 2184) hx hb dL_law_2179 (by decide) (fun c11 => ?_) (fun c11 => ?_)
  · have hf := it_p c11 hf
    refine lv_iload hx hb dL_law_2184 (lv_at hl 1 rfl) ?_
    refine lv_if_ne (tgt := 2201) hx hb dL_law_2186 (by decide) (fun c12 => ?_) (fun c12 => ?_)
    · have hf := it_n c12 hf
      refine lv_goto (tgt := 2764) hx hb dL_law_2201 (by decide) ?_
      cases hf
      refine W.widen (k := cells + 3) (n := slots + 18) (by omega) (by omega) ?_
      exact kk _ _ _ M (lv_sub hl [2, 3, 4, 5, 6, 7] rfl)
    · have hf := it_p c12 hf
      refine lv_aload_n hx hb dL_law_2189 rfl (lv_at hl 5 rfl) ?_
      refine lv_iconst (v := 0) hx hb dL_law_2190 (by decide) ?_
      refine g_lald S M dL_law_2191 ?_
      refine lv_iload hx hb dL_law_2192 (lv_at hl 0 rfl) ?_
      refine lv_i2l hx hb dL_law_2194 rfl ?_
      refine W.lcmp hx hb dL_law_2195 ?_
      refine lv_if_eq (tgt := 2201) hx hb dL_law_2196 (by decide) (fun c13 => ?_) (fun c13 => ?_)
      · have hf := it_p c13 hf
        refine lv_goto (tgt := 2764) hx hb dL_law_2201 (by decide) ?_
        cases hf
        refine W.widen (k := cells + 3) (n := slots + 18) (by omega) (by omega) ?_
        exact kk _ _ _ M (lv_sub hl [2, 3, 4, 5, 6, 7] rfl)
      · have hf := it_n c13 hf
        cases hf
  · have hf := it_n c11 hf
    cases hf
set_option maxHeartbeats 400000 in
set_option maxRecDepth 100000 in
theorem t_39 {p : Program} {l : Launch} {e : Env} {s : State} {m : MethodId} {args : Array Value} {below : List Frame} {meth : Method} {c : Code} {Q : State → Prop} {G : gT} {lo : Int64} {dd : UInt64} {σ : gM} {b L : Nat} {xs : Nat → Int32} (hfl : l.stackTraces = false) (S : CallFix p m c cL_law 9 s args gTs "ParcelDepotLaw") (C0 : gCST G (gAA G s.heap.size) s) (hX : va_X b L xs s s.heap) (hbl : b < s.heap.size) (hbA : ¬ gAA G s.heap.size b) {i : Int32} (h1 : vp_in (i + 1) L) (h2 : vp_in (i + 2) L) (h3 : vp_in (i + 3) L) {cells slots : Nat} (hc : cells + 3 ≤ room_1.cells) (hs : slots + 18 ≤ room_1.slots) {o : gM × Int64 × UInt64} (hf : f_T_39 σ lo dd (xs (i + 1).toNatClampNeg) (xs (i + 2).toNatClampNeg) (xs (i + 3).toNatClampNeg) = some o) (H : Heap) (locs : List Loc) (ls : Array Slot) (M : gMS G (gAA G s.heap.size) lo dd σ s H locs) (hl : lv_has ls 9 [(0, .ref b), (1, .ref (G.1 0)), (2, .ref (G.1 219)), (3, .ref (G.1 228)), (4, .ref (G.1 229)), (5, .int i)]) (kk : ∀ (H : Heap) (locs : List Loc) (ls : Array Slot), gMS G (gAA G s.heap.size) o.2.1 o.2.2 o.1 s H locs → lv_has ls 9 [(0, .ref b), (1, .ref (G.1 0)), (2, .ref (G.1 219)), (3, .ref (G.1 228)), (4, .ref (G.1 229)), (5, .int i)] → W p l e room_1 s m args below meth c H locs (cells + 3) (slots + 18) Q (F0 m 2764 ls [])) : W p l e room_1 s m args below meth c H locs cells slots Q (F0 m 2204 ls []) := by
  have hx := S.1
  have hb := S.2.1
  unfold f_T_39 at hf
  refine lv_aload_n hx hb dL_law_2204 rfl (lv_at hl 1 rfl) ?_
  refine lv_aload hx hb dL_law_2205 (lv_at hl 4 rfl) ?_
  obtain ⟨r1, σ2, lo3, dd4, h5, hf⟩ := bd4_x hf
  refine g_callR (st1 := [.int r1]) (cells' := cells + 1) (slots' := slots + 6) M (g_invW (R := room_1) (index := 288) (cells := cells) (slots := slots) S M C0 hl (c_L_meanHazard l hfl G H.size lo dd σ h5) kw_L_meanHazard tw_5_93 tw_5_92 rfl rfl rfl (gRm_mk rfl rfl (by omega) (by omega)) dL_law_2207) rfl rfl rfl (fun H locs M => ?_)
  refine lv_istore (lv' := [(6, .int r1), (0, .ref b), (1, .ref (G.1 0)), (2, .ref (G.1 219)), (3, .ref (G.1 228)), (4, .ref (G.1 229)), (5, .int i)]) hx hb dL_law_2210 hl (by decide) rfl (fun ls hl => ?_)
  refine lv_aload_n hx hb dL_law_2212 rfl (lv_at hl 3 rfl) ?_
  obtain ⟨r6, σ8, h7, hf⟩ := bd2_x hf
  refine g_callR (st1 := [.double r6]) (cells' := cells + 1) (slots' := slots + 6) M (g_invV (R := room_1) (index := 291) (cells := cells + 1) (slots := slots + 6) S M C0 hl (c_X13_meanHazard l G H.size lo3 dd4 σ2 h7) k_X13_meanHazard tw_7_211 tw_7_212 tw_7_210 (by decide) (ge_13 rfl) rfl rfl rfl rfl rfl (gRm_mk rfl rfl (by omega) (by omega)) dL_law_2213) rfl rfl rfl (fun H locs M => ?_)
  refine lv_dstore (lv' := [(7, .double r6), (6, .int r1), (0, .ref b), (1, .ref (G.1 0)), (2, .ref (G.1 219)), (3, .ref (G.1 228)), (4, .ref (G.1 229)), (5, .int i)]) hx hb dL_law_2216 hl (by decide) rfl (fun ls hl => ?_)
  refine lv_aload_n hx hb dL_law_2218 rfl (lv_at hl 4 rfl) ?_
  obtain ⟨r9, h10, hf⟩ := bd_x hf
  refine g_callR (st1 := [.int r9]) (cells' := cells + 1) (slots' := slots + 6) M (g_invV (R := room_1) (index := 160) (cells := cells + 1) (slots := slots + 6) S M C0 hl (c_X13_thrown l G H.size lo3 dd4 σ8 h10) k_X13_thrown tw_6_160 tw_6_161 tw_6_159 (by decide) (ge_13 rfl) rfl rfl rfl rfl rfl (gRm_mk rfl rfl (by omega) (by omega)) dL_law_2219) rfl rfl rfl (fun H locs M => ?_)
  refine lv_iload hx hb dL_law_2222 (lv_at hl 1 rfl) ?_
  refine lv_icmp_eq (tgt := 2229) hx hb dL_law_2224 (by decide) (fun c11 => ?_) (fun c11 => ?_)
  · have hf := it_p c11 hf
    refine lv_iload hx hb dL_law_2229 (lv_at hl 1 rfl) ?_
    refine lv_if_ne (tgt := 2266) hx hb dL_law_2231 (by decide) (fun c12 => ?_) (fun c12 => ?_)
    · have hf := it_n c12 hf
      refine lv_goto (tgt := 2764) hx hb dL_law_2266 (by decide) ?_
      cases hf
      refine W.widen (k := cells + 3) (n := slots + 18) (by omega) (by omega) ?_
      exact kk _ _ _ M (lv_sub hl [2, 3, 4, 5, 6, 7] rfl)
    · have hf := it_p c12 hf
      refine lv_aload hx hb dL_law_2234 (lv_at hl 6 rfl) ?_
      refine lv_iconst (v := 0) hx hb dL_law_2236 (by decide) ?_
      refine g_dald S M dL_law_2237 ?_
      refine lv_dload hx hb dL_law_2238 (lv_at hl 0 rfl) ?_
      refine lv_dcmp hx hb dL_law_2240 ?_
      refine lv_if_eq (tgt := 2266) hx hb dL_law_2241 (by decide) (fun c13 => ?_) (fun c13 => ?_)
      · have hf := it_p c13 hf
        refine lv_goto (tgt := 2764) hx hb dL_law_2266 (by decide) ?_
        cases hf
        refine W.widen (k := cells + 3) (n := slots + 18) (by omega) (by omega) ?_
        exact kk _ _ _ M (lv_sub hl [2, 3, 4, 5, 6, 7] rfl)
      · have hf := it_n c13 hf
        refine lv_aload hx hb dL_law_2244 (lv_at hl 6 rfl) ?_
        refine lv_iconst (v := 0) hx hb dL_law_2246 (by decide) ?_
        refine g_dald S M dL_law_2247 ?_
        refine lv_aload hx hb dL_law_2248 (lv_at hl 6 rfl) ?_
        refine lv_iconst (v := 0) hx hb dL_law_2250 (by decide) ?_
        refine g_dald S M dL_law_2251 ?_
        refine lv_dcmp hx hb dL_law_2252 ?_
        refine lv_if_eq (tgt := 2264) hx hb dL_law_2253 (by decide) (fun c14 => ?_) (fun c14 => ?_)
        · have hf := it_p c14 hf
          cases hf
        · have hf := it_n c14 hf
          refine lv_dload hx hb dL_law_2256 (lv_at hl 0 rfl) ?_
          refine lv_dload hx hb dL_law_2258 (lv_at hl 0 rfl) ?_
          refine lv_dcmp hx hb dL_law_2260 ?_
          refine lv_if_ne (tgt := 2266) hx hb dL_law_2261 (by decide) (fun c15 => ?_) (fun c15 => ?_)
          · have hf := it_n c15 hf
            refine lv_goto (tgt := 2764) hx hb dL_law_2266 (by decide) ?_
            cases hf
            refine W.widen (k := cells + 3) (n := slots + 18) (by omega) (by omega) ?_
            exact kk _ _ _ M (lv_sub hl [2, 3, 4, 5, 6, 7] rfl)
          · have hf := it_p c15 hf
            cases hf
  · have hf := it_n c11 hf
    cases hf
set_option maxHeartbeats 400000 in
set_option maxRecDepth 100000 in
theorem t_40 {p : Program} {l : Launch} {e : Env} {s : State} {m : MethodId} {args : Array Value} {below : List Frame} {meth : Method} {c : Code} {Q : State → Prop} {G : gT} {lo : Int64} {dd : UInt64} {σ : gM} {b L : Nat} {xs : Nat → Int32} (hfl : l.stackTraces = false) (S : CallFix p m c cL_law 9 s args gTs "ParcelDepotLaw") (C0 : gCST G (gAA G s.heap.size) s) (hX : va_X b L xs s s.heap) (hbl : b < s.heap.size) (hbA : ¬ gAA G s.heap.size b) {i : Int32} (h1 : vp_in (i + 1) L) (h2 : vp_in (i + 2) L) (h3 : vp_in (i + 3) L) {cells slots : Nat} (hc : cells + 3 ≤ room_1.cells) (hs : slots + 18 ≤ room_1.slots) {o : gM × Int64 × UInt64} (hf : f_T_40 σ lo dd (xs (i + 1).toNatClampNeg) (xs (i + 2).toNatClampNeg) (xs (i + 3).toNatClampNeg) = some o) (H : Heap) (locs : List Loc) (ls : Array Slot) (M : gMS G (gAA G s.heap.size) lo dd σ s H locs) (hl : lv_has ls 9 [(0, .ref b), (1, .ref (G.1 0)), (2, .ref (G.1 219)), (3, .ref (G.1 228)), (4, .ref (G.1 229)), (5, .int i)]) (kk : ∀ (H : Heap) (locs : List Loc) (ls : Array Slot), gMS G (gAA G s.heap.size) o.2.1 o.2.2 o.1 s H locs → lv_has ls 9 [(0, .ref b), (1, .ref (G.1 0)), (2, .ref (G.1 219)), (3, .ref (G.1 228)), (4, .ref (G.1 229)), (5, .int i)] → W p l e room_1 s m args below meth c H locs (cells + 3) (slots + 18) Q (F0 m 2764 ls [])) : W p l e room_1 s m args below meth c H locs cells slots Q (F0 m 2269 ls []) := by
  have hx := S.1
  have hb := S.2.1
  unfold f_T_40 at hf
  refine lv_aload_n hx hb dL_law_2269 rfl (lv_at hl 1 rfl) ?_
  refine lv_aload hx hb dL_law_2270 (lv_at hl 4 rfl) ?_
  obtain ⟨r1, σ2, lo3, dd4, h5, hf⟩ := bd4_x hf
  refine g_callR (st1 := [.int r1]) (cells' := cells + 1) (slots' := slots + 6) M (g_invW (R := room_1) (index := 292) (cells := cells) (slots := slots) S M C0 hl (c_L_deliveredShare l hfl G H.size lo dd σ h5) kw_L_deliveredShare tw_5_121 tw_5_120 rfl rfl rfl (gRm_mk rfl rfl (by omega) (by omega)) dL_law_2272) rfl rfl rfl (fun H locs M => ?_)
  refine lv_istore (lv' := [(6, .int r1), (0, .ref b), (1, .ref (G.1 0)), (2, .ref (G.1 219)), (3, .ref (G.1 228)), (4, .ref (G.1 229)), (5, .int i)]) hx hb dL_law_2275 hl (by decide) rfl (fun ls hl => ?_)
  refine lv_aload_n hx hb dL_law_2277 rfl (lv_at hl 3 rfl) ?_
  obtain ⟨r6, σ8, h7, hf⟩ := bd2_x hf
  refine g_callR (st1 := [.float r6]) (cells' := cells + 1) (slots' := slots + 6) M (g_invV (R := room_1) (index := 294) (cells := cells + 1) (slots := slots + 6) S M C0 hl (c_X13_deliveredShare l G H.size lo3 dd4 σ2 h7) k_X13_deliveredShare tw_7_215 tw_7_216 tw_7_214 (by decide) (ge_13 rfl) rfl rfl rfl rfl rfl (gRm_mk rfl rfl (by omega) (by omega)) dL_law_2278) rfl rfl rfl (fun H locs M => ?_)
  refine lv_fstore (lv' := [(7, .float r6), (6, .int r1), (0, .ref b), (1, .ref (G.1 0)), (2, .ref (G.1 219)), (3, .ref (G.1 228)), (4, .ref (G.1 229)), (5, .int i)]) hx hb dL_law_2281 hl (by decide) rfl (fun ls hl => ?_)
  refine lv_aload_n hx hb dL_law_2283 rfl (lv_at hl 4 rfl) ?_
  obtain ⟨r9, h10, hf⟩ := bd_x hf
  refine g_callR (st1 := [.int r9]) (cells' := cells + 1) (slots' := slots + 6) M (g_invV (R := room_1) (index := 160) (cells := cells + 1) (slots := slots + 6) S M C0 hl (c_X13_thrown l G H.size lo3 dd4 σ8 h10) k_X13_thrown tw_6_160 tw_6_161 tw_6_159 (by decide) (ge_13 rfl) rfl rfl rfl rfl rfl (gRm_mk rfl rfl (by omega) (by omega)) dL_law_2284) rfl rfl rfl (fun H locs M => ?_)
  refine lv_iload hx hb dL_law_2287 (lv_at hl 1 rfl) ?_
  refine lv_icmp_eq (tgt := 2294) hx hb dL_law_2289 (by decide) (fun c11 => ?_) (fun c11 => ?_)
  · have hf := it_p c11 hf
    refine lv_iload hx hb dL_law_2294 (lv_at hl 1 rfl) ?_
    refine lv_if_ne (tgt := 2332) hx hb dL_law_2296 (by decide) (fun c12 => ?_) (fun c12 => ?_)
    · have hf := it_n c12 hf
      refine lv_goto (tgt := 2764) hx hb dL_law_2332 (by decide) ?_
      cases hf
      refine W.widen (k := cells + 3) (n := slots + 18) (by omega) (by omega) ?_
      exact kk _ _ _ M (lv_sub hl [2, 3, 4, 5, 6, 7] rfl)
    · have hf := it_p c12 hf
      refine lv_aload hx hb dL_law_2299 (lv_at hl 6 rfl) ?_
      refine lv_iconst (v := 0) hx hb dL_law_2301 (by decide) ?_
      refine g_dald S M dL_law_2302 ?_
      refine lv_fload hx hb dL_law_2303 (lv_at hl 0 rfl) ?_
      obtain ⟨z13, hf⟩ := gnn64_x hf
      refine lv_f2d hx hb dL_law_2305 z13 ?_
      refine lv_dcmp hx hb dL_law_2306 ?_
      refine lv_if_eq (tgt := 2332) hx hb dL_law_2307 (by decide) (fun c14 => ?_) (fun c14 => ?_)
      · have hf := it_p c14 hf
        refine lv_goto (tgt := 2764) hx hb dL_law_2332 (by decide) ?_
        cases hf
        refine W.widen (k := cells + 3) (n := slots + 18) (by omega) (by omega) ?_
        exact kk _ _ _ M (lv_sub hl [2, 3, 4, 5, 6, 7] rfl)
      · have hf := it_n c14 hf
        refine lv_aload hx hb dL_law_2310 (lv_at hl 6 rfl) ?_
        refine lv_iconst (v := 0) hx hb dL_law_2312 (by decide) ?_
        refine g_dald S M dL_law_2313 ?_
        refine lv_aload hx hb dL_law_2314 (lv_at hl 6 rfl) ?_
        refine lv_iconst (v := 0) hx hb dL_law_2316 (by decide) ?_
        refine g_dald S M dL_law_2317 ?_
        refine lv_dcmp hx hb dL_law_2318 ?_
        refine lv_if_eq (tgt := 2330) hx hb dL_law_2319 (by decide) (fun c15 => ?_) (fun c15 => ?_)
        · have hf := it_p c15 hf
          cases hf
        · have hf := it_n c15 hf
          refine lv_fload hx hb dL_law_2322 (lv_at hl 0 rfl) ?_
          refine lv_fload hx hb dL_law_2324 (lv_at hl 0 rfl) ?_
          refine lv_fcmp hx hb dL_law_2326 ?_
          refine lv_if_ne (tgt := 2332) hx hb dL_law_2327 (by decide) (fun c16 => ?_) (fun c16 => ?_)
          · have hf := it_n c16 hf
            refine lv_goto (tgt := 2764) hx hb dL_law_2332 (by decide) ?_
            cases hf
            refine W.widen (k := cells + 3) (n := slots + 18) (by omega) (by omega) ?_
            exact kk _ _ _ M (lv_sub hl [2, 3, 4, 5, 6, 7] rfl)
          · have hf := it_p c16 hf
            cases hf
  · have hf := it_n c11 hf
    cases hf
set_option maxHeartbeats 400000 in
set_option maxRecDepth 100000 in
theorem t_41 {p : Program} {l : Launch} {e : Env} {s : State} {m : MethodId} {args : Array Value} {below : List Frame} {meth : Method} {c : Code} {Q : State → Prop} {G : gT} {lo : Int64} {dd : UInt64} {σ : gM} {b L : Nat} {xs : Nat → Int32} (hfl : l.stackTraces = false) (S : CallFix p m c cL_law 9 s args gTs "ParcelDepotLaw") (C0 : gCST G (gAA G s.heap.size) s) (hX : va_X b L xs s s.heap) (hbl : b < s.heap.size) (hbA : ¬ gAA G s.heap.size b) {i : Int32} (h1 : vp_in (i + 1) L) (h2 : vp_in (i + 2) L) (h3 : vp_in (i + 3) L) {cells slots : Nat} (hc : cells + 3 ≤ room_1.cells) (hs : slots + 18 ≤ room_1.slots) {o : gM × Int64 × UInt64} (hf : f_T_41 σ lo dd (xs (i + 1).toNatClampNeg) (xs (i + 2).toNatClampNeg) (xs (i + 3).toNatClampNeg) = some o) (H : Heap) (locs : List Loc) (ls : Array Slot) (M : gMS G (gAA G s.heap.size) lo dd σ s H locs) (hl : lv_has ls 9 [(0, .ref b), (1, .ref (G.1 0)), (2, .ref (G.1 219)), (3, .ref (G.1 228)), (4, .ref (G.1 229)), (5, .int i)]) (kk : ∀ (H : Heap) (locs : List Loc) (ls : Array Slot), gMS G (gAA G s.heap.size) o.2.1 o.2.2 o.1 s H locs → lv_has ls 9 [(0, .ref b), (1, .ref (G.1 0)), (2, .ref (G.1 219)), (3, .ref (G.1 228)), (4, .ref (G.1 229)), (5, .int i)] → W p l e room_1 s m args below meth c H locs (cells + 3) (slots + 18) Q (F0 m 2764 ls [])) : W p l e room_1 s m args below meth c H locs cells slots Q (F0 m 2335 ls []) := by
  have hx := S.1
  have hb := S.2.1
  unfold f_T_41 at hf
  refine lv_aload_n hx hb dL_law_2335 rfl (lv_at hl 1 rfl) ?_
  obtain ⟨r1, σ3, h2, hf⟩ := bd2_x hf
  refine g_callR (st1 := [.int r1]) (cells' := cells + 0) (slots' := slots + 0) M (g_invV (R := room_1) (index := 295) (cells := cells + 0) (slots := slots + 0) S M C0 hl (c_X12_isConsistent l G H.size lo dd σ h2) k_X12_isConsistent tw_2_118 tw_2_119 tw_2_117 (by decide) (ge_0 rfl) rfl rfl rfl rfl rfl (gRm_mk rfl rfl (by omega) (by omega)) dL_law_2336) rfl rfl rfl (fun H locs M => ?_)
  refine lv_aload_n hx hb dL_law_2339 rfl (lv_at hl 2 rfl) ?_
  obtain ⟨r4, σ6, h5, hf⟩ := bd2_x hf
  refine g_callR (st1 := [.int r4, .int r1]) (cells' := cells + 0) (slots' := slots + 0) M (g_invV (R := room_1) (index := 299) (cells := cells + 0) (slots := slots + 0) S M C0 hl (c_X13_isConsistent l G H.size lo dd σ3 h5) k_X13_isConsistent tw_7_219 tw_7_220 tw_7_218 (by decide) (ge_13 rfl) rfl rfl rfl rfl rfl (gRm_mk rfl rfl (by omega) (by omega)) dL_law_2340) rfl rfl rfl (fun H locs M => ?_)
  refine lv_icmp_eq (tgt := 2764) hx hb dL_law_2343 (by decide) (fun c7 => ?_) (fun c7 => ?_)
  · have hf := it_p c7 hf
    cases hf
    refine W.widen (k := cells + 3) (n := slots + 18) (by omega) (by omega) ?_
    exact kk _ _ _ M (lv_sub hl [0, 1, 2, 3, 4, 5] rfl)
  · have hf := it_n c7 hf
    cases hf
set_option maxHeartbeats 400000 in
set_option maxRecDepth 100000 in
theorem t_42 {p : Program} {l : Launch} {e : Env} {s : State} {m : MethodId} {args : Array Value} {below : List Frame} {meth : Method} {c : Code} {Q : State → Prop} {G : gT} {lo : Int64} {dd : UInt64} {σ : gM} {b L : Nat} {xs : Nat → Int32} (hfl : l.stackTraces = false) (S : CallFix p m c cL_law 9 s args gTs "ParcelDepotLaw") (C0 : gCST G (gAA G s.heap.size) s) (hX : va_X b L xs s s.heap) (hbl : b < s.heap.size) (hbA : ¬ gAA G s.heap.size b) {i : Int32} (h1 : vp_in (i + 1) L) (h2 : vp_in (i + 2) L) (h3 : vp_in (i + 3) L) {cells slots : Nat} (hc : cells + 3 ≤ room_1.cells) (hs : slots + 18 ≤ room_1.slots) {o : gM × Int64 × UInt64} (hf : f_T_42 σ lo dd (xs (i + 1).toNatClampNeg) (xs (i + 2).toNatClampNeg) (xs (i + 3).toNatClampNeg) = some o) (H : Heap) (locs : List Loc) (ls : Array Slot) (M : gMS G (gAA G s.heap.size) lo dd σ s H locs) (hl : lv_has ls 9 [(0, .ref b), (1, .ref (G.1 0)), (2, .ref (G.1 219)), (3, .ref (G.1 228)), (4, .ref (G.1 229)), (5, .int i)]) (kk : ∀ (H : Heap) (locs : List Loc) (ls : Array Slot), gMS G (gAA G s.heap.size) o.2.1 o.2.2 o.1 s H locs → lv_has ls 9 [(0, .ref b), (1, .ref (G.1 0)), (2, .ref (G.1 219)), (3, .ref (G.1 228)), (4, .ref (G.1 229)), (5, .int i)] → W p l e room_1 s m args below meth c H locs (cells + 3) (slots + 18) Q (F0 m 2764 ls [])) : W p l e room_1 s m args below meth c H locs cells slots Q (F0 m 2348 ls []) := by
  have hx := S.1
  have hb := S.2.1
  unfold f_T_42 at hf
  refine lv_aload_n hx hb dL_law_2348 rfl (lv_at hl 1 rfl) ?_
  refine lv_aload_n hx hb dL_law_2349 rfl (lv_at hl 0 rfl) ?_
  refine lv_iload hx hb dL_law_2350 (lv_at hl 5 rfl) ?_
  refine lv_iconst (v := 1) hx hb dL_law_2352 (by decide) ?_
  refine lv_iadd hx hb dL_law_2353 ?_
  refine va_sld hx hb hX hbl hbA M.2.2.2 h1 dL_law_2354 ?_
  refine lv_i2c hx hb dL_law_2355 rfl ?_
  refine lv_aload_n hx hb dL_law_2356 rfl (lv_at hl 3 rfl) ?_
  obtain ⟨r1, σ2, lo3, dd4, h5, hf⟩ := bd4_x hf
  refine g_callR (st1 := [.int r1]) (cells' := cells + 1) (slots' := slots + 6) M (g_invW (R := room_1) (index := 300) (cells := cells) (slots := slots) S M C0 hl (c_L_feed l hfl G H.size lo dd σ (((xs (i + 1).toNatClampNeg).toUInt32 % 65536).toInt32) h5) kw_L_feed tw_5_128 tw_5_127 rfl rfl rfl (gRm_mk rfl rfl (by omega) (by omega)) dL_law_2357) rfl rfl rfl (fun H locs M => ?_)
  refine lv_istore (lv' := [(6, .int r1), (0, .ref b), (1, .ref (G.1 0)), (2, .ref (G.1 219)), (3, .ref (G.1 228)), (4, .ref (G.1 229)), (5, .int i)]) hx hb dL_law_2360 hl (by decide) rfl (fun ls hl => ?_)
  refine lv_aload_n hx hb dL_law_2362 rfl (lv_at hl 3 rfl) ?_
  refine lv_aload_n hx hb dL_law_2363 rfl (lv_at hl 1 rfl) ?_
  refine lv_iload hx hb dL_law_2364 (lv_at hl 6 rfl) ?_
  refine lv_iconst (v := 1) hx hb dL_law_2366 (by decide) ?_
  refine lv_iadd hx hb dL_law_2367 ?_
  refine va_sld hx hb hX hbl hbA M.2.2.2 h1 dL_law_2368 ?_
  refine lv_i2c hx hb dL_law_2369 rfl ?_
  obtain ⟨r6, σ8, h7, hf⟩ := bd2_x hf
  refine g_callR (st1 := [.int r6]) (cells' := cells + 1) (slots' := slots + 6) M (g_invV (R := room_1) (index := 303) (cells := cells + 1) (slots := slots + 6) S M C0 hl (c_X13_feed l G H.size lo3 dd4 σ2 (((xs (i + 1).toNatClampNeg).toUInt32 % 65536).toInt32) h7) k_X13_feed tw_7_223 tw_7_224 tw_7_222 (by decide) (ge_13 rfl) rfl rfl rfl rfl rfl (gRm_mk rfl rfl (by omega) (by omega)) dL_law_2370) rfl rfl rfl (fun H locs M => ?_)
  refine lv_istore (lv' := [(7, .int r6), (6, .int r1), (0, .ref b), (1, .ref (G.1 0)), (2, .ref (G.1 219)), (3, .ref (G.1 228)), (4, .ref (G.1 229)), (5, .int i)]) hx hb dL_law_2373 hl (by decide) rfl (fun ls hl => ?_)
  refine lv_aload_n hx hb dL_law_2375 rfl (lv_at hl 4 rfl) ?_
  obtain ⟨r9, h10, hf⟩ := bd_x hf
  refine g_callR (st1 := [.int r9]) (cells' := cells + 1) (slots' := slots + 6) M (g_invV (R := room_1) (index := 160) (cells := cells + 1) (slots := slots + 6) S M C0 hl (c_X13_thrown l G H.size lo3 dd4 σ8 h10) k_X13_thrown tw_6_160 tw_6_161 tw_6_159 (by decide) (ge_13 rfl) rfl rfl rfl rfl rfl (gRm_mk rfl rfl (by omega) (by omega)) dL_law_2376) rfl rfl rfl (fun H locs M => ?_)
  refine lv_iload hx hb dL_law_2379 (lv_at hl 1 rfl) ?_
  refine lv_icmp_eq (tgt := 2386) hx hb dL_law_2381 (by decide) (fun c11 => ?_) (fun c11 => ?_)
  · have hf := it_p c11 hf
    refine lv_iload hx hb dL_law_2386 (lv_at hl 1 rfl) ?_
    refine lv_if_ne (tgt := 2403) hx hb dL_law_2388 (by decide) (fun c12 => ?_) (fun c12 => ?_)
    · have hf := it_n c12 hf
      refine lv_goto (tgt := 2764) hx hb dL_law_2403 (by decide) ?_
      cases hf
      refine W.widen (k := cells + 3) (n := slots + 18) (by omega) (by omega) ?_
      exact kk _ _ _ M (lv_sub hl [2, 3, 4, 5, 6, 7] rfl)
    · have hf := it_p c12 hf
      refine lv_aload_n hx hb dL_law_2391 rfl (lv_at hl 5 rfl) ?_
      refine lv_iconst (v := 0) hx hb dL_law_2392 (by decide) ?_
      refine g_lald S M dL_law_2393 ?_
      refine lv_iload hx hb dL_law_2394 (lv_at hl 0 rfl) ?_
      refine lv_i2l hx hb dL_law_2396 rfl ?_
      refine W.lcmp hx hb dL_law_2397 ?_
      refine lv_if_eq (tgt := 2403) hx hb dL_law_2398 (by decide) (fun c13 => ?_) (fun c13 => ?_)
      · have hf := it_p c13 hf
        refine lv_goto (tgt := 2764) hx hb dL_law_2403 (by decide) ?_
        cases hf
        refine W.widen (k := cells + 3) (n := slots + 18) (by omega) (by omega) ?_
        exact kk _ _ _ M (lv_sub hl [2, 3, 4, 5, 6, 7] rfl)
      · have hf := it_n c13 hf
        cases hf
  · have hf := it_n c11 hf
    cases hf
set_option maxHeartbeats 400000 in
set_option maxRecDepth 100000 in
theorem t_43 {p : Program} {l : Launch} {e : Env} {s : State} {m : MethodId} {args : Array Value} {below : List Frame} {meth : Method} {c : Code} {Q : State → Prop} {G : gT} {lo : Int64} {dd : UInt64} {σ : gM} {b L : Nat} {xs : Nat → Int32} (hfl : l.stackTraces = false) (S : CallFix p m c cL_law 9 s args gTs "ParcelDepotLaw") (C0 : gCST G (gAA G s.heap.size) s) (hX : va_X b L xs s s.heap) (hbl : b < s.heap.size) (hbA : ¬ gAA G s.heap.size b) {i : Int32} (h1 : vp_in (i + 1) L) (h2 : vp_in (i + 2) L) (h3 : vp_in (i + 3) L) {cells slots : Nat} (hc : cells + 3 ≤ room_1.cells) (hs : slots + 18 ≤ room_1.slots) {o : gM × Int64 × UInt64} (hf : f_T_43 σ lo dd (xs (i + 1).toNatClampNeg) (xs (i + 2).toNatClampNeg) (xs (i + 3).toNatClampNeg) = some o) (H : Heap) (locs : List Loc) (ls : Array Slot) (M : gMS G (gAA G s.heap.size) lo dd σ s H locs) (hl : lv_has ls 9 [(0, .ref b), (1, .ref (G.1 0)), (2, .ref (G.1 219)), (3, .ref (G.1 228)), (4, .ref (G.1 229)), (5, .int i)]) (kk : ∀ (H : Heap) (locs : List Loc) (ls : Array Slot), gMS G (gAA G s.heap.size) o.2.1 o.2.2 o.1 s H locs → lv_has ls 9 [(0, .ref b), (1, .ref (G.1 0)), (2, .ref (G.1 219)), (3, .ref (G.1 228)), (4, .ref (G.1 229)), (5, .int i)] → W p l e room_1 s m args below meth c H locs (cells + 3) (slots + 18) Q (F0 m 2764 ls [])) : W p l e room_1 s m args below meth c H locs cells slots Q (F0 m 2406 ls []) := by
  have hx := S.1
  have hb := S.2.1
  unfold f_T_43 at hf
  refine lv_aload_n hx hb dL_law_2406 rfl (lv_at hl 1 rfl) ?_
  refine lv_aload_n hx hb dL_law_2407 rfl (lv_at hl 3 rfl) ?_
  obtain ⟨r1, σ2, lo3, dd4, h5, hf⟩ := bd4_x hf
  refine g_callR (st1 := [.int r1]) (cells' := cells + 1) (slots' := slots + 6) M (g_invW (R := room_1) (index := 304) (cells := cells) (slots := slots) S M C0 hl (c_L_runCommands l hfl G H.size lo dd σ h5) kw_L_runCommands tw_5_143 tw_5_142 rfl rfl rfl (gRm_mk rfl rfl (by omega) (by omega)) dL_law_2408) rfl rfl rfl (fun H locs M => ?_)
  refine lv_istore (lv' := [(6, .int r1), (0, .ref b), (1, .ref (G.1 0)), (2, .ref (G.1 219)), (3, .ref (G.1 228)), (4, .ref (G.1 229)), (5, .int i)]) hx hb dL_law_2411 hl (by decide) rfl (fun ls hl => ?_)
  refine lv_aload_n hx hb dL_law_2413 rfl (lv_at hl 3 rfl) ?_
  obtain ⟨r6, σ8, h7, hf⟩ := bd2_x hf
  refine g_callR (st1 := [.int r6]) (cells' := cells + 1) (slots' := slots + 6) M (g_invV (R := room_1) (index := 307) (cells := cells + 1) (slots := slots + 6) S M C0 hl (c_X13_runCommands l G H.size lo3 dd4 σ2 h7) k_X13_runCommands tw_7_227 tw_7_228 tw_7_226 (by decide) (ge_13 rfl) rfl rfl rfl rfl rfl (gRm_mk rfl rfl (by omega) (by omega)) dL_law_2414) rfl rfl rfl (fun H locs M => ?_)
  refine lv_istore (lv' := [(7, .int r6), (6, .int r1), (0, .ref b), (1, .ref (G.1 0)), (2, .ref (G.1 219)), (3, .ref (G.1 228)), (4, .ref (G.1 229)), (5, .int i)]) hx hb dL_law_2417 hl (by decide) rfl (fun ls hl => ?_)
  refine lv_aload_n hx hb dL_law_2419 rfl (lv_at hl 4 rfl) ?_
  obtain ⟨r9, h10, hf⟩ := bd_x hf
  refine g_callR (st1 := [.int r9]) (cells' := cells + 1) (slots' := slots + 6) M (g_invV (R := room_1) (index := 160) (cells := cells + 1) (slots := slots + 6) S M C0 hl (c_X13_thrown l G H.size lo3 dd4 σ8 h10) k_X13_thrown tw_6_160 tw_6_161 tw_6_159 (by decide) (ge_13 rfl) rfl rfl rfl rfl rfl (gRm_mk rfl rfl (by omega) (by omega)) dL_law_2420) rfl rfl rfl (fun H locs M => ?_)
  refine lv_iload hx hb dL_law_2423 (lv_at hl 1 rfl) ?_
  refine lv_icmp_eq (tgt := 2430) hx hb dL_law_2425 (by decide) (fun c11 => ?_) (fun c11 => ?_)
  · have hf := it_p c11 hf
    refine lv_iload hx hb dL_law_2430 (lv_at hl 1 rfl) ?_
    refine lv_if_ne (tgt := 2447) hx hb dL_law_2432 (by decide) (fun c12 => ?_) (fun c12 => ?_)
    · have hf := it_n c12 hf
      refine lv_goto (tgt := 2764) hx hb dL_law_2447 (by decide) ?_
      cases hf
      refine W.widen (k := cells + 3) (n := slots + 18) (by omega) (by omega) ?_
      exact kk _ _ _ M (lv_sub hl [2, 3, 4, 5, 6, 7] rfl)
    · have hf := it_p c12 hf
      refine lv_aload_n hx hb dL_law_2435 rfl (lv_at hl 5 rfl) ?_
      refine lv_iconst (v := 0) hx hb dL_law_2436 (by decide) ?_
      refine g_lald S M dL_law_2437 ?_
      refine lv_iload hx hb dL_law_2438 (lv_at hl 0 rfl) ?_
      refine lv_i2l hx hb dL_law_2440 rfl ?_
      refine W.lcmp hx hb dL_law_2441 ?_
      refine lv_if_eq (tgt := 2447) hx hb dL_law_2442 (by decide) (fun c13 => ?_) (fun c13 => ?_)
      · have hf := it_p c13 hf
        refine lv_goto (tgt := 2764) hx hb dL_law_2447 (by decide) ?_
        cases hf
        refine W.widen (k := cells + 3) (n := slots + 18) (by omega) (by omega) ?_
        exact kk _ _ _ M (lv_sub hl [2, 3, 4, 5, 6, 7] rfl)
      · have hf := it_n c13 hf
        cases hf
  · have hf := it_n c11 hf
    cases hf
set_option maxHeartbeats 400000 in
set_option maxRecDepth 100000 in
theorem t_44 {p : Program} {l : Launch} {e : Env} {s : State} {m : MethodId} {args : Array Value} {below : List Frame} {meth : Method} {c : Code} {Q : State → Prop} {G : gT} {lo : Int64} {dd : UInt64} {σ : gM} {b L : Nat} {xs : Nat → Int32} (hfl : l.stackTraces = false) (S : CallFix p m c cL_law 9 s args gTs "ParcelDepotLaw") (C0 : gCST G (gAA G s.heap.size) s) (hX : va_X b L xs s s.heap) (hbl : b < s.heap.size) (hbA : ¬ gAA G s.heap.size b) {i : Int32} (h1 : vp_in (i + 1) L) (h2 : vp_in (i + 2) L) (h3 : vp_in (i + 3) L) {cells slots : Nat} (hc : cells + 3 ≤ room_1.cells) (hs : slots + 18 ≤ room_1.slots) {o : gM × Int64 × UInt64} (hf : f_T_44 σ lo dd (xs (i + 1).toNatClampNeg) (xs (i + 2).toNatClampNeg) (xs (i + 3).toNatClampNeg) = some o) (H : Heap) (locs : List Loc) (ls : Array Slot) (M : gMS G (gAA G s.heap.size) lo dd σ s H locs) (hl : lv_has ls 9 [(0, .ref b), (1, .ref (G.1 0)), (2, .ref (G.1 219)), (3, .ref (G.1 228)), (4, .ref (G.1 229)), (5, .int i)]) (kk : ∀ (H : Heap) (locs : List Loc) (ls : Array Slot), gMS G (gAA G s.heap.size) o.2.1 o.2.2 o.1 s H locs → lv_has ls 9 [(0, .ref b), (1, .ref (G.1 0)), (2, .ref (G.1 219)), (3, .ref (G.1 228)), (4, .ref (G.1 229)), (5, .int i)] → W p l e room_1 s m args below meth c H locs (cells + 3) (slots + 18) Q (F0 m 2764 ls [])) : W p l e room_1 s m args below meth c H locs cells slots Q (F0 m 2450 ls []) := by
  have hx := S.1
  have hb := S.2.1
  unfold f_T_44 at hf
  refine lv_aload_n hx hb dL_law_2450 rfl (lv_at hl 1 rfl) ?_
  refine lv_aload_n hx hb dL_law_2451 rfl (lv_at hl 3 rfl) ?_
  obtain ⟨r1, σ2, lo3, dd4, h5, hf⟩ := bd4_x hf
  refine g_callR (st1 := [.int r1]) (cells' := cells + 1) (slots' := slots + 6) M (g_invW (R := room_1) (index := 308) (cells := cells) (slots := slots) S M C0 hl (c_L_errorPosition l hfl G H.size lo dd σ h5) kw_L_errorPosition tw_6_20 tw_6_19 rfl rfl rfl (gRm_mk rfl rfl (by omega) (by omega)) dL_law_2452) rfl rfl rfl (fun H locs M => ?_)
  refine lv_istore (lv' := [(6, .int r1), (0, .ref b), (1, .ref (G.1 0)), (2, .ref (G.1 219)), (3, .ref (G.1 228)), (4, .ref (G.1 229)), (5, .int i)]) hx hb dL_law_2455 hl (by decide) rfl (fun ls hl => ?_)
  refine lv_aload_n hx hb dL_law_2457 rfl (lv_at hl 3 rfl) ?_
  obtain ⟨r6, σ8, h7, hf⟩ := bd2_x hf
  refine g_callR (st1 := [.int r6]) (cells' := cells + 1) (slots' := slots + 6) M (g_invV (R := room_1) (index := 310) (cells := cells + 1) (slots := slots + 6) S M C0 hl (c_X13_errorPosition l G H.size lo3 dd4 σ2 h7) k_X13_errorPosition tw_8_19 tw_8_20 tw_8_18 (by decide) (ge_13 rfl) rfl rfl rfl rfl rfl (gRm_mk rfl rfl (by omega) (by omega)) dL_law_2458) rfl rfl rfl (fun H locs M => ?_)
  refine lv_istore (lv' := [(7, .int r6), (6, .int r1), (0, .ref b), (1, .ref (G.1 0)), (2, .ref (G.1 219)), (3, .ref (G.1 228)), (4, .ref (G.1 229)), (5, .int i)]) hx hb dL_law_2461 hl (by decide) rfl (fun ls hl => ?_)
  refine lv_aload_n hx hb dL_law_2463 rfl (lv_at hl 4 rfl) ?_
  obtain ⟨r9, h10, hf⟩ := bd_x hf
  refine g_callR (st1 := [.int r9]) (cells' := cells + 1) (slots' := slots + 6) M (g_invV (R := room_1) (index := 160) (cells := cells + 1) (slots := slots + 6) S M C0 hl (c_X13_thrown l G H.size lo3 dd4 σ8 h10) k_X13_thrown tw_6_160 tw_6_161 tw_6_159 (by decide) (ge_13 rfl) rfl rfl rfl rfl rfl (gRm_mk rfl rfl (by omega) (by omega)) dL_law_2464) rfl rfl rfl (fun H locs M => ?_)
  refine lv_iload hx hb dL_law_2467 (lv_at hl 1 rfl) ?_
  refine lv_icmp_eq (tgt := 2474) hx hb dL_law_2469 (by decide) (fun c11 => ?_) (fun c11 => ?_)
  · have hf := it_p c11 hf
    refine lv_iload hx hb dL_law_2474 (lv_at hl 1 rfl) ?_
    refine lv_if_ne (tgt := 2491) hx hb dL_law_2476 (by decide) (fun c12 => ?_) (fun c12 => ?_)
    · have hf := it_n c12 hf
      refine lv_goto (tgt := 2764) hx hb dL_law_2491 (by decide) ?_
      cases hf
      refine W.widen (k := cells + 3) (n := slots + 18) (by omega) (by omega) ?_
      exact kk _ _ _ M (lv_sub hl [2, 3, 4, 5, 6, 7] rfl)
    · have hf := it_p c12 hf
      refine lv_aload_n hx hb dL_law_2479 rfl (lv_at hl 5 rfl) ?_
      refine lv_iconst (v := 0) hx hb dL_law_2480 (by decide) ?_
      refine g_lald S M dL_law_2481 ?_
      refine lv_iload hx hb dL_law_2482 (lv_at hl 0 rfl) ?_
      refine lv_i2l hx hb dL_law_2484 rfl ?_
      refine W.lcmp hx hb dL_law_2485 ?_
      refine lv_if_eq (tgt := 2491) hx hb dL_law_2486 (by decide) (fun c13 => ?_) (fun c13 => ?_)
      · have hf := it_p c13 hf
        refine lv_goto (tgt := 2764) hx hb dL_law_2491 (by decide) ?_
        cases hf
        refine W.widen (k := cells + 3) (n := slots + 18) (by omega) (by omega) ?_
        exact kk _ _ _ M (lv_sub hl [2, 3, 4, 5, 6, 7] rfl)
      · have hf := it_n c13 hf
        cases hf
  · have hf := it_n c11 hf
    cases hf
set_option maxHeartbeats 400000 in
set_option maxRecDepth 100000 in
theorem t_45 {p : Program} {l : Launch} {e : Env} {s : State} {m : MethodId} {args : Array Value} {below : List Frame} {meth : Method} {c : Code} {Q : State → Prop} {G : gT} {lo : Int64} {dd : UInt64} {σ : gM} {b L : Nat} {xs : Nat → Int32} (hfl : l.stackTraces = false) (S : CallFix p m c cL_law 9 s args gTs "ParcelDepotLaw") (C0 : gCST G (gAA G s.heap.size) s) (hX : va_X b L xs s s.heap) (hbl : b < s.heap.size) (hbA : ¬ gAA G s.heap.size b) {i : Int32} (h1 : vp_in (i + 1) L) (h2 : vp_in (i + 2) L) (h3 : vp_in (i + 3) L) {cells slots : Nat} (hc : cells + 3 ≤ room_1.cells) (hs : slots + 18 ≤ room_1.slots) {o : gM × Int64 × UInt64} (hf : f_T_45 σ lo dd (xs (i + 1).toNatClampNeg) (xs (i + 2).toNatClampNeg) (xs (i + 3).toNatClampNeg) = some o) (H : Heap) (locs : List Loc) (ls : Array Slot) (M : gMS G (gAA G s.heap.size) lo dd σ s H locs) (hl : lv_has ls 9 [(0, .ref b), (1, .ref (G.1 0)), (2, .ref (G.1 219)), (3, .ref (G.1 228)), (4, .ref (G.1 229)), (5, .int i)]) (kk : ∀ (H : Heap) (locs : List Loc) (ls : Array Slot), gMS G (gAA G s.heap.size) o.2.1 o.2.2 o.1 s H locs → lv_has ls 9 [(0, .ref b), (1, .ref (G.1 0)), (2, .ref (G.1 219)), (3, .ref (G.1 228)), (4, .ref (G.1 229)), (5, .int i)] → W p l e room_1 s m args below meth c H locs (cells + 3) (slots + 18) Q (F0 m 2764 ls [])) : W p l e room_1 s m args below meth c H locs cells slots Q (F0 m 2494 ls []) := by
  have hx := S.1
  have hb := S.2.1
  unfold f_T_45 at hf
  refine lv_aload_n hx hb dL_law_2494 rfl (lv_at hl 1 rfl) ?_
  refine lv_aload_n hx hb dL_law_2495 rfl (lv_at hl 3 rfl) ?_
  obtain ⟨r1, σ2, lo3, dd4, h5, hf⟩ := bd4_x hf
  refine g_callR (st1 := [.int r1]) (cells' := cells + 1) (slots' := slots + 6) M (g_invW (R := room_1) (index := 311) (cells := cells) (slots := slots) S M C0 hl (c_L_failedCommand l hfl G H.size lo dd σ h5) kw_L_failedCommand tw_6_27 tw_6_26 rfl rfl rfl (gRm_mk rfl rfl (by omega) (by omega)) dL_law_2496) rfl rfl rfl (fun H locs M => ?_)
  refine lv_istore (lv' := [(6, .int r1), (0, .ref b), (1, .ref (G.1 0)), (2, .ref (G.1 219)), (3, .ref (G.1 228)), (4, .ref (G.1 229)), (5, .int i)]) hx hb dL_law_2499 hl (by decide) rfl (fun ls hl => ?_)
  refine lv_aload_n hx hb dL_law_2501 rfl (lv_at hl 3 rfl) ?_
  obtain ⟨r6, σ8, h7, hf⟩ := bd2_x hf
  refine g_callR (st1 := [.int r6]) (cells' := cells + 1) (slots' := slots + 6) M (g_invV (R := room_1) (index := 313) (cells := cells + 1) (slots := slots + 6) S M C0 hl (c_X13_failedCommand l G H.size lo3 dd4 σ2 h7) k_X13_failedCommand tw_8_23 tw_8_24 tw_8_22 (by decide) (ge_13 rfl) rfl rfl rfl rfl rfl (gRm_mk rfl rfl (by omega) (by omega)) dL_law_2502) rfl rfl rfl (fun H locs M => ?_)
  refine lv_istore (lv' := [(7, .int r6), (6, .int r1), (0, .ref b), (1, .ref (G.1 0)), (2, .ref (G.1 219)), (3, .ref (G.1 228)), (4, .ref (G.1 229)), (5, .int i)]) hx hb dL_law_2505 hl (by decide) rfl (fun ls hl => ?_)
  refine lv_aload_n hx hb dL_law_2507 rfl (lv_at hl 4 rfl) ?_
  obtain ⟨r9, h10, hf⟩ := bd_x hf
  refine g_callR (st1 := [.int r9]) (cells' := cells + 1) (slots' := slots + 6) M (g_invV (R := room_1) (index := 160) (cells := cells + 1) (slots := slots + 6) S M C0 hl (c_X13_thrown l G H.size lo3 dd4 σ8 h10) k_X13_thrown tw_6_160 tw_6_161 tw_6_159 (by decide) (ge_13 rfl) rfl rfl rfl rfl rfl (gRm_mk rfl rfl (by omega) (by omega)) dL_law_2508) rfl rfl rfl (fun H locs M => ?_)
  refine lv_iload hx hb dL_law_2511 (lv_at hl 1 rfl) ?_
  refine lv_icmp_eq (tgt := 2518) hx hb dL_law_2513 (by decide) (fun c11 => ?_) (fun c11 => ?_)
  · have hf := it_p c11 hf
    refine lv_iload hx hb dL_law_2518 (lv_at hl 1 rfl) ?_
    refine lv_if_ne (tgt := 2535) hx hb dL_law_2520 (by decide) (fun c12 => ?_) (fun c12 => ?_)
    · have hf := it_n c12 hf
      refine lv_goto (tgt := 2764) hx hb dL_law_2535 (by decide) ?_
      cases hf
      refine W.widen (k := cells + 3) (n := slots + 18) (by omega) (by omega) ?_
      exact kk _ _ _ M (lv_sub hl [2, 3, 4, 5, 6, 7] rfl)
    · have hf := it_p c12 hf
      refine lv_aload_n hx hb dL_law_2523 rfl (lv_at hl 5 rfl) ?_
      refine lv_iconst (v := 0) hx hb dL_law_2524 (by decide) ?_
      refine g_lald S M dL_law_2525 ?_
      refine lv_iload hx hb dL_law_2526 (lv_at hl 0 rfl) ?_
      refine lv_i2l hx hb dL_law_2528 rfl ?_
      refine W.lcmp hx hb dL_law_2529 ?_
      refine lv_if_eq (tgt := 2535) hx hb dL_law_2530 (by decide) (fun c13 => ?_) (fun c13 => ?_)
      · have hf := it_p c13 hf
        refine lv_goto (tgt := 2764) hx hb dL_law_2535 (by decide) ?_
        cases hf
        refine W.widen (k := cells + 3) (n := slots + 18) (by omega) (by omega) ?_
        exact kk _ _ _ M (lv_sub hl [2, 3, 4, 5, 6, 7] rfl)
      · have hf := it_n c13 hf
        cases hf
  · have hf := it_n c11 hf
    cases hf
set_option maxHeartbeats 400000 in
set_option maxRecDepth 100000 in
theorem t_46 {p : Program} {l : Launch} {e : Env} {s : State} {m : MethodId} {args : Array Value} {below : List Frame} {meth : Method} {c : Code} {Q : State → Prop} {G : gT} {lo : Int64} {dd : UInt64} {σ : gM} {b L : Nat} {xs : Nat → Int32} (hfl : l.stackTraces = false) (S : CallFix p m c cL_law 9 s args gTs "ParcelDepotLaw") (C0 : gCST G (gAA G s.heap.size) s) (hX : va_X b L xs s s.heap) (hbl : b < s.heap.size) (hbA : ¬ gAA G s.heap.size b) {i : Int32} (h1 : vp_in (i + 1) L) (h2 : vp_in (i + 2) L) (h3 : vp_in (i + 3) L) {cells slots : Nat} (hc : cells + 3 ≤ room_1.cells) (hs : slots + 18 ≤ room_1.slots) {o : gM × Int64 × UInt64} (hf : f_T_46 σ lo dd (xs (i + 1).toNatClampNeg) (xs (i + 2).toNatClampNeg) (xs (i + 3).toNatClampNeg) = some o) (H : Heap) (locs : List Loc) (ls : Array Slot) (M : gMS G (gAA G s.heap.size) lo dd σ s H locs) (hl : lv_has ls 9 [(0, .ref b), (1, .ref (G.1 0)), (2, .ref (G.1 219)), (3, .ref (G.1 228)), (4, .ref (G.1 229)), (5, .int i)]) (kk : ∀ (H : Heap) (locs : List Loc) (ls : Array Slot), gMS G (gAA G s.heap.size) o.2.1 o.2.2 o.1 s H locs → lv_has ls 9 [(0, .ref b), (1, .ref (G.1 0)), (2, .ref (G.1 219)), (3, .ref (G.1 228)), (4, .ref (G.1 229)), (5, .int i)] → W p l e room_1 s m args below meth c H locs (cells + 3) (slots + 18) Q (F0 m 2764 ls [])) : W p l e room_1 s m args below meth c H locs cells slots Q (F0 m 2538 ls []) := by
  have hx := S.1
  have hb := S.2.1
  unfold f_T_46 at hf
  refine lv_aload_n hx hb dL_law_2538 rfl (lv_at hl 1 rfl) ?_
  refine lv_aload_n hx hb dL_law_2539 rfl (lv_at hl 0 rfl) ?_
  refine lv_iload hx hb dL_law_2540 (lv_at hl 5 rfl) ?_
  refine lv_iconst (v := 1) hx hb dL_law_2542 (by decide) ?_
  refine lv_iadd hx hb dL_law_2543 ?_
  refine va_sld hx hb hX hbl hbA M.2.2.2 h1 dL_law_2544 ?_
  refine lv_aload_n hx hb dL_law_2545 rfl (lv_at hl 3 rfl) ?_
  obtain ⟨r1, σ2, lo3, dd4, h5, hf⟩ := bd4_x hf
  refine g_callR (st1 := [.int r1]) (cells' := cells + 1) (slots' := slots + 6) M (g_invW (R := room_1) (index := 314) (cells := cells) (slots := slots) S M C0 hl (c_L_writeSack l hfl G H.size lo dd σ (xs (i + 1).toNatClampNeg) h5) kw_L_writeSack tw_6_34 tw_6_33 rfl rfl rfl (gRm_mk rfl rfl (by omega) (by omega)) dL_law_2546) rfl rfl rfl (fun H locs M => ?_)
  refine lv_istore (lv' := [(6, .int r1), (0, .ref b), (1, .ref (G.1 0)), (2, .ref (G.1 219)), (3, .ref (G.1 228)), (4, .ref (G.1 229)), (5, .int i)]) hx hb dL_law_2549 hl (by decide) rfl (fun ls hl => ?_)
  refine lv_aload_n hx hb dL_law_2551 rfl (lv_at hl 3 rfl) ?_
  refine lv_aload_n hx hb dL_law_2552 rfl (lv_at hl 1 rfl) ?_
  refine lv_iload hx hb dL_law_2553 (lv_at hl 6 rfl) ?_
  refine lv_iconst (v := 1) hx hb dL_law_2555 (by decide) ?_
  refine lv_iadd hx hb dL_law_2556 ?_
  refine va_sld hx hb hX hbl hbA M.2.2.2 h1 dL_law_2557 ?_
  obtain ⟨r6, σ8, h7, hf⟩ := bd2_x hf
  refine g_callR (st1 := [.int r6]) (cells' := cells + 1) (slots' := slots + 6) M (g_invV (R := room_1) (index := 316) (cells := cells + 1) (slots := slots + 6) S M C0 hl (c_X13_writeSack l G H.size lo3 dd4 σ2 (xs (i + 1).toNatClampNeg) h7) k_X13_writeSack tw_8_27 tw_8_28 tw_8_26 (by decide) (ge_13 rfl) rfl rfl rfl rfl rfl (gRm_mk rfl rfl (by omega) (by omega)) dL_law_2558) rfl rfl rfl (fun H locs M => ?_)
  refine lv_istore (lv' := [(7, .int r6), (6, .int r1), (0, .ref b), (1, .ref (G.1 0)), (2, .ref (G.1 219)), (3, .ref (G.1 228)), (4, .ref (G.1 229)), (5, .int i)]) hx hb dL_law_2561 hl (by decide) rfl (fun ls hl => ?_)
  refine lv_aload_n hx hb dL_law_2563 rfl (lv_at hl 4 rfl) ?_
  obtain ⟨r9, h10, hf⟩ := bd_x hf
  refine g_callR (st1 := [.int r9]) (cells' := cells + 1) (slots' := slots + 6) M (g_invV (R := room_1) (index := 160) (cells := cells + 1) (slots := slots + 6) S M C0 hl (c_X13_thrown l G H.size lo3 dd4 σ8 h10) k_X13_thrown tw_6_160 tw_6_161 tw_6_159 (by decide) (ge_13 rfl) rfl rfl rfl rfl rfl (gRm_mk rfl rfl (by omega) (by omega)) dL_law_2564) rfl rfl rfl (fun H locs M => ?_)
  refine lv_iload hx hb dL_law_2567 (lv_at hl 1 rfl) ?_
  refine lv_icmp_eq (tgt := 2574) hx hb dL_law_2569 (by decide) (fun c11 => ?_) (fun c11 => ?_)
  · have hf := it_p c11 hf
    refine lv_iload hx hb dL_law_2574 (lv_at hl 1 rfl) ?_
    refine lv_if_ne (tgt := 2591) hx hb dL_law_2576 (by decide) (fun c12 => ?_) (fun c12 => ?_)
    · have hf := it_n c12 hf
      refine lv_goto (tgt := 2764) hx hb dL_law_2591 (by decide) ?_
      cases hf
      refine W.widen (k := cells + 3) (n := slots + 18) (by omega) (by omega) ?_
      exact kk _ _ _ M (lv_sub hl [2, 3, 4, 5, 6, 7] rfl)
    · have hf := it_p c12 hf
      refine lv_aload_n hx hb dL_law_2579 rfl (lv_at hl 5 rfl) ?_
      refine lv_iconst (v := 0) hx hb dL_law_2580 (by decide) ?_
      refine g_lald S M dL_law_2581 ?_
      refine lv_iload hx hb dL_law_2582 (lv_at hl 0 rfl) ?_
      refine lv_i2l hx hb dL_law_2584 rfl ?_
      refine W.lcmp hx hb dL_law_2585 ?_
      refine lv_if_eq (tgt := 2591) hx hb dL_law_2586 (by decide) (fun c13 => ?_) (fun c13 => ?_)
      · have hf := it_p c13 hf
        refine lv_goto (tgt := 2764) hx hb dL_law_2591 (by decide) ?_
        cases hf
        refine W.widen (k := cells + 3) (n := slots + 18) (by omega) (by omega) ?_
        exact kk _ _ _ M (lv_sub hl [2, 3, 4, 5, 6, 7] rfl)
      · have hf := it_n c13 hf
        cases hf
  · have hf := it_n c11 hf
    cases hf
set_option maxHeartbeats 400000 in
set_option maxRecDepth 100000 in
theorem t_47 {p : Program} {l : Launch} {e : Env} {s : State} {m : MethodId} {args : Array Value} {below : List Frame} {meth : Method} {c : Code} {Q : State → Prop} {G : gT} {lo : Int64} {dd : UInt64} {σ : gM} {b L : Nat} {xs : Nat → Int32} (hfl : l.stackTraces = false) (S : CallFix p m c cL_law 9 s args gTs "ParcelDepotLaw") (C0 : gCST G (gAA G s.heap.size) s) (hX : va_X b L xs s s.heap) (hbl : b < s.heap.size) (hbA : ¬ gAA G s.heap.size b) {i : Int32} (h1 : vp_in (i + 1) L) (h2 : vp_in (i + 2) L) (h3 : vp_in (i + 3) L) {cells slots : Nat} (hc : cells + 3 ≤ room_1.cells) (hs : slots + 18 ≤ room_1.slots) {o : gM × Int64 × UInt64} (hf : f_T_47 σ lo dd (xs (i + 1).toNatClampNeg) (xs (i + 2).toNatClampNeg) (xs (i + 3).toNatClampNeg) = some o) (H : Heap) (locs : List Loc) (ls : Array Slot) (M : gMS G (gAA G s.heap.size) lo dd σ s H locs) (hl : lv_has ls 9 [(0, .ref b), (1, .ref (G.1 0)), (2, .ref (G.1 219)), (3, .ref (G.1 228)), (4, .ref (G.1 229)), (5, .int i)]) (kk : ∀ (H : Heap) (locs : List Loc) (ls : Array Slot), gMS G (gAA G s.heap.size) o.2.1 o.2.2 o.1 s H locs → lv_has ls 9 [(0, .ref b), (1, .ref (G.1 0)), (2, .ref (G.1 219)), (3, .ref (G.1 228)), (4, .ref (G.1 229)), (5, .int i)] → W p l e room_1 s m args below meth c H locs (cells + 3) (slots + 18) Q (F0 m 2764 ls [])) : W p l e room_1 s m args below meth c H locs cells slots Q (F0 m 2594 ls []) := by
  have hx := S.1
  have hb := S.2.1
  unfold f_T_47 at hf
  refine lv_aload_n hx hb dL_law_2594 rfl (lv_at hl 1 rfl) ?_
  refine lv_aload_n hx hb dL_law_2595 rfl (lv_at hl 0 rfl) ?_
  refine lv_iload hx hb dL_law_2596 (lv_at hl 5 rfl) ?_
  refine lv_iconst (v := 1) hx hb dL_law_2598 (by decide) ?_
  refine lv_iadd hx hb dL_law_2599 ?_
  refine va_sld hx hb hX hbl hbA M.2.2.2 h1 dL_law_2600 ?_
  refine lv_aload_n hx hb dL_law_2601 rfl (lv_at hl 3 rfl) ?_
  obtain ⟨r1, σ2, lo3, dd4, h5, hf⟩ := bd4_x hf
  refine g_callR (st1 := [.int r1]) (cells' := cells + 1) (slots' := slots + 6) M (g_invW (R := room_1) (index := 317) (cells := cells) (slots := slots) S M C0 hl (c_L_outputChar l hfl G H.size lo dd σ (xs (i + 1).toNatClampNeg) h5) kw_L_outputChar tw_6_63 tw_6_62 rfl rfl rfl (gRm_mk rfl rfl (by omega) (by omega)) dL_law_2602) rfl rfl rfl (fun H locs M => ?_)
  refine lv_istore (lv' := [(6, .int r1), (0, .ref b), (1, .ref (G.1 0)), (2, .ref (G.1 219)), (3, .ref (G.1 228)), (4, .ref (G.1 229)), (5, .int i)]) hx hb dL_law_2605 hl (by decide) rfl (fun ls hl => ?_)
  refine lv_aload_n hx hb dL_law_2607 rfl (lv_at hl 3 rfl) ?_
  refine lv_aload_n hx hb dL_law_2608 rfl (lv_at hl 1 rfl) ?_
  refine lv_iload hx hb dL_law_2609 (lv_at hl 6 rfl) ?_
  refine lv_iconst (v := 1) hx hb dL_law_2611 (by decide) ?_
  refine lv_iadd hx hb dL_law_2612 ?_
  refine va_sld hx hb hX hbl hbA M.2.2.2 h1 dL_law_2613 ?_
  obtain ⟨r6, σ8, h7, hf⟩ := bd2_x hf
  refine g_callR (st1 := [.int r6]) (cells' := cells + 1) (slots' := slots + 6) M (g_invV (R := room_1) (index := 319) (cells := cells + 1) (slots := slots + 6) S M C0 hl (c_X13_outputChar l G H.size lo3 dd4 σ2 (xs (i + 1).toNatClampNeg) h7) k_X13_outputChar tw_8_39 tw_8_40 tw_8_38 (by decide) (ge_13 rfl) rfl rfl rfl rfl rfl (gRm_mk rfl rfl (by omega) (by omega)) dL_law_2614) rfl rfl rfl (fun H locs M => ?_)
  refine lv_istore (lv' := [(7, .int r6), (6, .int r1), (0, .ref b), (1, .ref (G.1 0)), (2, .ref (G.1 219)), (3, .ref (G.1 228)), (4, .ref (G.1 229)), (5, .int i)]) hx hb dL_law_2617 hl (by decide) rfl (fun ls hl => ?_)
  refine lv_aload_n hx hb dL_law_2619 rfl (lv_at hl 4 rfl) ?_
  obtain ⟨r9, h10, hf⟩ := bd_x hf
  refine g_callR (st1 := [.int r9]) (cells' := cells + 1) (slots' := slots + 6) M (g_invV (R := room_1) (index := 160) (cells := cells + 1) (slots := slots + 6) S M C0 hl (c_X13_thrown l G H.size lo3 dd4 σ8 h10) k_X13_thrown tw_6_160 tw_6_161 tw_6_159 (by decide) (ge_13 rfl) rfl rfl rfl rfl rfl (gRm_mk rfl rfl (by omega) (by omega)) dL_law_2620) rfl rfl rfl (fun H locs M => ?_)
  refine lv_iload hx hb dL_law_2623 (lv_at hl 1 rfl) ?_
  refine lv_icmp_eq (tgt := 2630) hx hb dL_law_2625 (by decide) (fun c11 => ?_) (fun c11 => ?_)
  · have hf := it_p c11 hf
    refine lv_iload hx hb dL_law_2630 (lv_at hl 1 rfl) ?_
    refine lv_if_ne (tgt := 2647) hx hb dL_law_2632 (by decide) (fun c12 => ?_) (fun c12 => ?_)
    · have hf := it_n c12 hf
      refine lv_goto (tgt := 2764) hx hb dL_law_2647 (by decide) ?_
      cases hf
      refine W.widen (k := cells + 3) (n := slots + 18) (by omega) (by omega) ?_
      exact kk _ _ _ M (lv_sub hl [2, 3, 4, 5, 6, 7] rfl)
    · have hf := it_p c12 hf
      refine lv_aload_n hx hb dL_law_2635 rfl (lv_at hl 5 rfl) ?_
      refine lv_iconst (v := 0) hx hb dL_law_2636 (by decide) ?_
      refine g_lald S M dL_law_2637 ?_
      refine lv_iload hx hb dL_law_2638 (lv_at hl 0 rfl) ?_
      refine lv_i2l hx hb dL_law_2640 rfl ?_
      refine W.lcmp hx hb dL_law_2641 ?_
      refine lv_if_eq (tgt := 2647) hx hb dL_law_2642 (by decide) (fun c13 => ?_) (fun c13 => ?_)
      · have hf := it_p c13 hf
        refine lv_goto (tgt := 2764) hx hb dL_law_2647 (by decide) ?_
        cases hf
        refine W.widen (k := cells + 3) (n := slots + 18) (by omega) (by omega) ?_
        exact kk _ _ _ M (lv_sub hl [2, 3, 4, 5, 6, 7] rfl)
      · have hf := it_n c13 hf
        cases hf
  · have hf := it_n c11 hf
    cases hf
set_option maxHeartbeats 400000 in
set_option maxRecDepth 100000 in
theorem t_48 {p : Program} {l : Launch} {e : Env} {s : State} {m : MethodId} {args : Array Value} {below : List Frame} {meth : Method} {c : Code} {Q : State → Prop} {G : gT} {lo : Int64} {dd : UInt64} {σ : gM} {b L : Nat} {xs : Nat → Int32} (hfl : l.stackTraces = false) (S : CallFix p m c cL_law 9 s args gTs "ParcelDepotLaw") (C0 : gCST G (gAA G s.heap.size) s) (hX : va_X b L xs s s.heap) (hbl : b < s.heap.size) (hbA : ¬ gAA G s.heap.size b) {i : Int32} (h1 : vp_in (i + 1) L) (h2 : vp_in (i + 2) L) (h3 : vp_in (i + 3) L) {cells slots : Nat} (hc : cells + 3 ≤ room_1.cells) (hs : slots + 18 ≤ room_1.slots) {o : gM × Int64 × UInt64} (hf : f_T_48 σ lo dd (xs (i + 1).toNatClampNeg) (xs (i + 2).toNatClampNeg) (xs (i + 3).toNatClampNeg) = some o) (H : Heap) (locs : List Loc) (ls : Array Slot) (M : gMS G (gAA G s.heap.size) lo dd σ s H locs) (hl : lv_has ls 9 [(0, .ref b), (1, .ref (G.1 0)), (2, .ref (G.1 219)), (3, .ref (G.1 228)), (4, .ref (G.1 229)), (5, .int i)]) (kk : ∀ (H : Heap) (locs : List Loc) (ls : Array Slot), gMS G (gAA G s.heap.size) o.2.1 o.2.2 o.1 s H locs → lv_has ls 9 [(0, .ref b), (1, .ref (G.1 0)), (2, .ref (G.1 219)), (3, .ref (G.1 228)), (4, .ref (G.1 229)), (5, .int i)] → W p l e room_1 s m args below meth c H locs (cells + 3) (slots + 18) Q (F0 m 2764 ls [])) : W p l e room_1 s m args below meth c H locs cells slots Q (F0 m 2650 ls []) := by
  have hx := S.1
  have hb := S.2.1
  unfold f_T_48 at hf
  refine lv_aload_n hx hb dL_law_2650 rfl (lv_at hl 1 rfl) ?_
  obtain ⟨r1, h2, hf⟩ := bd_x hf
  refine g_callR (st1 := [.int r1]) (cells' := cells + 0) (slots' := slots + 0) M (g_invV (R := room_1) (index := 320) (cells := cells + 0) (slots := slots + 0) S M C0 hl (c_X12_undoCount l G H.size lo dd σ h2) k_X12_undoCount tw_2_207 tw_2_208 tw_2_206 (by decide) (ge_0 rfl) rfl rfl rfl rfl rfl (gRm_mk rfl rfl (by omega) (by omega)) dL_law_2651) rfl rfl rfl (fun H locs M => ?_)
  refine lv_aload_n hx hb dL_law_2654 rfl (lv_at hl 2 rfl) ?_
  obtain ⟨r3, σ5, h4, hf⟩ := bd2_x hf
  refine g_callR (st1 := [.int r3, .int r1]) (cells' := cells + 0) (slots' := slots + 0) M (g_invV (R := room_1) (index := 323) (cells := cells + 0) (slots := slots + 0) S M C0 hl (c_X13_undoCount l G H.size lo dd σ h4) k_X13_undoCount tw_8_43 tw_8_44 tw_8_42 (by decide) (ge_13 rfl) rfl rfl rfl rfl rfl (gRm_mk rfl rfl (by omega) (by omega)) dL_law_2655) rfl rfl rfl (fun H locs M => ?_)
  refine lv_icmp_eq (tgt := 2764) hx hb dL_law_2658 (by decide) (fun c6 => ?_) (fun c6 => ?_)
  · have hf := it_p c6 hf
    cases hf
    refine W.widen (k := cells + 3) (n := slots + 18) (by omega) (by omega) ?_
    exact kk _ _ _ M (lv_sub hl [0, 1, 2, 3, 4, 5] rfl)
  · have hf := it_n c6 hf
    cases hf
set_option maxHeartbeats 400000 in
set_option maxRecDepth 100000 in
theorem t_49 {p : Program} {l : Launch} {e : Env} {s : State} {m : MethodId} {args : Array Value} {below : List Frame} {meth : Method} {c : Code} {Q : State → Prop} {G : gT} {lo : Int64} {dd : UInt64} {σ : gM} {b L : Nat} {xs : Nat → Int32} (hfl : l.stackTraces = false) (S : CallFix p m c cL_law 9 s args gTs "ParcelDepotLaw") (C0 : gCST G (gAA G s.heap.size) s) (hX : va_X b L xs s s.heap) (hbl : b < s.heap.size) (hbA : ¬ gAA G s.heap.size b) {i : Int32} (h1 : vp_in (i + 1) L) (h2 : vp_in (i + 2) L) (h3 : vp_in (i + 3) L) {cells slots : Nat} (hc : cells + 3 ≤ room_1.cells) (hs : slots + 18 ≤ room_1.slots) {o : gM × Int64 × UInt64} (hf : f_T_49 σ lo dd (xs (i + 1).toNatClampNeg) (xs (i + 2).toNatClampNeg) (xs (i + 3).toNatClampNeg) = some o) (H : Heap) (locs : List Loc) (ls : Array Slot) (M : gMS G (gAA G s.heap.size) lo dd σ s H locs) (hl : lv_has ls 9 [(0, .ref b), (1, .ref (G.1 0)), (2, .ref (G.1 219)), (3, .ref (G.1 228)), (4, .ref (G.1 229)), (5, .int i)]) (kk : ∀ (H : Heap) (locs : List Loc) (ls : Array Slot), gMS G (gAA G s.heap.size) o.2.1 o.2.2 o.1 s H locs → lv_has ls 9 [(0, .ref b), (1, .ref (G.1 0)), (2, .ref (G.1 219)), (3, .ref (G.1 228)), (4, .ref (G.1 229)), (5, .int i)] → W p l e room_1 s m args below meth c H locs (cells + 3) (slots + 18) Q (F0 m 2764 ls [])) : W p l e room_1 s m args below meth c H locs cells slots Q (F0 m 2663 ls []) := by
  have hx := S.1
  have hb := S.2.1
  unfold f_T_49 at hf
  refine lv_aload_n hx hb dL_law_2663 rfl (lv_at hl 1 rfl) ?_
  refine lv_aload_n hx hb dL_law_2664 rfl (lv_at hl 3 rfl) ?_
  obtain ⟨r1, σ2, lo3, dd4, h5, hf⟩ := bd4_x hf
  refine g_callR (st1 := [.int r1]) (cells' := cells + 1) (slots' := slots + 6) M (g_invW (R := room_1) (index := 324) (cells := cells) (slots := slots) S M C0 hl (c_L_undo l hfl G H.size lo dd σ h5) kw_L_undo tw_6_78 tw_6_77 rfl rfl rfl (gRm_mk rfl rfl (by omega) (by omega)) dL_law_2665) rfl rfl rfl (fun H locs M => ?_)
  refine lv_istore (lv' := [(6, .int r1), (0, .ref b), (1, .ref (G.1 0)), (2, .ref (G.1 219)), (3, .ref (G.1 228)), (4, .ref (G.1 229)), (5, .int i)]) hx hb dL_law_2668 hl (by decide) rfl (fun ls hl => ?_)
  refine lv_aload_n hx hb dL_law_2670 rfl (lv_at hl 3 rfl) ?_
  obtain ⟨r6, σ8, h7, hf⟩ := bd2_x hf
  refine g_callR (st1 := [.int r6]) (cells' := cells + 1) (slots' := slots + 6) M (g_invV (R := room_1) (index := 326) (cells := cells + 1) (slots := slots + 6) S M C0 hl (c_X13_undo l G H.size lo3 dd4 σ2 h7) k_X13_undo tw_8_47 tw_8_48 tw_8_46 (by decide) (ge_13 rfl) rfl rfl rfl rfl rfl (gRm_mk rfl rfl (by omega) (by omega)) dL_law_2671) rfl rfl rfl (fun H locs M => ?_)
  refine lv_istore (lv' := [(7, .int r6), (6, .int r1), (0, .ref b), (1, .ref (G.1 0)), (2, .ref (G.1 219)), (3, .ref (G.1 228)), (4, .ref (G.1 229)), (5, .int i)]) hx hb dL_law_2674 hl (by decide) rfl (fun ls hl => ?_)
  refine lv_aload_n hx hb dL_law_2676 rfl (lv_at hl 4 rfl) ?_
  obtain ⟨r9, h10, hf⟩ := bd_x hf
  refine g_callR (st1 := [.int r9]) (cells' := cells + 1) (slots' := slots + 6) M (g_invV (R := room_1) (index := 160) (cells := cells + 1) (slots := slots + 6) S M C0 hl (c_X13_thrown l G H.size lo3 dd4 σ8 h10) k_X13_thrown tw_6_160 tw_6_161 tw_6_159 (by decide) (ge_13 rfl) rfl rfl rfl rfl rfl (gRm_mk rfl rfl (by omega) (by omega)) dL_law_2677) rfl rfl rfl (fun H locs M => ?_)
  refine lv_iload hx hb dL_law_2680 (lv_at hl 1 rfl) ?_
  refine lv_icmp_eq (tgt := 2687) hx hb dL_law_2682 (by decide) (fun c11 => ?_) (fun c11 => ?_)
  · have hf := it_p c11 hf
    refine lv_iload hx hb dL_law_2687 (lv_at hl 1 rfl) ?_
    refine lv_if_ne (tgt := 2704) hx hb dL_law_2689 (by decide) (fun c12 => ?_) (fun c12 => ?_)
    · have hf := it_n c12 hf
      refine lv_goto (tgt := 2764) hx hb dL_law_2704 (by decide) ?_
      cases hf
      refine W.widen (k := cells + 3) (n := slots + 18) (by omega) (by omega) ?_
      exact kk _ _ _ M (lv_sub hl [2, 3, 4, 5, 6, 7] rfl)
    · have hf := it_p c12 hf
      refine lv_aload_n hx hb dL_law_2692 rfl (lv_at hl 5 rfl) ?_
      refine lv_iconst (v := 0) hx hb dL_law_2693 (by decide) ?_
      refine g_lald S M dL_law_2694 ?_
      refine lv_iload hx hb dL_law_2695 (lv_at hl 0 rfl) ?_
      refine lv_i2l hx hb dL_law_2697 rfl ?_
      refine W.lcmp hx hb dL_law_2698 ?_
      refine lv_if_eq (tgt := 2704) hx hb dL_law_2699 (by decide) (fun c13 => ?_) (fun c13 => ?_)
      · have hf := it_p c13 hf
        refine lv_goto (tgt := 2764) hx hb dL_law_2704 (by decide) ?_
        cases hf
        refine W.widen (k := cells + 3) (n := slots + 18) (by omega) (by omega) ?_
        exact kk _ _ _ M (lv_sub hl [2, 3, 4, 5, 6, 7] rfl)
      · have hf := it_n c13 hf
        cases hf
  · have hf := it_n c11 hf
    cases hf
set_option maxHeartbeats 400000 in
set_option maxRecDepth 100000 in
theorem t_50 {p : Program} {l : Launch} {e : Env} {s : State} {m : MethodId} {args : Array Value} {below : List Frame} {meth : Method} {c : Code} {Q : State → Prop} {G : gT} {lo : Int64} {dd : UInt64} {σ : gM} {b L : Nat} {xs : Nat → Int32} (hfl : l.stackTraces = false) (S : CallFix p m c cL_law 9 s args gTs "ParcelDepotLaw") (C0 : gCST G (gAA G s.heap.size) s) (hX : va_X b L xs s s.heap) (hbl : b < s.heap.size) (hbA : ¬ gAA G s.heap.size b) {i : Int32} (h1 : vp_in (i + 1) L) (h2 : vp_in (i + 2) L) (h3 : vp_in (i + 3) L) {cells slots : Nat} (hc : cells + 3 ≤ room_1.cells) (hs : slots + 18 ≤ room_1.slots) {o : gM × Int64 × UInt64} (hf : f_T_50 σ lo dd (xs (i + 1).toNatClampNeg) (xs (i + 2).toNatClampNeg) (xs (i + 3).toNatClampNeg) = some o) (H : Heap) (locs : List Loc) (ls : Array Slot) (M : gMS G (gAA G s.heap.size) lo dd σ s H locs) (hl : lv_has ls 9 [(0, .ref b), (1, .ref (G.1 0)), (2, .ref (G.1 219)), (3, .ref (G.1 228)), (4, .ref (G.1 229)), (5, .int i)]) (kk : ∀ (H : Heap) (locs : List Loc) (ls : Array Slot), gMS G (gAA G s.heap.size) o.2.1 o.2.2 o.1 s H locs → lv_has ls 9 [(0, .ref b), (1, .ref (G.1 0)), (2, .ref (G.1 219)), (3, .ref (G.1 228)), (4, .ref (G.1 229)), (5, .int i)] → W p l e room_1 s m args below meth c H locs (cells + 3) (slots + 18) Q (F0 m 2764 ls [])) : W p l e room_1 s m args below meth c H locs cells slots Q (F0 m 2707 ls []) := by
  have hx := S.1
  have hb := S.2.1
  unfold f_T_50 at hf
  refine lv_aload_n hx hb dL_law_2707 rfl (lv_at hl 1 rfl) ?_
  obtain ⟨r1, σ3, h2, hf⟩ := bd2_x hf
  refine g_callR (st1 := [.int r1]) (cells' := cells + 0) (slots' := slots + 0) M (g_invV (R := room_1) (index := 327) (cells := cells + 0) (slots := slots + 0) S M C0 hl (c_X12_save l G H.size lo dd σ h2) k_X12_save tw_2_215 tw_2_216 tw_2_214 (by decide) (ge_0 rfl) rfl rfl rfl rfl rfl (gRm_mk rfl rfl (by omega) (by omega)) dL_law_2708) rfl rfl rfl (fun H locs M => ?_)
  refine lv_aload_n hx hb dL_law_2711 rfl (lv_at hl 2 rfl) ?_
  obtain ⟨r4, σ6, h5, hf⟩ := bd2_x hf
  refine g_callR (st1 := [.int r4, .int r1]) (cells' := cells + 0) (slots' := slots + 0) M (g_invV (R := room_1) (index := 330) (cells := cells + 0) (slots := slots + 0) S M C0 hl (c_X13_save l G H.size lo dd σ3 h5) k_X13_save tw_8_51 tw_8_52 tw_8_50 (by decide) (ge_13 rfl) rfl rfl rfl rfl rfl (gRm_mk rfl rfl (by omega) (by omega)) dL_law_2712) rfl rfl rfl (fun H locs M => ?_)
  refine lv_icmp_eq (tgt := 2764) hx hb dL_law_2715 (by decide) (fun c7 => ?_) (fun c7 => ?_)
  · have hf := it_p c7 hf
    cases hf
    refine W.widen (k := cells + 3) (n := slots + 18) (by omega) (by omega) ?_
    exact kk _ _ _ M (lv_sub hl [0, 1, 2, 3, 4, 5] rfl)
  · have hf := it_n c7 hf
    cases hf
set_option maxHeartbeats 400000 in
set_option maxRecDepth 100000 in
theorem t_51 {p : Program} {l : Launch} {e : Env} {s : State} {m : MethodId} {args : Array Value} {below : List Frame} {meth : Method} {c : Code} {Q : State → Prop} {G : gT} {lo : Int64} {dd : UInt64} {σ : gM} {b L : Nat} {xs : Nat → Int32} (hfl : l.stackTraces = false) (S : CallFix p m c cL_law 9 s args gTs "ParcelDepotLaw") (C0 : gCST G (gAA G s.heap.size) s) (hX : va_X b L xs s s.heap) (hbl : b < s.heap.size) (hbA : ¬ gAA G s.heap.size b) {i : Int32} (h1 : vp_in (i + 1) L) (h2 : vp_in (i + 2) L) (h3 : vp_in (i + 3) L) {cells slots : Nat} (hc : cells + 3 ≤ room_1.cells) (hs : slots + 18 ≤ room_1.slots) {o : gM × Int64 × UInt64} (hf : f_T_51 σ lo dd (xs (i + 1).toNatClampNeg) (xs (i + 2).toNatClampNeg) (xs (i + 3).toNatClampNeg) = some o) (H : Heap) (locs : List Loc) (ls : Array Slot) (M : gMS G (gAA G s.heap.size) lo dd σ s H locs) (hl : lv_has ls 9 [(0, .ref b), (1, .ref (G.1 0)), (2, .ref (G.1 219)), (3, .ref (G.1 228)), (4, .ref (G.1 229)), (5, .int i)]) (kk : ∀ (H : Heap) (locs : List Loc) (ls : Array Slot), gMS G (gAA G s.heap.size) o.2.1 o.2.2 o.1 s H locs → lv_has ls 9 [(0, .ref b), (1, .ref (G.1 0)), (2, .ref (G.1 219)), (3, .ref (G.1 228)), (4, .ref (G.1 229)), (5, .int i)] → W p l e room_1 s m args below meth c H locs (cells + 3) (slots + 18) Q (F0 m 2764 ls [])) : W p l e room_1 s m args below meth c H locs cells slots Q (F0 m 2720 ls []) := by
  have hx := S.1
  have hb := S.2.1
  unfold f_T_51 at hf
  refine lv_aload_n hx hb dL_law_2720 rfl (lv_at hl 1 rfl) ?_
  refine lv_aload_n hx hb dL_law_2721 rfl (lv_at hl 3 rfl) ?_
  obtain ⟨r1, σ2, lo3, dd4, h5, hf⟩ := bd4_x hf
  refine g_callR (st1 := [.int r1]) (cells' := cells + 1) (slots' := slots + 6) M (g_invW (R := room_1) (index := 331) (cells := cells) (slots := slots) S M C0 hl (c_L_restore l hfl G H.size lo dd σ h5) kw_L_restore tw_6_90 tw_6_89 rfl rfl rfl (gRm_mk rfl rfl (by omega) (by omega)) dL_law_2722) rfl rfl rfl (fun H locs M => ?_)
  refine lv_istore (lv' := [(6, .int r1), (0, .ref b), (1, .ref (G.1 0)), (2, .ref (G.1 219)), (3, .ref (G.1 228)), (4, .ref (G.1 229)), (5, .int i)]) hx hb dL_law_2725 hl (by decide) rfl (fun ls hl => ?_)
  refine lv_aload_n hx hb dL_law_2727 rfl (lv_at hl 3 rfl) ?_
  obtain ⟨r6, σ8, h7, hf⟩ := bd2_x hf
  refine g_callR (st1 := [.int r6]) (cells' := cells + 1) (slots' := slots + 6) M (g_invV (R := room_1) (index := 333) (cells := cells + 1) (slots := slots + 6) S M C0 hl (c_X13_restore l G H.size lo3 dd4 σ2 h7) k_X13_restore tw_8_55 tw_8_56 tw_8_54 (by decide) (ge_13 rfl) rfl rfl rfl rfl rfl (gRm_mk rfl rfl (by omega) (by omega)) dL_law_2728) rfl rfl rfl (fun H locs M => ?_)
  refine lv_istore (lv' := [(7, .int r6), (6, .int r1), (0, .ref b), (1, .ref (G.1 0)), (2, .ref (G.1 219)), (3, .ref (G.1 228)), (4, .ref (G.1 229)), (5, .int i)]) hx hb dL_law_2731 hl (by decide) rfl (fun ls hl => ?_)
  refine lv_aload_n hx hb dL_law_2733 rfl (lv_at hl 4 rfl) ?_
  obtain ⟨r9, h10, hf⟩ := bd_x hf
  refine g_callR (st1 := [.int r9]) (cells' := cells + 1) (slots' := slots + 6) M (g_invV (R := room_1) (index := 160) (cells := cells + 1) (slots := slots + 6) S M C0 hl (c_X13_thrown l G H.size lo3 dd4 σ8 h10) k_X13_thrown tw_6_160 tw_6_161 tw_6_159 (by decide) (ge_13 rfl) rfl rfl rfl rfl rfl (gRm_mk rfl rfl (by omega) (by omega)) dL_law_2734) rfl rfl rfl (fun H locs M => ?_)
  refine lv_iload hx hb dL_law_2737 (lv_at hl 1 rfl) ?_
  refine lv_icmp_eq (tgt := 2744) hx hb dL_law_2739 (by decide) (fun c11 => ?_) (fun c11 => ?_)
  · have hf := it_p c11 hf
    refine lv_iload hx hb dL_law_2744 (lv_at hl 1 rfl) ?_
    refine lv_if_ne (tgt := 2761) hx hb dL_law_2746 (by decide) (fun c12 => ?_) (fun c12 => ?_)
    · have hf := it_n c12 hf
      refine lv_goto (tgt := 2764) hx hb dL_law_2761 (by decide) ?_
      cases hf
      refine W.widen (k := cells + 3) (n := slots + 18) (by omega) (by omega) ?_
      exact kk _ _ _ M (lv_sub hl [2, 3, 4, 5, 6, 7] rfl)
    · have hf := it_p c12 hf
      refine lv_aload_n hx hb dL_law_2749 rfl (lv_at hl 5 rfl) ?_
      refine lv_iconst (v := 0) hx hb dL_law_2750 (by decide) ?_
      refine g_lald S M dL_law_2751 ?_
      refine lv_iload hx hb dL_law_2752 (lv_at hl 0 rfl) ?_
      refine lv_i2l hx hb dL_law_2754 rfl ?_
      refine W.lcmp hx hb dL_law_2755 ?_
      refine lv_if_eq (tgt := 2761) hx hb dL_law_2756 (by decide) (fun c13 => ?_) (fun c13 => ?_)
      · have hf := it_p c13 hf
        refine lv_goto (tgt := 2764) hx hb dL_law_2761 (by decide) ?_
        cases hf
        refine W.widen (k := cells + 3) (n := slots + 18) (by omega) (by omega) ?_
        exact kk _ _ _ M (lv_sub hl [2, 3, 4, 5, 6, 7] rfl)
      · have hf := it_n c13 hf
        cases hf
  · have hf := it_n c11 hf
    cases hf
