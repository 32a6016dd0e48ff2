def gb {α : Type} (b : Bool) (A : Option α) : Option α := if b = true then A else none
theorem gb_x {α : Type} {b : Bool} {A : Option α} {r : α} (h : gb b A = some r) : b = true ∧ A = some r := by
  unfold gb at h
  by_cases hc : b = true
  · rw [if_pos hc] at h; exact ⟨hc, h⟩
  · rw [if_neg hc] at h; cases h
theorem gtc_x {α : Type} {c : Prop} {i : Decidable c} {A : Option α} {r : α} (h : @ite _ c i A none = some r) : c ∧ A = some r := by
  by_cases hc : c
  · rw [if_pos hc] at h; exact ⟨hc, h⟩
  · rw [if_neg hc] at h; cases h
theorem gfc_x {α : Type} {c : Prop} {i : Decidable c} {A : Option α} {r : α} (h : @ite _ c i none A = some r) : ¬ c ∧ A = some r := by
  by_cases hc : c
  · rw [if_pos hc] at h; cases h
  · rw [if_neg hc] at h; exact ⟨hc, h⟩
theorem va_declares {args : Array Value} {s : State} {x : MethodName} {b : ByteArray} {n : Nat} {ret : Option FieldType} (hi : (Cond.instanceMethod x).before args s = true) (hc : (Cond.code x b n ret).before args s = true) : (Cond.declares x).before args s = true := by
  obtain ⟨r0, r, h1, h2, h3, h4⟩ := va_Decl.of hi hc
  simp [Cond.before, Cond.holds, Cond.value, h1, h2, h3, h4]
/-! STRINGBUILDER in the law: rests on the library's sbInitG, sbAppendS, sbAppendI, sbToStringG -/
def lU (s : State) (H : Heap) : State := { s with heap := H }
theorem lU_al {s U : State} {H : Heap} (h : s.vm.Alike U.vm) : (lU s H).vm.Alike U.vm := h
theorem lU_al' {s U : State} {H : Heap} (h : s.vm.Alike U.vm) : U.vm.Alike (lU s H).vm := h.symm
def sbAll : List Cond := flatC Free.SB.SBInit.tab ++ (flatC Free.SB.SBAppendS.tab ++ (flatC Free.SB.SBAppendSG.tab ++ (flatC Free.SBG.SbAppendI.tab ++ (flatC Free.SB.SBToString.tab ++ (flatC Free.SB.SBToStringF.tab ++ (sbLays ++ Free.SBG.strLays))))))
/-- texts of the law that are built upon -/
def lKs : List Nat := [16, 17, 18, 31, 32]
/-- what stays of the start: String's static, the texts, Integer's tables, the words -/
def lCx (B : gB) (s : State) : Prop :=
  (∃ (st : Nat) (z : Int32) (cl : Cell), Free.SB.CompactAt s st z ∧ z ≠ 0 ∧ s.heap[st]? = some cl ∧ cl.vm.isStatics = true) ∧
  (∀ k ∈ lKs, ∃ (q : Free.SB.SQ) (cS : ClassId), Free.SBG.Sl q cS s ∧ q.sa = gtK (lz B) k ∧ q.len = (gByt.getD k []).length ∧ ∀ i, i < q.len → q.SA.slots[i]? = some (.int ((gByt.getD k []).getD i 0))) ∧
  (∃ (ist d1 : Nat) (D1 : Cell) (d2 : Nat) (D2 : Cell), Free.SBG.Tbl s "DigitOnes" ist d1 D1 ∧ Free.SBG.Tbl s "DigitTens" ist d2 D2 ∧ ∀ r, r < 10 → Free.SBG.iAt D1 r = nI (48 + r)) ∧
  ∀ w ∈ sbAll, ∀ args : Array Value, w.before args s = true
theorem of_flat {args : Array Value} {s : State} (c : Cond) : (∀ w ∈ flatC c, w.before args s = true) → c.before args s = true := by
  induction c with
  | and a b iha ihb =>
    intro h
    rw [Cond.before_and, Bool.and_eq_true]
    exact ⟨iha (fun w hw => h w (by simp only [flatC, List.mem_append]; exact Or.inl hw)), ihb (fun w hw => h w (by simp only [flatC, List.mem_append]; exact Or.inr hw))⟩
  | _ =>
    intro h
    exact h _ (by simp only [flatC, List.mem_singleton])
def lBd (s : State) (n0 q cp st : Nat) (tx : List Int32) (H : Heap) : Prop :=
  ∃ (x : Free.SBG.Fix) (bC : Cell) (da : Nat) (A : Cell), x.b = q ∧ x.st = st ∧ n0 ≤ q ∧ n0 ≤ da ∧ Free.SBG.Bd x bC da A tx.length (lU s H) ∧ (∀ i, i < tx.length → A.slots[i]? = some (.int (tx.getD i 0))) ∧ A.slots.size ≤ cp
/-- the walk while a text is built: H0 is the heap before -/
def lSb (B : gB) (Ds : lDs) (s : State) (H0 : Heap) (locs0 : List Loc) (q cp st : Nat) (tx : List Int32) (H : Heap) (locs : List Loc) : Prop :=
  lM B Ds s H0 locs0 ∧ H0.size ≤ H.size ∧ (∀ a, a < H0.size → H[a]? = H0[a]?) ∧ (∀ w ∈ locs, w ∈ locs0 ∨ H0.size ≤ w.base) ∧ (∃ cl : Cell, s.heap[st]? = some cl ∧ cl.vm.isStatics = true) ∧ lBd s H0.size q cp st tx H
theorem l_old {B : gB} {Ds : lDs} {s : State} {H : Heap} {locs : List Loc} (M : lM B Ds s H locs) {a : Nat} (h : a < s.heap.size) : H[a]? = s.heap[a]? := M.2.2.2.2.2.1 a h (by show ¬ s.heap.size ≤ a; omega)
theorem l_sbOld {B : gB} {Ds : lDs} {s : State} {H0 H : Heap} {locs0 locs : List Loc} {q cp st : Nat} {tx : List Int32} (Z : lSb B Ds s H0 locs0 q cp st tx H locs) {a : Nat} {c : Cell} (h : s.heap[a]? = some c) : H[a]? = some c := by
  have hlt := (Array.getElem?_eq_some_iff.mp h).1
  have hS := Z.1.2.2.2.2.1
  rw [Z.2.2.1 a (Nat.lt_of_lt_of_le hlt hS), l_old Z.1 hlt]
  exact h
theorem l_kept {T T' : Heap} {P : Nat → Prop} (keep : ∀ (y : Nat) (cy : Cell), ¬ P y → T[y]? = some cy → T'[y]? = some cy) {a : Nat} (h : a < T.size) (hn : ¬ P a) : T'[a]? = T[a]? := by
  have e : T[a]? = some T[a] := Array.getElem?_eq_getElem h
  rw [keep a _ hn e, e]
theorem l_ga {a b : List Int32} {i : Nat} (h : i < a.length) : (a ++ b).getD i 0 = a.getD i 0 := by
  rw [List.getD_eq_getElem?_getD, List.getElem?_append, if_pos h, List.getD_eq_getElem?_getD]
theorem l_gr {a b : List Int32} {j : Nat} : (a ++ b).getD (a.length + j) 0 = b.getD j 0 := by
  rw [List.getD_eq_getElem?_getD, List.getElem?_append, if_neg (by omega), List.getD_eq_getElem?_getD, Nat.add_sub_cancel_left]
theorem l_ne {a b : Nat} (h : a < b ∨ b < a) : a ≠ b := by omega
section LSB
variable {p : Program} {l : Launch} {e : Env} {R : Room} {s : State} {m : MethodId} {args : Array Value} {below : List Frame} {meth : Method} {c : Code} {H H0 : Heap} {locs locs0 : List Loc} {cells slots : Nat} {Q : State → Prop}
variable {cc : ByteArray} {nL : Nat} {pc : Nat} {ls : Array Slot} {rest : List Value} {B : gB} {Ds : lDs} {lv : List (Nat × Value)} {q cp st k i0 i1 i4 : Nat} {tx : List Int32}
theorem l_ldcW {own text : String} {index q : Nat} (hexec : p.tables.exec = Jvm.exec) (hb : c.code = cc) (hown : s.vm.findClass own = some m.cls) (hZ : vk_R own index text q s) (hdg : decode cc pc = .ok (.ldc_w index, 3))
    (kk : W p l e R s m args below meth c H locs cells slots Q (F0 m (pc + 3) ls (.ref q :: rest))) : W p l e R s m args below meth c H locs cells slots Q (F0 m pc ls rest) := by
  intro T hT X
  obtain ⟨t, a1, b1⟩ := kk T hT X
  exact ⟨t, X.ldcStringW hexec hown (text := text) (a := q) hZ.1 hZ.2 (g := F0 m pc ls rest) rfl (by rw [hb]; exact hdg) t a1, b1⟩
theorem l_sbNew (S : CallFix p m c cc nL s args gTs RL) (M : lM B Ds s H locs) (Cx : lCx B s) (hl : lv_has ls nL lv) (hcl : Cond.classLink RL i0 RJ4 ∈ gTs) (hinst : Cond.instantiable RJ4 4 ∈ gTs) (hini : Cond.initialized RJ4 ∈ gTs) (hin : Cond.instanceMethod yJ4_init_da8c8 ∈ gTs) (hlink : Cond.methodLink RL i4 yJ4_init_da8c8 ∈ gTs)
    (hW : Nat.ble (2 * 0 + (1 + (rest.map fun v => v.category).sum)) 8 = true) (hR : (Nat.ble 5 R.frames && Nat.ble 90 R.locals && Nat.ble (cells + 2) R.cells && Nat.ble (slots + 20) R.slots) = true) (d0 : decode cc pc = .ok (.new i0, 3)) (d3 : decode cc (pc + 3) = .ok (.dup, 1)) (d4 : decode cc (pc + 4) = .ok (.invokespecial i4, 3))
    {cells' slots' : Nat} (hc : cells + 2 = cells') (hs : slots + 20 = slots')
    (kk : ∀ (q st : Nat) (H1 : Heap) (locs1 : List Loc), lSb B Ds s H locs q 16 st [] H1 locs1 → W p l e R s m args below meth c H1 locs1 cells' slots' Q (F0 m (pc + 7) ls (.ref q :: rest))) : W p l e R s m args below meth c H locs cells slots Q (F0 m pc ls rest) := by
  subst hc; subst hs
  have hts := S.2.2.2.2
  simp only [Bool.and_eq_true] at hR
  obtain ⟨⟨⟨r1, r2⟩, r3⟩, r4⟩ := hR
  have r3' := Nat.le_of_ble_eq_true r3
  have r4' := Nat.le_of_ble_eq_true r4
  obtain ⟨⟨st, z, cl, hcmp, hz, hcst, hstat⟩, -, -, hwd⟩ := Cx
  have hKn := M.1.1 1 _ rfl
  have hS := M.2.2.2.2
  have hstl : st < s.heap.size := (Array.getElem?_eq_some_iff.mp hcst).1
  refine W.newcK S.1 S.2.1 S.2.2.2.1 (hts _ hcl) (hts _ hinst) (hts _ hini) rfl d0 (by omega) (by omega) hKn.2.1 rfl fun H1 kC hkC e1 z1 o1 => ?_
  refine lv_dup S.1 S.2.1 d3 rfl ?_
  obtain ⟨k9, hk9, hkind⟩ := hKn.2.2
  cases hkC.symm.trans hk9
  intro T hT X
  have hal := X.warmed.alike
  have hcT : Free.SB.CompactAt T st z := Free.SBG.compact_carry hal (fun c hc => by rw [hT, o1 st (Nat.lt_of_lt_of_le hstl hS.1), l_old M hstl]; exact hc) hcmp
  obtain ⟨T', L', x, bC', hxb, hxst, hxz, X', hL', hB, hsz, keep, come⟩ := X.sbInitG S.1 (own := RL) (index := i4) S.2.2.2.1 (hts _ hlink) (hts _ hin) (hts _ hini) (of_flat _ (fun w hw => hwd w (List.mem_append_left _ hw) _)) (fun w hw => hwd w (List.mem_append_right _ (List.mem_append_right _ (List.mem_append_right _ (List.mem_append_right _ (List.mem_append_right _ (List.mem_append_right _ (List.mem_append_left _ hw))))))) _) hcT hz (b := H.size) hKn.2.1 hkC hkind (by rw [hT]; exact e1) (l_ne (by have := hS.1; omega)) (W := 8) (g := F0 m (pc + 4) ls (.ref H.size :: .ref H.size :: rest)) rfl (hl.1.trans S.2.2.1.symm) (Steps.refl _) (rest := .ref H.size :: rest) rfl (Nat.le_of_ble_eq_true hW) (by rw [S.2.1]; exact d4) (Nat.le_of_ble_eq_true r1) (Nat.le_of_ble_eq_true r2) (by omega) (by omega)
  rw [hT] at hsz
  have hkp : ∀ a, a < H.size → T'.heap[a]? = H[a]? := fun a ha => by
    rw [l_kept (T := T.heap) (P := fun y => y = H.size) keep (by rw [hT, z1]; omega) (by omega), hT]
    exact o1 a ha
  have hlc : ∀ w ∈ locs ++ L', w ∈ locs ∨ H.size ≤ w.base := fun w hw => by
    rcases List.mem_append.mp hw with h | h
    · exact Or.inl h
    · exact Or.inr (by rw [hL' w h]; exact Nat.le_refl _)
  obtain ⟨t2, a1, b1⟩ := kk H.size st T'.heap (locs ++ L') ⟨M, by omega, hkp, hlc, ⟨cl, hcst, hstat⟩, x, bC', T.heap.size, _, hxb, hxst, Nat.le_refl _, by rw [hT, z1]; omega, hB.carry (lU_al' X'.warmed.alike) hB.1.hb hB.1.hd (fun _ h => h), fun i hi => absurd hi (Nat.not_lt_zero i), by simp [Free.SB.zeros]⟩ T' rfl (X'.more (by omega) (by omega))
  exact ⟨t2, come.trans a1, b1⟩
theorem l_sbS {text : String} (S : CallFix p m c cc nL s args gTs RL) (Z : lSb B Ds s H0 locs0 q cp st tx H locs) (Cs : lCs B s) (Cx : lCx B s) (hl : lv_has ls nL lv) (hk : k ∈ lKs) (hk2 : k < 34) (htx : gTx.getD k ("", 0, "") = (RL, i0, text)) (hini : Cond.initialized RJ4 ∈ gTs) (hin : Cond.instanceMethod yJ4_append_15ec4 ∈ gTs) (hsel : Cond.selects RJ4 yJ4_append_15ec4 yJ4_append_15ec4 ∈ gTs) (hdecl : (Cond.declares yJ4_append_15ec4).before args s = true) (hlink : Cond.methodLink RL i1 yJ4_append_15ec4 ∈ gTs)
    (hW : Nat.ble (2 * 0 + (rest.map fun v => v.category).sum) 8 = true) {cp' : Nat} (hcp : 2 * cp + 2 + (tx.length + (gByt.getD k []).length) ≤ cp') (hcp2 : cp' ≤ 65536) (hR : (Nat.ble 10 R.frames && Nat.ble 321 R.locals && Nat.ble (cells + 1) R.cells && Nat.ble (slots + cp') R.slots) = true) (d0 : decode cc pc = .ok (.ldc i0, 2)) (d2 : decode cc (pc + 2) = .ok (.invokevirtual i1, 3))
    {cells' slots' : Nat} (hc : cells + 1 = cells') (hs : slots + cp' = slots') {tx' : List Int32} (ht : tx ++ gByt.getD k [] = tx')
    (kk : ∀ (H1 : Heap) (locs1 : List Loc), lSb B Ds s H0 locs0 q cp' st tx' H1 locs1 → W p l e R s m args below meth c H1 locs1 cells' slots' Q (F0 m (pc + 5) ls (.ref q :: rest))) : W p l e R s m args below meth c H locs cells slots Q (F0 m pc ls (.ref q :: rest)) := by
  subst hc; subst hs; subst ht
  have hts := S.2.2.2.2
  simp only [Bool.and_eq_true] at hR
  obtain ⟨⟨⟨r1, r2⟩, r3⟩, r4⟩ := hR
  have r3' := Nat.le_of_ble_eq_true r3
  have r4' := Nat.le_of_ble_eq_true r4
  have hR0 := Cs.2.2.1 k hk2
  rw [htx] at hR0
  refine va_ldcS S.1 S.2.1 S.2.2.2.1 hR0 d0 ?_
  obtain ⟨qs, cS, hSl, hsa, hlen, hbyt⟩ := Cx.2.1 k hk
  have hwd := Cx.2.2.2
  rw [← hsa]
  have Z0 := Z
  obtain ⟨M, hz0, hold, hlc, ⟨cl, hcst, hstat⟩, x, bC, da, A, rfl, hxst, hq0, hd0, hB, hA, hcpA⟩ := Z
  have hS := M.2.2.2.2.1
  have hsal : qs.sa < s.heap.size := (Array.getElem?_eq_some_iff.mp hSl.1.ha).1
  have hsdl : qs.sd < s.heap.size := (Array.getElem?_eq_some_iff.mp hSl.1.hd).1
  intro T hT X
  have hal := X.warmed.alike
  have hBT : Free.SBG.Bd x bC da A tx.length T := hB.carry (lU_al hal) (by rw [hT]; exact hB.1.hb) (by rw [hT]; exact hB.1.hd) (fun c hc => by rw [hT]; exact hc)
  have hSlT : Free.SBG.Sl qs cS T := hSl.carry hal (by rw [hT]; exact l_sbOld Z0 hSl.1.ha) (by rw [hT]; exact l_sbOld Z0 hSl.1.hd)
  have hap : Free.SBG.Apart x da qs := by
    refine ⟨fun h => ?_, l_ne (Or.inl (Nat.lt_of_lt_of_le hsal (Nat.le_trans hS hd0))), l_ne (Or.inl (Nat.lt_of_lt_of_le hsdl (Nat.le_trans hS hd0))), l_ne (Or.inl (Nat.lt_of_lt_of_le hsal (Nat.le_trans hS hq0))), l_ne (Or.inl (Nat.lt_of_lt_of_le hsdl (Nat.le_trans hS hq0)))⟩
    have h1 := hSl.1.ha
    rw [h, hxst, hcst] at h1
    have h2 := hSl.1.obj
    rw [← Option.some.inj h1, hstat] at h2
    cases h2
  obtain ⟨T', L', bC', da', A', X', hL', hB', hk1, hk3, hda, hsz', hszT, keep, come⟩ := X.sbAppendS S.1 (own := RL) (index := i1) S.2.2.2.1 (hts _ hlink) hdecl (hts _ hsel) (hts _ hin) (hts _ hini) (of_flat _ (fun w hw => hwd w (List.mem_append_right _ (List.mem_append_left _ hw)) _)) (of_flat _ (fun w hw => hwd w (List.mem_append_right _ (List.mem_append_right _ (List.mem_append_left _ hw))) _)) hBT hSlT hap (cap := cp') (by rw [hlen]; unfold Free.SBG.grownN; omega) (by rw [hlen]; unfold Free.SBG.grownN; omega) (W := 8) (g := F0 m (pc + 2) ls (.ref qs.sa :: .ref x.b :: rest)) rfl (hl.1.trans S.2.2.1.symm) (Steps.refl _) (rest := rest) rfl (Nat.le_of_ble_eq_true hW) (by rw [S.2.1]; exact d2) (Nat.le_of_ble_eq_true r1) (Nat.le_of_ble_eq_true r2) r3' r4'
  rw [hT] at hda hszT
  have hd9 : H0.size ≤ da' := by
    rcases hda with h | h
    · rw [h]; exact hd0
    · rw [h]; exact hz0
  have hkp : ∀ a, a < H0.size → T'.heap[a]? = H0[a]? := fun a ha => by
    rw [l_kept (T := T.heap) (P := fun y => y = x.b ∨ y = da) (fun y cy h => keep y cy (fun z => h (Or.inl z)) (fun z => h (Or.inr z))) (by rw [hT]; omega) (by omega), hT]
    exact hold a ha
  have hlc9 : ∀ w ∈ locs ++ L', w ∈ locs0 ∨ H0.size ≤ w.base := fun w hw => by
    rcases List.mem_append.mp hw with h | h
    · exact hlc w h
    · refine Or.inr ?_
      rcases hL' w h with h | h
      · rw [h]; first | exact hq0 | exact hd0
      · rw [h]; first | exact hq0 | exact hd9
  have hB9 : Free.SBG.Bd x bC' da' A' (tx ++ gByt.getD k []).length (lU s T'.heap) := by
    rw [List.length_append, ← hlen]
    exact hB'.carry (lU_al' X'.warmed.alike) hB'.1.hb hB'.1.hd (fun _ h => h)
  have hA9 : ∀ i, i < (tx ++ gByt.getD k []).length → A'.slots[i]? = some (.int ((tx ++ gByt.getD k []).getD i 0)) := fun i hi => by
    rw [List.length_append] at hi
    by_cases hlt : i < tx.length
    · rw [hk1 i hlt, hA i hlt, l_ga hlt]
    · obtain ⟨j, rfl⟩ : ∃ j, i = tx.length + j := ⟨i - tx.length, by omega⟩
      rw [hk3 j (by omega), hbyt j (by omega), l_gr]
  have hc9 : A'.slots.size ≤ cp' := by
    rw [hlen] at hsz'
    unfold Free.SBG.grownN at hsz'
    omega
  obtain ⟨t2, a1, b1⟩ := kk T'.heap (locs ++ L') ⟨M, Nat.le_trans hz0 hszT, hkp, hlc9, ⟨cl, hcst, hstat⟩, x, bC', da', A', rfl, hxst, hq0, hd9, hB9, hA9, hc9⟩ T' rfl X'
  exact ⟨t2, come.trans a1, b1⟩
theorem l_dig : ∀ n : Nat, n < 10 → (Free.SBG.negI n = -(nI n)) ∧ (nI (48 + n)).toInt8.toInt32 = nI n + 48 ∧ ¬ nI n < 0 := by decide
theorem l_sbI {v : Int32} (S : CallFix p m c cc nL s args gTs RL) (Z : lSb B Ds s H0 locs0 q cp st tx H locs) (Cx : lCx B s) (hl : lv_has ls nL lv) (hv : vp_in v 10) (hini : Cond.initialized RJ4 ∈ gTs) (hin : Cond.instanceMethod yJ4_append_bf812 ∈ gTs) (hsel : Cond.selects RJ4 yJ4_append_bf812 yJ4_append_bf812 ∈ gTs) (hdecl : (Cond.declares yJ4_append_bf812).before args s = true) (hlink : Cond.methodLink RL i1 yJ4_append_bf812 ∈ gTs)
    (hW : Nat.ble (2 * 0 + (rest.map fun v => v.category).sum) 8 = true) {cp' : Nat} (hcp : 2 * cp + 2 + (tx.length + 1) ≤ cp') (hcp2 : cp' ≤ 65536) (hR : (Nat.ble 9 R.frames && Nat.ble 261 R.locals && Nat.ble (cells + 1) R.cells && Nat.ble (slots + cp') R.slots) = true) (d2 : decode cc pc = .ok (.invokevirtual i1, 3))
    {cells' slots' : Nat} (hc : cells + 1 = cells') (hs : slots + cp' = slots') {tx' : List Int32} (ht : tx ++ [v + 48] = tx')
    (kk : ∀ (H1 : Heap) (locs1 : List Loc), lSb B Ds s H0 locs0 q cp' st tx' H1 locs1 → W p l e R s m args below meth c H1 locs1 cells' slots' Q (F0 m (pc + 3) ls (.ref q :: rest))) : W p l e R s m args below meth c H locs cells slots Q (F0 m pc ls (.int v :: .ref q :: rest)) := by
  subst hc; subst hs; subst ht
  have hts := S.2.2.2.2
  simp only [Bool.and_eq_true] at hR
  obtain ⟨⟨⟨r1, r2⟩, r3⟩, r4⟩ := hR
  have r3' := Nat.le_of_ble_eq_true r3
  have r4' := Nat.le_of_ble_eq_true r4
  obtain ⟨n, hn, rfl⟩ := vp_in_of hv (by decide)
  obtain ⟨g1, g2, g3⟩ := l_dig n hn
  obtain ⟨ist, d1, D1, d2', D2, hT1, hT2, hdig⟩ := Cx.2.2.1
  have hwd := Cx.2.2.2
  have Z0 := Z
  obtain ⟨M, hz0, hold, hlc, ⟨cl, hcst, hstat⟩, x, bC, da, A, rfl, hxst, hq0, hd0, hB, hA, hcpA⟩ := Z
  have hS := M.2.2.2.2.1
  intro T hT X
  have hal := X.warmed.alike
  have hBT : Free.SBG.Bd x bC da A tx.length T := hB.carry (lU_al hal) (by rw [hT]; exact hB.1.hb) (by rw [hT]; exact hB.1.hd) (fun c hc => by rw [hT]; exact hc)
  have tbl : ∀ {nm : String} {d : Nat} {D : Cell}, Free.SBG.Tbl s nm ist d D → Free.SBG.Tbl T nm ist d D ∧ ist < s.heap.size ∧ d < s.heap.size := by
    rintro nm d D ⟨cf, i, k, f, cS, h1, h2, h3, h4, h5, h6, h7, h8, h9, h10, h11, h12⟩
    obtain ⟨k', hi', ek⟩ := State.fieldFound?_setVm (s := s) hal h1
    exact ⟨⟨cf, i, k', f, cS, hi', h2, by rw [ek]; exact h3, by rw [ek]; exact h4, by rw [hT]; exact l_sbOld Z0 h5, h6, h7, by rw [hT]; exact l_sbOld Z0 h8, State.isArrayOf_alike hal h9, h10, h11, h12⟩, (Array.getElem?_eq_some_iff.mp h5).1, (Array.getElem?_eq_some_iff.mp h8).1⟩
  obtain ⟨t1, u1, u2⟩ := tbl hT1
  obtain ⟨t2, -, u3⟩ := tbl hT2
  have edg : Free.SBG.digits n = 1 := by unfold Free.SBG.digits; rw [if_pos hn]
  have esg : Free.SBG.GetChars.sgn (nI n) = 0 := by unfold Free.SBG.GetChars.sgn; rw [if_neg g3]
  obtain ⟨T', L', bC', da', A1, X', hL', hB', hk1, hsz', hda, hszT, keep, come⟩ := X.sbAppendI S.1 (own := RL) (index := i1) S.2.2.2.1 (hts _ hlink) hdecl (hts _ hsel) (hts _ hin) (hts _ hini) (of_flat _ (fun w hw => hwd w (List.mem_append_right _ (List.mem_append_right _ (List.mem_append_right _ (List.mem_append_left _ hw)))) _)) hBT (v := nI n) (nn := n) (by omega) (by rw [if_neg g3]; exact g1.symm) t1 t2 ⟨l_ne (Or.inr (Nat.lt_of_lt_of_le u1 (Nat.le_trans hS hq0))), l_ne (Or.inr (Nat.lt_of_lt_of_le u2 (Nat.le_trans hS hq0))), l_ne (Or.inr (Nat.lt_of_lt_of_le u3 (Nat.le_trans hS hq0))), l_ne (Or.inr (Nat.lt_of_lt_of_le u1 (Nat.le_trans hS hd0))), l_ne (Or.inr (Nat.lt_of_lt_of_le u2 (Nat.le_trans hS hd0))), l_ne (Or.inr (Nat.lt_of_lt_of_le u3 (Nat.le_trans hS hd0)))⟩ (cap := cp') (by rw [edg, esg]; unfold Free.SBG.grownN; omega) (by rw [edg, esg]; unfold Free.SBG.grownN; omega) (W := 8) (g := F0 m pc ls (.int (nI n) :: .ref x.b :: rest)) rfl (hl.1.trans S.2.2.1.symm) (Steps.refl _) (rest := rest) rfl (Nat.le_of_ble_eq_true hW) (by rw [S.2.1]; exact d2) (Nat.le_of_ble_eq_true r1) (Nat.le_of_ble_eq_true r2) r3' r4'
  rw [hT] at hda hszT
  have hd9 : H0.size ≤ da' := by
    rcases hda with h | h
    · rw [h]; exact hd0
    · rw [h]; exact hz0
  have hkp : ∀ a, a < H0.size → T'.heap[a]? = H0[a]? := fun a ha => by
    rw [l_kept (T := T.heap) (P := fun y => y = x.b ∨ y = da) (fun y cy h => keep y cy (fun z => h (Or.inl z)) (fun z => h (Or.inr z))) (by rw [hT]; omega) (by omega), hT]
    exact hold a ha
  rw [edg, esg] at hB' hsz' hk1
  have eout : Free.SBG.GetChars.outCell ⟨nI n, n, tx.length + (1 + 0), da', A1, ist, d1, D1, d2', D2⟩ = Free.SBG.put A1 tx.length (nI (48 + n)) := by
    unfold Free.SBG.GetChars.outCell
    dsimp only
    rw [if_neg g3]
    show (Free.SBG.digLoop D1 D2 5 A1 n (tx.length + 1)).1 = _
    unfold Free.SBG.digLoop
    rw [if_neg (by omega), if_neg (by omega), hdig n hn]
    rfl
  rw [eout] at hB' hsz' hk1
  have hfull := hB'.1.2.2.2.2.2.2.2.2.2.2.2.2.2.2.2.2.1
  have hput : (Free.SBG.put A1 tx.length (nI (48 + n))).slots.size = A1.slots.size := (Free.SBG.put_facts _ _ _).2.2
  have hlc9 : ∀ w ∈ locs ++ L', w ∈ locs0 ∨ H0.size ≤ w.base := fun w hw => by
    rcases List.mem_append.mp hw with h | h
    · exact hlc w h
    · refine Or.inr ?_
      rcases hL' w h with h | h
      · rw [h]; first | exact hq0 | exact hd0
      · rw [h]; first | exact hq0 | exact hd9
  have hB9 : Free.SBG.Bd x bC' da' (Free.SBG.put A1 tx.length (nI (48 + n))) (tx ++ [nI n + 48]).length (lU s T'.heap) := by
    rw [List.length_append]
    exact hB'.carry (lU_al' X'.warmed.alike) hB'.1.hb hB'.1.hd (fun _ h => h)
  have hA9 : ∀ i, i < (tx ++ [nI n + 48]).length → (Free.SBG.put A1 tx.length (nI (48 + n))).slots[i]? = some (.int ((tx ++ [nI n + 48]).getD i 0)) := fun i hi => by
    rw [List.length_append] at hi
    by_cases hlt : i < tx.length
    · rw [hk1 i hlt, hA i hlt, l_ga hlt]
    · obtain rfl : i = tx.length := by have : ([nI n + 48] : List Int32).length = 1 := rfl; omega
      rw [show (tx ++ [nI n + 48]).getD tx.length 0 = nI n + 48 from l_gr (a := tx) (b := [nI n + 48]) (j := 0)]
      show (A1.setSlot tx.length (.int (nI (48 + n)).toInt8.toInt32)).slots[tx.length]? = some (.int (nI n + 48))
      rw [g2, Cell.slots_setSlot_self _ (by omega)]
  have hc9 : (Free.SBG.put A1 tx.length (nI (48 + n))).slots.size ≤ cp' := by
    unfold Free.SBG.grownN at hsz'
    omega
  obtain ⟨t2, a1, b1⟩ := kk T'.heap (locs ++ L') ⟨M, Nat.le_trans hz0 hszT, hkp, hlc9, ⟨cl, hcst, hstat⟩, x, bC', da', _, rfl, hxst, hq0, hd9, hB9, hA9, hc9⟩ T' rfl X'
  exact ⟨t2, come.trans a1, b1⟩
/-- the text that was built is one of B's -/
def lBs (B : gB) (x : Nat × Nat × List Int32) : gB := (B.1, B.2.1, B.2.2.1, B.2.2.2.1, B.2.2.2.2.1, B.2.2.2.2.2.1, B.2.2.2.2.2.2.1, x :: B.2.2.2.2.2.2.2)
theorem gWS_lBs (B : gB) (x : Nat × Nat × List Int32) (ad : Nat → Nat) (lo : Int64) (dd : UInt64) (σ : gM) : gWS (ad, lBs B x) lo dd σ = gWS (ad, B) lo dd σ := by
  unfold gWS gent gfm
  rfl
theorem l_str {x : Nat × Nat × List Int32} (M : lM B Ds s H locs) (hx : vk_S 1 [x.2.2.length] [x.2.2] (fun _ => x.1) (fun _ => x.2.1) (lA Ds H.size) s H) : lM (lBs B x) Ds s H locs := by
  obtain ⟨hK, hD, hJ, ⟨c1, c2, c3, c4⟩, hS⟩ := M
  refine ⟨hK, fun a D h => ?_, hJ, ⟨c1, fun y hy => ?_, c3, c4⟩, hS⟩
  · rw [gWS_lBs]
    exact hD a D h
  · rcases List.mem_cons.mp hy with rfl | hy
    · exact hx
    · exact c2 y hy
theorem l_Cs {x : Nat × Nat × List Int32} (h : lCs B s) : lCs (lBs B x) s := h
theorem l_Cx {x : Nat × Nat × List Int32} (h : lCx B s) : lCx (lBs B x) s := h
/-- more heap, nothing else -/
theorem l_grow {H1 : Heap} {locs1 : List Loc} (M : lM B Ds s H locs) (hz : H.size ≤ H1.size) (hk : ∀ q, q < H.size → H1[q]? = H[q]?) (hL : ∀ w ∈ locs1, w ∈ locs ∨ H.size ≤ w.base) : lM B Ds s H1 locs1 := by
  obtain ⟨hK, hD, hJ, hC, hS⟩ := M
  refine ⟨hK, fun a D h => ⟨(hD a D h).1.kept (fun i q hq => hk q.1 ((hD a D h).1 i q hq).lt), (hD a D h).2⟩, hJ, (hC.kept (fun q h1 _ => hk q h1)).narrow (fun q hq => ?_), Nat.le_trans hS.1 hz, fun q h1 h2 => ?_, fun w hw => ?_⟩
  · rcases hq with h | h
    · exact Or.inl h
    · exact Or.inr (Nat.le_trans hz h)
  · rw [hk q (Nat.lt_of_lt_of_le h1 hS.1)]
    exact hS.2.1 q h1 h2
  · rcases hL w hw with h | h
    · exact hS.2.2 w h
    · exact Nat.le_trans hS.1 h
def lOkb (t : List Int32) : Bool := t.all (fun x => decide (0 ≤ x ∧ x < 128)) && decide (t.length ≤ 65536)
theorem lOkb_c : ∀ n : Nat, n < 128 → gOkc (nI n) := by unfold gOkc; decide +kernel
theorem lOkb_x {t : List Int32} (h : lOkb t = true) : t.length ≤ 65536 ∧ ∀ j, j < t.length → gOkc (t.getD j 0) := by
  unfold lOkb at h
  rw [Bool.and_eq_true] at h
  refine ⟨of_decide_eq_true h.2, fun j hj => ?_⟩
  have h1 := List.all_eq_true.mp h.1 t[j] (List.getElem_mem hj)
  have h1 := of_decide_eq_true h1
  rw [List.getD_eq_getElem?_getD, List.getElem?_eq_getElem hj, Option.getD_some]
  have h2 : vp_in t[j] 128 := by
    unfold vp_in
    intro z
    have a0 : (0 : Int32).toInt = 0 := by decide
    have a1 : (128 : Int32).toInt = 128 := by decide
    have e1 := Int32.le_iff_toInt_le.mp h1.1
    have e2 := Int32.lt_iff_toInt_lt.mp h1.2
    rw [a0] at e1
    rw [a1] at e2
    rcases z with z | z
    · rw [Int32.lt_iff_toInt_lt, a0] at z
      omega
    · have h3 : t[j].toNatClampNeg = t[j].toInt.toNat := rfl
      omega
  obtain ⟨n, hn, e9⟩ := vp_in_of h2 (by decide)
  rw [e9]
  exact lOkb_c n hn
theorem l_sbEnd {t : List Int32} (S : CallFix p m c cc nL s args gTs RL) (Z : lSb B Ds s H0 locs0 q cp st tx H locs) (Cx : lCx B s) (hl : lv_has ls nL lv) (ht : t = tx) (hok : lOkb t = true) (hcp : cp ≤ 65536) (hini : Cond.initialized RJ4 ∈ gTs) (hin : Cond.instanceMethod yJ4_toString_0e30d ∈ gTs) (hsel : Cond.selects RJ4 yJ4_toString_0e30d yJ4_toString_0e30d ∈ gTs) (hdecl : (Cond.declares yJ4_toString_0e30d).before args s = true) (hlink : Cond.methodLink RL i1 yJ4_toString_0e30d ∈ gTs)
    (hW : Nat.ble (2 * 0 + (rest.map fun v => v.category).sum) 8 = true) (hR : (Nat.ble 11 R.frames && Nat.ble 280 R.locals && Nat.ble (cells + 2) R.cells && Nat.ble (slots + (4 + cp)) R.slots) = true) (d2 : decode cc pc = .ok (.invokevirtual i1, 3))
    {cells' slots' : Nat} (hc : cells + 2 = cells') (hs : slots + (4 + cp) = slots')
    (kk : ∀ (q v : Nat) (H1 : Heap) (locs1 : List Loc), (∀ ad : Nat → Nat, gStr (ad, lBs B (q, v, t)) q v t) → lM (lBs B (q, v, t)) Ds s H1 locs1 → W p l e R s m args below meth c H1 locs1 cells' slots' Q (F0 m (pc + 3) ls (.ref q :: rest))) : W p l e R s m args below meth c H locs cells slots Q (F0 m pc ls (.ref q :: rest)) := by
  subst hc; subst hs; subst ht
  have hts := S.2.2.2.2
  simp only [Bool.and_eq_true] at hR
  obtain ⟨⟨⟨r1, r2⟩, r3⟩, r4⟩ := hR
  have r3' := Nat.le_of_ble_eq_true r3
  have r4' := Nat.le_of_ble_eq_true r4
  have hwd := Cx.2.2.2
  have Z0 := Z
  obtain ⟨M, hz0, hold, hlc, ⟨cl, hcst, hstat⟩, x, bC, da, A, rfl, hxst, hq0, hd0, hB, hA, hcpA⟩ := Z
  have hS := M.2.2.2.2.1
  intro T hT X
  have hal := X.warmed.alike
  have hBT : Free.SBG.Bd x bC da A t.length T := hB.carry (lU_al hal) (by rw [hT]; exact hB.1.hb) (by rw [hT]; exact hB.1.hd) (fun c hc => by rw [hT]; exact hc)
  obtain ⟨T', qs, cS, X', hsa, hsd, hlen, hSl, -, -, hbyt, keep, come⟩ := X.sbToStringG S.1 (own := RL) (index := i1) S.2.2.2.1 (hts _ hlink) hdecl (hts _ hsel) (hts _ hin) (hts _ hini) (of_flat _ (fun w hw => hwd w (List.mem_append_right _ (List.mem_append_right _ (List.mem_append_right _ (List.mem_append_right _ (List.mem_append_left _ hw))))) _)) (of_flat _ (fun w hw => hwd w (List.mem_append_right _ (List.mem_append_right _ (List.mem_append_right _ (List.mem_append_right _ (List.mem_append_right _ (List.mem_append_left _ hw)))))) _)) (fun w hw => hwd w (List.mem_append_right _ (List.mem_append_right _ (List.mem_append_right _ (List.mem_append_right _ (List.mem_append_right _ (List.mem_append_right _ (List.mem_append_right _ hw))))))) _) hBT (W := 8) (g := F0 m pc ls (.ref x.b :: rest)) rfl (hl.1.trans S.2.2.1.symm) (Steps.refl _) (rest := rest) rfl (Nat.le_of_ble_eq_true hW) (by rw [S.2.1]; exact d2) (Nat.le_of_ble_eq_true r1) (Nat.le_of_ble_eq_true r2) r3' (by omega)
  have hkp : ∀ a, a < H0.size → T'.heap[a]? = H0[a]? := fun a ha => by
    rw [l_kept (T := T.heap) (P := fun _ => False) (fun y cy _ h => keep y cy h) (by rw [hT]; omega) (fun z => z), hT]
    exact hold a ha
  have hsaT : qs.sa < T'.heap.size := (Array.getElem?_eq_some_iff.mp hSl.1.ha).1
  have hsdT : qs.sd < T'.heap.size := (Array.getElem?_eq_some_iff.mp hSl.1.hd).1
  have hzT : H.size ≤ T'.heap.size := by
    rw [hT] at hsa
    rw [hsa] at hsaT
    exact Nat.le_of_lt hsaT
  have M1 : lM B Ds s T'.heap locs := l_grow M (Nat.le_trans hz0 hzT) hkp hlc
  have hnA : ∀ a, H0.size ≤ a → a < T'.heap.size → ¬ lA Ds T'.heap.size a := by
    rintro a h1 h2 (⟨a9, D, h, i, hi, e9⟩ | h3)
    · have := lM_lt M h hi
      omega
    · omega
  have hSl' : Free.SBG.Sl qs cS (lU s T'.heap) := hSl.carry (lU_al' X'.warmed.alike) hSl.1.ha hSl.1.hd
  rw [hT] at hsa hsd
  have hsa0 : H0.size ≤ qs.sa := by rw [hsa]; exact hz0
  have hsd0 : H0.size ≤ qs.sd := Nat.le_trans hz0 (Nat.le_of_lt hsd)
  have hV : vk_S 1 [t.length] [t] (fun _ => qs.sa) (fun _ => qs.sd) (lA Ds T'.heap.size) s T'.heap := by
    refine ⟨fun i hi => ?_, fun i j hi hj _ => by omega⟩
    obtain rfl : i = 0 := by omega
    obtain ⟨⟨h1, h2, h3, ⟨v1, v2, v3, v4, -⟩, ⟨w1, w2, w3, w4, -⟩, h6, h7, h8, h9, h10, h11, h12, h13, h14, h15, -⟩, h16, h17⟩ := hSl'
    refine ⟨⟨qs.sC, h1, h3, by rw [h17]; exact h16, hnA _ hsa0 hsaT⟩, ⟨w1, w2, w3, qs.fSC, qs.sC, w4, h7, h1, h2, h9, hnA _ hsa0 hsaT⟩, ⟨v1, v2, v3, qs.fSV, qs.sC, v4, h6, h1, h2, h8, hnA _ hsa0 hsaT⟩, ⟨qs.SA, h10, h11, h12, ?_, ?_, fun j hj => ?_, hnA _ hsd0 hsdT⟩⟩
    · show t.length ≤ _
      rw [h13, hlen]
      exact Nat.le_refl _
    · show _ = Int32.ofNat t.length
      rw [h13, hlen]
    · have hj : j < t.length := hj
      rw [hbyt j (by omega)]
      exact hA j hj
  have M2 : lM (lBs B (qs.sa, qs.sd, t)) Ds s T'.heap locs := l_str M1 hV
  obtain ⟨o1, o2⟩ := lOkb_x hok
  obtain ⟨t2, a1, b1⟩ := kk qs.sa qs.sd T'.heap locs (fun ad => gStr_b (ad, lBs B (qs.sa, qs.sd, t)) (x := (qs.sa, qs.sd, t)) List.mem_cons_self o1 o2) M2 T' rfl (X'.more (by omega) (by have := hB.1.2.2.2.2.2.2.2.2.2.2.2.2.2.2.2.2.1; omega))
  rw [hT] at come
  rw [hsa] at a1
  exact ⟨t2, come.trans a1, b1⟩
end LSB
