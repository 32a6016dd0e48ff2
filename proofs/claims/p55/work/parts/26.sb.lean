def gb {α : Type} (b : Bool) (A : Option α) : Option α := if b = true then A else none
theorem gb_x {α : Type} {b : Bool} {A : Option α} {r : α} (h : gb b A = some r) : b = true ∧ A = some r := by
  unfold gb at h
  by_cases hc : b = true
  · rw [if_pos hc] at h; exact ⟨hc, h⟩
  · rw [if_neg hc] at h; cases h
theorem gtc_x {α : Type} {c : Prop} {i : Decidable c} {A : Option α} {r : α} (h : @ite _ c i A none = some r) : c ∧ A = some r := by
  by_cases hc : c
  · rw [if_pos hc] at h; exact ⟨hc, h⟩
  · rw [if_neg hc] at h; cases h
theorem gfc_x {α : Type} {c : Prop} {i : Decidable c} {A : Option α} {r : α} (h : @ite _ c i none A = some r) : ¬ c ∧ A = some r := by
  by_cases hc : c
  · rw [if_pos hc] at h; cases h
  · rw [if_neg hc] at h; exact ⟨hc, h⟩
theorem va_declares {args : Array Value} {s : State} {x : MethodName} {b : ByteArray} {n : Nat} {ret : Option FieldType} (hi : (Cond.instanceMethod x).before args s = true) (hc : (Cond.code x b n ret).before args s = true) : (Cond.declares x).before args s = true := by
  obtain ⟨r0, r, h1, h2, h3, h4⟩ := va_Decl.of hi hc
  simp [Cond.before, Cond.holds, Cond.value, h1, h2, h3, h4]
/-! STRINGBUILDER in the law, by the contracts of 25b -/
/-- texts of the law that are built upon -/
def lKs : List Nat := [16, 17, 18, 31, 32]
theorem lKs_fit : ∀ k ∈ lKs, k < 34 ∧ 16 ≤ k ∧ ∀ j, j < (gByt.getD k []).length → fits .byte (.int ((gByt.getD k []).getD j 0)) = true := by decide +kernel
/-- Integer's table, the private methods -/
def lCx (B : gB) (s : State) : Prop :=
  (∃ (d1 : Nat) (tab : Nat → Int32), va_Z RJ6 "DigitOnes" "[B" (.ref d1) (fun q => s.heap.size ≤ q) s s.heap ∧ va_T .byte d1 100 (fun j => .int (tab j)) (fun q => s.heap.size ≤ q) s s.heap ∧ ∀ r, r < 10 → tab r = nI (48 + r)) ∧ bW s
/-- since H0: only more heap -/
def lFr (B : gB) (Ds : lDs) (s : State) (H0 : Heap) (locs0 : List Loc) (H : Heap) (locs : List Loc) : Prop :=
  lM B Ds s H0 locs0 ∧ H0.size ≤ H.size ∧ (∀ a, a < H0.size → H[a]? = H0[a]?) ∧ ∀ w ∈ locs, w ∈ locs0 ∨ H0.size ≤ w.base
/-- the walk while a text is built: H0 is the heap before -/
def lSb (B : gB) (Ds : lDs) (s : State) (H0 : Heap) (locs0 : List Loc) (q cp : Nat) (st : Nat) (tx : List Int32) (H : Heap) (locs : List Loc) : Prop :=
  lFr B Ds s H0 locs0 H locs ∧ ∃ (b : Nat) (ml : Int32) (c : Nat) (f : Nat → Int32), va_P (gtD (lz B)) vwCl (bB (lz B) q b ml (nI tx.length) c f) H ∧ va_D (bA H0.size) (bB (lz B) q b ml (nI tx.length) c f) ∧ c ≤ cp ∧ tx.length ≤ c ∧ sb_Fit f ∧ ∀ j, j < tx.length → f j = tx.getD j 0
theorem l_ga {a b : List Int32} {i : Nat} (h : i < a.length) : (a ++ b).getD i 0 = a.getD i 0 := by
  rw [List.getD_eq_getElem?_getD, List.getElem?_append, if_pos h, List.getD_eq_getElem?_getD]
theorem l_gr {a b : List Int32} {j : Nat} : (a ++ b).getD (a.length + j) 0 = b.getD j 0 := by
  rw [List.getD_eq_getElem?_getD, List.getElem?_append, if_neg (by omega), List.getD_eq_getElem?_getD, Nat.add_sub_cancel_left]
theorem l_ne {a b : Nat} (h : a < b ∨ b < a) : a ≠ b := by omega
theorem l_bC {B : gB} {Ds : lDs} {s U : State} {H0 H : Heap} {locs0 locs : List Loc} (Z : lFr B Ds s H0 locs0 H locs) (Cs : lCs B s) (Cx : lCx B s) (hU : U.heap = H) (hW : s.WarmedH U.vm) : bC (lz B) H0.size U := by
  obtain ⟨M, hz, hk, -⟩ := Z
  obtain ⟨⟨d1, tab, hZ, hT, hd⟩, hPr⟩ := Cx
  have hS := M.2.2.2.2
  have up : ∀ q : Nat, bA H0.size q → s.heap.size ≤ q := fun q hq => Nat.le_trans hS.1 hq
  have old : ∀ a : Nat, a < s.heap.size → ¬ s.heap.size ≤ a → H[a]? = s.heap[a]? := fun a h1 h2 => by
    rw [hk a (Nat.lt_of_lt_of_le h1 hS.1)]
    exact hS.2.1 a h1 h2
  have hC : lCh B (bA H0.size) s H := (M.2.2.2.1.narrow (fun q hq => Or.inr hq)).kept (fun a h1 _ => hk a h1)
  refine ⟨by rw [hU]; exact hz, M.1.moved hW.alike, l_cst (fun _ => 0) Cs hC (fun q hq => hq) hU hW, hPr.warm hW, d1, tab, ?_, ?_, hd⟩
  · rw [hU]; exact (va_Z.moved hW.alike (hZ.kept old)).narrow up
  · rw [hU]; exact (va_T.moved hW.alike (hT.kept old)).narrow up
theorem l_cap {q m cp cp' : Nat} (h : m ≤ cp) (h2 : 2 * cp + 2 + q ≤ cp') : sb_cap q m ≤ cp' := by
  unfold sb_cap
  split
  · omega
  · split <;> omega
section LSB
variable {p : Program} {l : Launch} {e : Env} {R : Room} {s : State} {m : MethodId} {args : Array Value} {below : List Frame} {meth : Method} {c : Code} {H H0 : Heap} {locs locs0 : List Loc} {cells slots : Nat} {Q : State → Prop}
variable {cc : ByteArray} {nL : Nat} {pc : Nat} {ls : Array Slot} {rest : List Value} {B : gB} {Ds : lDs} {lv : List (Nat × Value)} {q cp st k i0 i1 i4 : Nat} {tx : List Int32}
theorem l_ldcW {own text : String} {index q : Nat} (hexec : p.tables.exec = Jvm.exec) (hb : c.code = cc) (hown : s.vm.findClass own = some m.cls) (hZ : vk_R own index text q s) (hdg : decode cc pc = .ok (.ldc_w index, 3))
    (kk : W p l e R s m args below meth c H locs cells slots Q (F0 m (pc + 3) ls (.ref q :: rest))) : W p l e R s m args below meth c H locs cells slots Q (F0 m pc ls rest) := by
  intro T hT X
  obtain ⟨t, a1, b1⟩ := kk T hT X
  exact ⟨t, X.ldcStringW hexec hown (text := text) (a := q) hZ.1 hZ.2 (g := F0 m pc ls rest) rfl (by rw [hb]; exact hdg) t a1, b1⟩
theorem l_bpre {av : List Value} {ws : va_W} (Z : lFr B Ds s H0 locs0 H locs) (Cs : lCs B s) (Cx : lCx B s) (hP : va_P (gtD (lz B)) vwCl ws H) (hD : va_D (bA H0.size) ws) : FrameBlind (bPc (lz B) H0.size av ws) ∧ ∀ U : State, U.heap = H → s.WarmedH U.vm → bPc (lz B) H0.size av ws av.toArray U :=
  ⟨bPc_blind, fun U hU hW => ⟨rfl, by rw [hU]; exact hP, hD, l_bC Z Cs Cx hU hW⟩⟩
theorem l_bgo {mc ms : Nat} {st0 : List Value} {a : Array Value} {post : Option Value → va_W → Prop} (Z : lFr B Ds s H0 locs0 H locs) (hr : va_Run p l e R s m args below meth c H locs cells slots mc ms (F0 m pc ls st0) rest (bQc (lz B) H0.size post a) (bA H0.size)) {cells' slots' : Nat} (hc : cells + mc ≤ cells') (hs : slots + ms ≤ slots')
    (kk : ∀ (v : Option Value) (ws : va_W) (H : Heap) (locs : List Loc), post v ws → va_P (gtD (lz B)) vwCl ws H → va_D (bA H0.size) ws → lFr B Ds s H0 locs0 H locs → W p l e R s m args below meth c H locs cells' slots' Q (F0 m (pc + 3) ls (v.toList ++ rest))) : W p l e R s m args below meth c H locs cells slots Q (F0 m pc ls st0) := by
  intro T hT X
  obtain ⟨v, st₀, t, T', L, h0, X', hL, e1, e2, ⟨⟨v2, w2, hv, hp, hP, hD⟩, hz, hk⟩, st⟩ := hr T hT X
  cases hv
  rw [h0] at hz hk
  obtain ⟨z1, z2, z3, z4⟩ := Z
  obtain ⟨t2, a1, b1⟩ := kk v w2 T'.heap (locs ++ L) hp (by rw [e1]; exact hP) hD ⟨z1, Nat.le_trans z2 (by rw [e1]; exact hz), fun q h1 => by
    rw [e1, hk q (Nat.lt_of_lt_of_le h1 z2) (fun z => absurd z (Nat.not_le.mpr h1))]
    exact z3 q h1, fun w hw => by
    rcases List.mem_append.mp hw with h | h
    · exact z4 w h
    · exact Or.inr (hL w h)⟩ T' rfl (X'.more hc hs)
  exact ⟨t2, st t2 a1, b1⟩
theorem l_sbNew (S : CallFix p m c cc nL s args gTs RL) (M : lM B Ds s H locs) (Cs : lCs B s) (Cx : lCx B s) (hl : lv_has ls nL lv) (hcl : Cond.classLink RL i0 RJ4 ∈ gTs) (hinst : Cond.instantiable RJ4 4 ∈ gTs) (hini : Cond.initialized RJ4 ∈ gTs) (hin : Cond.instanceMethod yJ4_init_da8c8 ∈ gTs) (hlink : Cond.methodLink RL i4 yJ4_init_da8c8 ∈ gTs)
    (hW : Nat.ble (0 + (1 + (rest.map fun v => v.category).sum)) 8 = true) (hR : (Nat.ble 5 R.frames && Nat.ble 90 R.locals && Nat.ble (cells + 2) R.cells && Nat.ble (slots + 20) R.slots) = true) (d0 : decode cc pc = .ok (.new i0, 3)) (d3 : decode cc (pc + 3) = .ok (.dup, 1)) (d4 : decode cc (pc + 4) = .ok (.invokespecial i4, 3))
    {cells' slots' : Nat} (hc : cells + 2 = cells') (hs : slots + 20 = slots')
    (kk : ∀ (q st : Nat) (H1 : Heap) (locs1 : List Loc), lSb B Ds s H locs q 16 st [] H1 locs1 → W p l e R s m args below meth c H1 locs1 cells' slots' Q (F0 m (pc + 7) ls (.ref q :: rest))) : W p l e R s m args below meth c H locs cells slots Q (F0 m pc ls rest) := by
  subst hc; subst hs
  have hts := S.2.2.2.2
  simp only [Bool.and_eq_true] at hR
  obtain ⟨⟨⟨r1, r2⟩, r3⟩, r4⟩ := hR
  have r1' := Nat.le_of_ble_eq_true r1
  have r2' := Nat.le_of_ble_eq_true r2
  have r3' := Nat.le_of_ble_eq_true r3
  have r4' := Nat.le_of_ble_eq_true r4
  have hKn := M.1.1 1 _ rfl
  refine W.newcK S.1 S.2.1 S.2.2.2.1 (hts _ hcl) (hts _ hinst) (hts _ hini) rfl d0 (by omega) (by omega) hKn.2.1 rfl fun H1 kC hkC e1 z1 o1 => ?_
  refine lv_dup S.1 S.2.1 d3 rfl ?_
  have Z : lFr B Ds s H locs H1 locs := ⟨M, by omega, fun a ha => o1 a ha, fun w hw => Or.inl hw⟩
  have hP : va_P (gtD (lz B)) vwCl [(H.size, .inr (1, [.null, .int 0, .int 0, .int 0]))] H1 := fun i x hx => by
    match i, hx with
    | 0, hx =>
      cases hx
      exact ⟨_, rfl, (u_born tyJ4 hts inJ4 hKn hkC e1 tyJ4_ok).to (fun j hj => by
        match j, hj with
        | 0, _ => rfl
        | 1, _ => rfl
        | 2, _ => rfl
        | 3, _ => rfl)⟩
  have hD : va_D (bA H.size) [(H.size, (.inr (1, [.null, .int 0, .int 0, .int 0]) : va_E))] := ⟨fun i j x y hx hy _ => by
    have h1 := (List.getElem?_eq_some_iff.mp hx).1
    have h2 := (List.getElem?_eq_some_iff.mp hy).1
    simp only [List.length_singleton] at h1 h2
    omega, fun i x hx => by
    match i, hx with
    | 0, hx => cases hx; exact Nat.le_refl _⟩
  obtain ⟨k1, k2, k3⟩ := k_J4_init_da8c8
  refine l_bgo Z (va_runI (rest := .ref H.size :: rest) S (c_J4_init_da8c8 l (lz B) H.size (q := H.size)) ⟨callB_of 0 hts (gGood k1) rfl rfl rfl (hts _ k2) (hts _ hlink) k3 ⟨Nat.le_trans (Nat.le_of_ble_eq_true rfl) r1', Nat.le_trans (Nat.le_of_ble_eq_true rfl) r2'⟩, rfl, hts _ hin⟩ (l_bpre (av := [.ref H.size]) Z Cs Cx hP hD) rfl rfl hl.1 (As := []) rfl (Nat.le_of_ble_eq_true hW) d4 ⟨by dsimp only; omega, by dsimp only; omega⟩) (cells' := cells + 2) (slots' := slots + 20) (by dsimp only; omega) (by show slots + 4 + 16 ≤ _; omega) (fun v ws H1 locs1 hp hP hD Z => ?_)
  obtain ⟨b, rfl, rfl⟩ := hp
  exact kk H.size 0 H1 locs1 ⟨Z, b, 0, 16, _, hP, hD, Nat.le_refl _, Nat.zero_le _, sb_fit0, fun j hj => absurd hj (Nat.not_lt_zero j)⟩
theorem l_sbS {text : String} (S : CallFix p m c cc nL s args gTs RL) (Z : lSb B Ds s H0 locs0 q cp st tx H locs) (Cs : lCs B s) (Cx : lCx B s) (hl : lv_has ls nL lv) (hk : k ∈ lKs) (hk2 : k < 34) (htx : gTx.getD k ("", 0, "") = (RL, i0, text)) (hini : Cond.initialized RJ4 ∈ gTs) (hin : Cond.instanceMethod yJ4_append_15ec4 ∈ gTs) (hsel : Cond.selects RJ4 yJ4_append_15ec4 yJ4_append_15ec4 ∈ gTs) (hlink : Cond.methodLink RL i1 yJ4_append_15ec4 ∈ gTs)
    (hW : Nat.ble (0 + (rest.map fun v => v.category).sum) 8 = true) {cp' : Nat} (hcp : 2 * cp + 2 + (tx.length + (gByt.getD k []).length) ≤ cp') (hcp2 : cp' ≤ 65536) (hR : (Nat.ble 10 R.frames && Nat.ble 321 R.locals && Nat.ble (cells + 1) R.cells && Nat.ble (slots + cp') R.slots) = true) (d0 : decode cc pc = .ok (.ldc i0, 2)) (d2 : decode cc (pc + 2) = .ok (.invokevirtual i1, 3))
    {cells' slots' : Nat} (hc : cells + 1 = cells') (hs : slots + cp' = slots') {tx' : List Int32} (ht : tx ++ gByt.getD k [] = tx')
    (kk : ∀ (H1 : Heap) (locs1 : List Loc), lSb B Ds s H0 locs0 q cp' st tx' H1 locs1 → W p l e R s m args below meth c H1 locs1 cells' slots' Q (F0 m (pc + 5) ls (.ref q :: rest))) : W p l e R s m args below meth c H locs cells slots Q (F0 m pc ls (.ref q :: rest)) := by
  subst hc; subst hs; subst ht
  have hts := S.2.2.2.2
  simp only [Bool.and_eq_true] at hR
  obtain ⟨⟨⟨r1, r2⟩, r3⟩, r4⟩ := hR
  have r1' := Nat.le_of_ble_eq_true r1
  have r2' := Nat.le_of_ble_eq_true r2
  have r3' := Nat.le_of_ble_eq_true r3
  have r4' := Nat.le_of_ble_eq_true r4
  obtain ⟨-, h16, hft⟩ := lKs_fit k hk
  have hR0 := Cs.2.2.1 k hk2
  rw [htx] at hR0
  refine va_ldcS S.1 S.2.1 S.2.2.2.1 hR0 d0 ?_
  obtain ⟨Z, b, ml, cc0, f, hP, hD, hcl, htl, hf, hfx⟩ := Z
  have hstr : gStr (lz B) (gtK (lz B) k) (gtV (lz B) k) (gByt.getD k []) := gStr_k (lz B) h16 hk2
  have hcap : sb_cap (tx.length + (gByt.getD k []).length) cc0 ≤ cp' := l_cap hcl hcp
  obtain ⟨k1, k2, k3⟩ := k_J4_append_15ec4
  refine l_bgo Z (va_runV (C := RJ4) (rest := rest) S (c_J4_append_15ec4 l (lz B) H0.size (q := q) (ml := ml) (f := f) hstr (ms := cp') htl (by omega) hf hft (Or.inr ⟨hcap, by omega⟩)) ⟨callB_of 1 hts (gGood k1) rfl rfl rfl (hts _ k2) (hts _ hlink) k3 ⟨Nat.le_trans (Nat.le_of_ble_eq_true rfl) r1', Nat.le_trans (Nat.le_of_ble_eq_true rfl) r2'⟩, hts _ hin, hts _ hsel⟩ ⟨(l_bpre (av := [.ref q, .ref (gtK (lz B) k)]) Z Cs Cx hP hD).1, va_recv (ci := 1) (q := (RJ4, TJ4, 4)) (q0 := 0) Z.1.1 hP rfl rfl, (l_bpre (av := [.ref q, .ref (gtK (lz B) k)]) Z Cs Cx hP hD).2⟩ rfl rfl hl.1 (As := [.ref (gtK (lz B) k)]) rfl (Nat.le_of_ble_eq_true hW) d2 ⟨by dsimp only; omega, by dsimp only; omega⟩) (cells' := cells + 1) (slots' := slots + cp') (by dsimp only; omega) (by dsimp only; omega) (fun v ws H1 locs1 hp hP hD Z => ?_)
  obtain ⟨b', f', rfl, rfl, hf', h1, h2⟩ := hp
  refine kk H1 locs1 ⟨Z, b', ml, _, f', by rw [List.length_append]; exact hP, by rw [List.length_append]; exact hD, hcap, by rw [List.length_append]; exact sb_cap_ge _ _, hf', fun j hj => ?_⟩
  rw [List.length_append] at hj
  by_cases hlt : j < tx.length
  · rw [h1 j hlt, hfx j hlt, l_ga hlt]
  · obtain ⟨i, rfl⟩ : ∃ i, j = tx.length + i := ⟨j - tx.length, by omega⟩
    rw [h2 i (by omega), l_gr]
theorem l_sbI {v : Int32} (S : CallFix p m c cc nL s args gTs RL) (Z : lSb B Ds s H0 locs0 q cp st tx H locs) (Cs : lCs B s) (Cx : lCx B s) (hl : lv_has ls nL lv) (hv : vp_in v 10) (hini : Cond.initialized RJ4 ∈ gTs) (hin : Cond.instanceMethod yJ4_append_bf812 ∈ gTs) (hsel : Cond.selects RJ4 yJ4_append_bf812 yJ4_append_bf812 ∈ gTs) (hlink : Cond.methodLink RL i1 yJ4_append_bf812 ∈ gTs)
    (hW : Nat.ble (0 + (rest.map fun v => v.category).sum) 8 = true) {cp' : Nat} (hcp : 2 * cp + 2 + (tx.length + 1) ≤ cp') (hcp2 : cp' ≤ 65536) (hR : (Nat.ble 9 R.frames && Nat.ble 261 R.locals && Nat.ble (cells + 1) R.cells && Nat.ble (slots + cp') R.slots) = true) (d2 : decode cc pc = .ok (.invokevirtual i1, 3))
    {cells' slots' : Nat} (hc : cells + 1 = cells') (hs : slots + cp' = slots') {tx' : List Int32} (ht : tx ++ [v + 48] = tx')
    (kk : ∀ (H1 : Heap) (locs1 : List Loc), lSb B Ds s H0 locs0 q cp' st tx' H1 locs1 → W p l e R s m args below meth c H1 locs1 cells' slots' Q (F0 m (pc + 3) ls (.ref q :: rest))) : W p l e R s m args below meth c H locs cells slots Q (F0 m pc ls (.int v :: .ref q :: rest)) := by
  subst hc; subst hs; subst ht
  have hts := S.2.2.2.2
  simp only [Bool.and_eq_true] at hR
  obtain ⟨⟨⟨r1, r2⟩, r3⟩, r4⟩ := hR
  have r1' := Nat.le_of_ble_eq_true r1
  have r2' := Nat.le_of_ble_eq_true r2
  have r3' := Nat.le_of_ble_eq_true r3
  have r4' := Nat.le_of_ble_eq_true r4
  obtain ⟨n, hn, rfl⟩ := vp_in_of hv (by decide)
  obtain ⟨Z, b, ml, cc0, f, hP, hD, hcl, htl, hf, hfx⟩ := Z
  have hcap : sb_cap (tx.length + 1) cc0 ≤ cp' := l_cap hcl hcp
  obtain ⟨k1, k2, k3⟩ := k_J4_append_bf812
  refine l_bgo Z (va_runV (C := RJ4) (rest := rest) S (c_J4_append_bf812 l (lz B) H0.size (q := q) (ml := ml) (f := f) (d := n) (ms := cp') hn htl (by omega) hf (Or.inr ⟨hcap, by omega⟩)) ⟨callB_of 1 hts (gGood k1) rfl rfl rfl (hts _ k2) (hts _ hlink) k3 ⟨Nat.le_trans (Nat.le_of_ble_eq_true rfl) r1', Nat.le_trans (Nat.le_of_ble_eq_true rfl) r2'⟩, hts _ hin, hts _ hsel⟩ ⟨(l_bpre (av := [.ref q, .int (nI n)]) Z Cs Cx hP hD).1, va_recv (ci := 1) (q := (RJ4, TJ4, 4)) (q0 := 0) Z.1.1 hP rfl rfl, (l_bpre (av := [.ref q, .int (nI n)]) Z Cs Cx hP hD).2⟩ rfl rfl hl.1 (As := [.int (nI n)]) rfl (Nat.le_of_ble_eq_true hW) d2 ⟨by dsimp only; omega, by dsimp only; omega⟩) (cells' := cells + 1) (slots' := slots + cp') (by dsimp only; omega) (by dsimp only; omega) (fun v ws H1 locs1 hp hP hD Z => ?_)
  obtain ⟨b', f', rfl, rfl, hf', h1, h2⟩ := hp
  refine kk H1 locs1 ⟨Z, b', ml, _, f', by rw [List.length_append]; exact hP, by rw [List.length_append]; exact hD, hcap, by rw [List.length_append]; exact sb_cap_ge _ _, hf', fun j hj => ?_⟩
  rw [List.length_append] at hj
  by_cases hlt : j < tx.length
  · rw [h1 j hlt, hfx j hlt, l_ga hlt]
  · obtain rfl : j = tx.length := by have : ([nI n + 48] : List Int32).length = 1 := rfl; omega
    rw [h2, show (tx ++ [nI n + 48]).getD tx.length 0 = nI n + 48 from l_gr (a := tx) (b := [nI n + 48]) (j := 0), Nat.add_comm]
    exact (nI_add n 48).symm
/-- the text that was built is one of B's -/
def lBs (B : gB) (x : Nat × Nat × List Int32) : gB := (B.1, B.2.1, B.2.2.1, B.2.2.2.1, B.2.2.2.2.1, B.2.2.2.2.2.1, B.2.2.2.2.2.2.1, x :: B.2.2.2.2.2.2.2)
theorem gWS_lBs (B : gB) (x : Nat × Nat × List Int32) (ad : Nat → Nat) (lo : Int64) (dd : UInt64) (σ : gM) : gWS (ad, lBs B x) lo dd σ = gWS (ad, B) lo dd σ := by
  unfold gWS gent gfm
  rfl
theorem l_str {x : Nat × Nat × List Int32} (M : lM B Ds s H locs) (hx : vk_S 1 [x.2.2.length] [x.2.2] (fun _ => x.1) (fun _ => x.2.1) (lA Ds H.size) s H) : lM (lBs B x) Ds s H locs := by
  obtain ⟨hK, hD, hJ, ⟨c1, c2, c3, c4⟩, hS⟩ := M
  refine ⟨hK, fun a D h => ?_, hJ, ⟨c1, fun y hy => ?_, c3, c4⟩, hS⟩
  · rw [gWS_lBs]
    exact hD a D h
  · rcases List.mem_cons.mp hy with rfl | hy
    · exact hx
    · exact c2 y hy
theorem l_Cs {x : Nat × Nat × List Int32} (h : lCs B s) : lCs (lBs B x) s := h
theorem l_Cx {x : Nat × Nat × List Int32} (h : lCx B s) : lCx (lBs B x) s := h
/-- more heap, nothing else -/
theorem l_grow {H1 : Heap} {locs1 : List Loc} (M : lM B Ds s H locs) (hz : H.size ≤ H1.size) (hk : ∀ q, q < H.size → H1[q]? = H[q]?) (hL : ∀ w ∈ locs1, w ∈ locs ∨ H.size ≤ w.base) : lM B Ds s H1 locs1 := by
  obtain ⟨hK, hD, hJ, hC, hS⟩ := M
  refine ⟨hK, fun a D h => ⟨(hD a D h).1.kept (fun i q hq => hk q.1 ((hD a D h).1 i q hq).lt), (hD a D h).2⟩, hJ, (hC.kept (fun q h1 _ => hk q h1)).narrow (fun q hq => ?_), Nat.le_trans hS.1 hz, fun q h1 h2 => ?_, fun w hw => ?_⟩
  · rcases hq with h | h
    · exact Or.inl h
    · exact Or.inr (Nat.le_trans hz h)
  · rw [hk q (Nat.lt_of_lt_of_le h1 hS.1)]
    exact hS.2.1 q h1 h2
  · rcases hL w hw with h | h
    · exact hS.2.2 w h
    · exact Nat.le_trans hS.1 h
def lOkb (t : List Int32) : Bool := t.all (fun x => decide (0 ≤ x ∧ x < 128)) && decide (t.length ≤ 65536)
theorem lOkb_c : ∀ n : Nat, n < 128 → gOkc (nI n) := by unfold gOkc; decide +kernel
theorem lOkb_x {t : List Int32} (h : lOkb t = true) : t.length ≤ 65536 ∧ ∀ j, j < t.length → gOkc (t.getD j 0) := by
  unfold lOkb at h
  rw [Bool.and_eq_true] at h
  refine ⟨of_decide_eq_true h.2, fun j hj => ?_⟩
  have h1 := List.all_eq_true.mp h.1 t[j] (List.getElem_mem hj)
  have h1 := of_decide_eq_true h1
  rw [List.getD_eq_getElem?_getD, List.getElem?_eq_getElem hj, Option.getD_some]
  have h2 : vp_in t[j] 128 := by
    unfold vp_in
    intro z
    have a0 : (0 : Int32).toInt = 0 := by decide
    have a1 : (128 : Int32).toInt = 128 := by decide
    have e1 := Int32.le_iff_toInt_le.mp h1.1
    have e2 := Int32.lt_iff_toInt_lt.mp h1.2
    rw [a0] at e1
    rw [a1] at e2
    rcases z with z | z
    · rw [Int32.lt_iff_toInt_lt, a0] at z
      omega
    · have h3 : t[j].toNatClampNeg = t[j].toInt.toNat := rfl
      omega
  obtain ⟨n, hn, e9⟩ := vp_in_of h2 (by decide)
  rw [e9]
  exact lOkb_c n hn
theorem l_sbEnd {t : List Int32} (S : CallFix p m c cc nL s args gTs RL) (Z : lSb B Ds s H0 locs0 q cp st tx H locs) (Cs : lCs B s) (Cx : lCx B s) (hl : lv_has ls nL lv) (ht : t = tx) (hok : lOkb t = true) (hcp : cp ≤ 65536) (hini : Cond.initialized RJ4 ∈ gTs) (hin : Cond.instanceMethod yJ4_toString_0e30d ∈ gTs) (hsel : Cond.selects RJ4 yJ4_toString_0e30d yJ4_toString_0e30d ∈ gTs) (hlink : Cond.methodLink RL i1 yJ4_toString_0e30d ∈ gTs)
    (hW : Nat.ble (0 + (rest.map fun v => v.category).sum) 8 = true) (hR : (Nat.ble 11 R.frames && Nat.ble 280 R.locals && Nat.ble (cells + 2) R.cells && Nat.ble (slots + (4 + cp)) R.slots) = true) (d2 : decode cc pc = .ok (.invokevirtual i1, 3))
    {cells' slots' : Nat} (hc : cells + 2 = cells') (hs : slots + (4 + cp) = slots')
    (kk : ∀ (q v : Nat) (H1 : Heap) (locs1 : List Loc), (∀ ad : Nat → Nat, gStr (ad, lBs B (q, v, t)) q v t) → lM (lBs B (q, v, t)) Ds s H1 locs1 → W p l e R s m args below meth c H1 locs1 cells' slots' Q (F0 m (pc + 3) ls (.ref q :: rest))) : W p l e R s m args below meth c H locs cells slots Q (F0 m pc ls (.ref q :: rest)) := by
  subst hc; subst hs; subst ht
  have hts := S.2.2.2.2
  simp only [Bool.and_eq_true] at hR
  obtain ⟨⟨⟨r1, r2⟩, r3⟩, r4⟩ := hR
  have r1' := Nat.le_of_ble_eq_true r1
  have r2' := Nat.le_of_ble_eq_true r2
  have r3' := Nat.le_of_ble_eq_true r3
  have r4' := Nat.le_of_ble_eq_true r4
  obtain ⟨Z, b, ml, cc0, f, hP, hD, hcl, htl, hf, hfx⟩ := Z
  obtain ⟨k1, k2, k3⟩ := k_J4_toString_0e30d
  refine l_bgo Z (va_runV (C := RJ4) (rest := rest) S (c_J4_toString_0e30d l (lz B) H0.size (q := q) (ml := ml) (f := f) (n := t.length) (ms := cp) htl (by omega) hf (by omega)) ⟨callB_of 0 hts (gGood k1) rfl rfl rfl (hts _ k2) (hts _ hlink) k3 ⟨Nat.le_trans (Nat.le_of_ble_eq_true rfl) r1', Nat.le_trans (Nat.le_of_ble_eq_true rfl) r2'⟩, hts _ hin, hts _ hsel⟩ ⟨(l_bpre (av := [.ref q]) Z Cs Cx hP hD).1, va_recv (ci := 1) (q := (RJ4, TJ4, 4)) (q0 := 0) Z.1.1 hP rfl rfl, (l_bpre (av := [.ref q]) Z Cs Cx hP hD).2⟩ rfl rfl hl.1 (As := []) rfl (Nat.le_of_ble_eq_true hW) d2 ⟨by dsimp only; omega, by dsimp only; omega⟩) (cells' := cells + 2) (slots' := slots + (4 + cp)) (by dsimp only; omega) (by dsimp only; omega) (fun v ws H1 locs1 hp hP hD Z1 => ?_)
  obtain ⟨qs, b2, f2, rfl, rfl, hf2, h2⟩ := hp
  have Z0 := Z1
  obtain ⟨M, hz0, hold, hlc⟩ := Z1
  have M1 : lM B Ds s H1 locs1 := l_grow M hz0 hold hlc
  have a1 : H0.size ≤ qs := hD.2 2 (qs, .inr (0, [.ref b2, .int 0, .int 0, .int 0])) rfl
  have a2 : H0.size ≤ b2 := hD.2 3 (b2, .inl ((lz B).2.1 5, t.length, .inl f2)) rfl
  have w1 := hP 2 (qs, .inr (0, [.ref b2, .int 0, .int 0, .int 0])) rfl
  have w2 := hP 3 (b2, .inl ((lz B).2.1 5, t.length, .inl f2)) rfl
  have l1 := w1.lt
  have l2 := w2.lt
  have hnA : ∀ a, H0.size ≤ a → a < H1.size → ¬ lA Ds H1.size a := by
    rintro a g1 g2 (⟨a9, D, h, i, hi, e9⟩ | h3)
    · have := lM_lt M h hi
      omega
    · omega
  have hV : vk_S 1 [t.length] [t] (fun _ => qs) (fun _ => b2) (lA Ds H1.size) s H1 := by
    refine ⟨fun i hi => ?_, fun i j hi hj _ => by omega⟩
    obtain rfl : i = 0 := by omega
    obtain ⟨r, hr, cell, c1, c2, c3, c4⟩ := w1
    cases hr
    have hKn := M.1.1 0 _ rfl
    obtain ⟨hSl, hfc, kC, hkC, hkind⟩ := hKn
    have fld : ∀ j, j < 4 → ∀ v, vp_V [.ref b2, .int 0, .int 0, .int 0] j = v → va_OF (TJ0 j).1 (TJ0 j).2.1 (TJ0 j).2.2.1 v qs (lA Ds H1.size) s H1 := fun j hj v hv => by
      obtain ⟨cf, kf, fi, fd, hi, hsl⟩ := hSl j hj
      refine ⟨cf, kf, fi, fd, cell, hi, (u_facts hfc hkC (u_lays hts inJ0 hj) hi).1, c1, (by rw [c3]; exact fun h => nomatch h), ?_, hnA _ a1 l1⟩
      rw [hsl, c4 j hj, hv]
    refine ⟨⟨cell, c1, by rw [c3]; rfl, by rw [c2]; exact hfc, hnA _ a1 l1⟩, fld 1 (by decide) _ rfl, fld 0 (by decide) _ rfl, ⟨_, w2, (M.1.2 5 _ rfl).1 t.length (fun j => .int (f2 j)), (fun h => nomatch h), ?_, ?_, fun j hj => ?_, hnA _ a2 l2⟩⟩
    · show t.length ≤ (arrV _ _ _).slots.size
      rw [arrV_size]
      exact Nat.le_refl _
    · show (arrV _ _ _).slots.size.toInt32 = _
      rw [arrV_size]
      rfl
    · have hj : j < t.length := hj
      show (arrV _ _ _).slots[j]? = _
      rw [arrV_read _ _ hj, h2 j hj, hfx j hj]
      rfl
  have M2 : lM (lBs B (qs, b2, t)) Ds s H1 locs1 := l_str M1 hV
  obtain ⟨o1, o2⟩ := lOkb_x hok
  exact kk qs b2 H1 locs1 (fun ad => gStr_b (ad, lBs B (qs, b2, t)) (x := (qs, b2, t)) List.mem_cons_self o1 o2) M2
end LSB
