/-! THE CLAIM OUT OF ONE WALK OF THE LAW'S BODY. Your part is whole_start (and what it stands on); all else here is the same for every law, but numbers. -/
def R_law : String := "ParcelDepotLaw"
def lw_P (b : Addr) (xs : List Int32) (args : Array Value) (s : State) : Prop := args = #[.ref b] ∧ s.IntsAt b xs ∧ xs.length ≤ 2048 ∧ (Jvm.Cond.and given_1 narrow_1).before args s = true
/-- what a walk over the start with the record d0 says of its end, said of the start itself -/
theorem lw_closed {s t : State} {o : Outcome} {d0 : Drawn} {L : List Loc} {k n : Nat} (hd0 : s.drawn.sameBut d0 lw_cs) (hv : ∃ v, o = .returned v) (hW : (s.setDrawn d0).WarmedH t.vm) (hs : (s.setDrawn d0).sameButNew ({ t with vm := s.vm } : State) L k n) : State.butDraws s t lw_cs (fun t1 => Framed s o t1 L k n) := by
  have h2 : t.drawn = d0 := congrArg State.drawn hs.1
  refine ⟨⟨hv, hW, State.sameButNew.setDrawn hs s.drawn⟩, ?_, by decide⟩
  rw [h2]
  exact hd0
def lw_Q (_ : Array Value) (s : State) (o : Outcome) (t : State) : Prop := o = .returned (some (.int 1)) ∧ State.butDraws s t lw_cs (fun t1 => Framed s o t1 [] 603072 7194730)
def lw_Z (below : List Frame) (a : Array Value) (s : State) : State → Prop := fun t => ∃ o, t.status = .running ∧ Ended t below o ∧ lw_Q a s o t
/-- the law's own end, with 1 on the stack, nothing written that was there before, its room as the claim has it; d0: the record of draws at this point (at the entry s.drawn: begin with 'refine W.base ?_' and 'have hd0 := Drawn.sameBut.refl s.drawn lw_cs') -/
theorem lw_ret {p : Program} {l : Launch} {e : Env} {s : State} {m : MethodId} {below : List Frame} {meth : Method} {c : Code} {b : Nat} {d0 : Drawn} (hd0 : s.drawn.sameBut d0 lw_cs) (hx : p.tables.exec = Jvm.exec) (hb : c.code = code) (hr : meth.sig.returnType = ret) (hlocks : meth.locks = false) {pc : Nat} {H : Heap} {ls : Array Slot} (hdg : decode code pc = .ok (.ireturn, 1)) : W p l e room_1 (s.setDrawn d0) m #[Value.ref b] below meth c H [] 603072 7194730 (lw_Z below #[Value.ref b] s) (F0 m pc ls [.int 1]) := by
  intro T hT X
  obtain ⟨fs, hret, hrun, hended, hW, hframe⟩ := X.leave (v := some (.int 1)) (hlocks := hlocks) (fun h => by rw [hr] at h; cases h)
  have hmeth' : T.vm.method? m = some meth := X.method'
  refine ⟨T.setFrames fs, ?_, .returned (some (.int 1)), hrun, hended, rfl, lw_closed hd0 ⟨_, rfl⟩ hW hframe⟩
  jvm_step X.here [X.here.top, hx, hb, hdg, hmeth', hr, ret, narrow_b1]
  (try refine ⟨rfl, ?_⟩); (try refine ⟨rfl, ?_⟩)
  first | (intro acts; rw [hret _ acts rfl rfl rfl]) | rw [hret _ _ rfl rfl rfl]
  exact Steps.refl _
/-- what holds at the law's entry: the machine, the code, the tables' words (any of lw_tbl by 'hts w (by decide +kernel)'), the script of L ints xs at the cell b, what the Statement gives of the start (any of its parts by flat_of_before) -/
def lw_At (p : Program) (s : State) (m : MethodId) (meth : Method) (c : Code) (b L : Nat) (xs : Nat → Int32) : Prop :=
  p.tables.exec = Jvm.exec ∧ c.code = code ∧ meth.sig.returnType = ret ∧ c.maxLocals = 9 ∧ s.vm.findClass R_law = some m.cls ∧ (∀ w ∈ lw_tbl, w.before #[Value.ref b] s = true) ∧ va_X b L xs s s.heap ∧ b < s.heap.size ∧ meth.locks = false ∧ (Jvm.Cond.and given_1 narrow_1).before #[Value.ref b] s = true
theorem n_mem {G : gT} {s : State} {H : Heap} {locs : List Loc} (hG : nG s.heap.size G) (hK : va_K (gtD G) vwCl (gtys G) s) (M : nM G s.heap.size s (s.heap.size + 230) [] H locs) : gMS G (gAA G s.heap.size) 0 0 σ0 s H locs := by
  obtain ⟨h1, h2, h3, h4, h5, h6, h7, h8⟩ := M
  have hlt : ∀ {k : Nat} {q : Nat × va_E}, (gWS G 0 0 σ0)[k]? = some q → k < 230 := by
    intro k q h
    have := (List.getElem?_eq_some_iff.mp h).1
    rw [gWS, List.length_map, List.length_range] at this
    exact this
  have hpi : ∀ i : Nat, i < 230 → gpi i < 230 := by
    intro i hi
    unfold gpi
    split <;> (try split) <;> (try split) <;> omega
  refine ⟨hK, fun k q hq => ?_, ⟨fun i j p q hp hq e => ?_, fun k q hq => ?_⟩, by omega, fun q hq _ => h4 q hq, fun l hl => Or.inr (h5 l hl)⟩
  · have hk := hlt hq
    rw [gWS_at G 0 0 σ0 hk] at hq
    cases Option.some.inj hq
    have := hpi k hk
    exact h6 k hk (by rw [hG k hk]; omega) (by rw [hG k hk]; omega) (fun x hx => nomatch hx)
  · have hi := hlt hp
    have hj := hlt hq
    rw [gWS_at G 0 0 σ0 hi] at hp
    rw [gWS_at G 0 0 σ0 hj] at hq
    cases Option.some.inj hp
    cases Option.some.inj hq
    exact nG_inj hG hi hj e
  · have hk := hlt hq
    rw [gWS_at G 0 0 σ0 hk] at hq
    cases Option.some.inj hq
    exact Or.inl ⟨k, hk, rfl⟩
set_option maxHeartbeats 4000000 in
set_option maxRecDepth 100000 in
theorem law_start {p : Program} {e : Env} {s : State} {m : MethodId} {below : List Frame} {meth : Method} {c : Code} (l : Launch) (hflags : l.flags = flags0) {b L : Nat} {xs : Nat → Int32} (hL : L ≤ 2048) (C0 : lw_At p s m meth c b L xs) (hrun : f_run L xs 513 0 σ0 0 0 = some ()) : W p l e room_1 s m #[Value.ref b] below meth c s.heap [] 0 0 (lw_Z below #[Value.ref b] s) (entryFrame m ([Value.ref b] : List Value).toArray 9) := by
  obtain ⟨hx, hb, hr, hml, hown, hts, hX, hbl, hlocks, hgv⟩ := C0
  obtain ⟨G, hG, hK, C1, hC⟩ := law_G hts hgv
  have S : CallFix p m c cL_law 9 s #[Value.ref b] gTs "ParcelDepotLaw" := ⟨hx, hb, hml, hown, fun w hw => hts w (List.mem_filter.mp hw).1⟩
  have hfl : l.stackTraces = false := by unfold Launch.stackTraces; rw [hflags]; decide
  have hAA : ∀ q : Nat, gAA G s.heap.size q → s.heap.size ≤ q := fun q h => by
    rcases h with ⟨i, hi, e⟩ | h
    · rw [e, hG i hi]; exact Nat.le_add_right _ _
    · exact h
  have hbA : ¬ gAA G s.heap.size b := fun h => by have := hAA b h; omega
  have hl := lv_entry ([.ref b]) (n := 9) (Nat.le_of_ble_eq_true rfl)
  rw [lg_entry_eq]
  generalize (lg_sl ([.ref b]) ++ List.replicate (9 - (lg_sl ([.ref b])).length) Slot.unset).toArray = ls at hl ⊢
  have hl : lv_has ls 9 [(0, .ref b)] := hl
  have M : nM G s.heap.size s s.heap.size [] s.heap [] := ⟨rfl, Nat.le_refl _, Nat.le_refl _, fun _ _ => rfl, (fun l hl => nomatch hl), (fun i hi h1 h2 => absurd h1 (by omega)), (fun x hx => nomatch hx), List.nodup_nil⟩
  refine n_new S hK hG M inX12 tyX12 tyX12_ok tw_1_30 tw_1_31 tw_1_1 (ci := 12) (fs := [.null, .null, .null, .null, .null, .null, .int 0, .int 0, .int 0]) rfl (fun j hj => by rcases (show j = 0 ∨ j = 1 ∨ j = 2 ∨ j = 3 ∨ j = 4 ∨ j = 5 ∨ j = 6 ∨ j = 7 ∨ j = 8 by omega) with rfl | rfl | rfl | rfl | rfl | rfl | rfl | rfl | rfl <;> rfl) 0 (by decide) (hG _ (by decide)) (Nat.le_of_ble_eq_true rfl) (Nat.le_of_ble_eq_true rfl) (cells' := 1) (slots' := 9) rfl rfl dL_law_0 (fun H M => ?_)
  refine lv_dup hx hb dL_law_3 rfl ?_
  refine n_initS S hC hK hG hl M (c_X12_init l G hG) (by rw [hG _ (by decide)]; rfl) k_X12_init tw_1_33 tw_1_32 rfl rfl rfl (cells' := 219) (slots' := 2373) rfl rfl dL_law_4 (fun H locs M => ?_)
  have M : nM G _ s (s.heap.size + 219) _ H locs := M
  refine lv_astore_n (lv' := [(1, .ref (G.1 0)), (0, .ref b)]) hx hb dL_law_7 rfl hl (by decide) rfl (fun ls hl => ?_)
  refine n_new S hK hG M inX13 tyX13 tyX13_ok tw_6_101 tw_6_102 tw_1_12 (ci := 13) (fs := [.null, .null, .null, .int 0, .null, .int 0, .null, .int 0, .int 0, .int 0, .null, .int 0, .int 0, .null, .int 0, .int 0, .null]) rfl (fun j hj => by rcases (show j = 0 ∨ j = 1 ∨ j = 2 ∨ j = 3 ∨ j = 4 ∨ j = 5 ∨ j = 6 ∨ j = 7 ∨ j = 8 ∨ j = 9 ∨ j = 10 ∨ j = 11 ∨ j = 12 ∨ j = 13 ∨ j = 14 ∨ j = 15 ∨ j = 16 by omega) with rfl | rfl | rfl | rfl | rfl | rfl | rfl | rfl | rfl | rfl | rfl | rfl | rfl | rfl | rfl | rfl | rfl <;> rfl) 219 (by decide) (hG _ (by decide)) (Nat.le_of_ble_eq_true rfl) (Nat.le_of_ble_eq_true rfl) (cells' := 220) (slots' := 2390) rfl rfl dL_law_8 (fun H M => ?_)
  refine lv_dup hx hb dL_law_11 rfl ?_
  refine n_initS S hC hK hG hl M (c_X13_init l G hG) (by rw [hG _ (by decide)]; rfl) k_X13_init tw_6_104 tw_6_103 rfl rfl rfl (cells' := 228) (slots' := 4370) rfl rfl dL_law_12 (fun H locs M => ?_)
  have M : nM G _ s (s.heap.size + 228) _ H locs := M
  refine lv_astore_n (lv' := [(2, .ref (G.1 219)), (1, .ref (G.1 0)), (0, .ref b)]) hx hb dL_law_15 rfl hl (by decide) rfl (fun ls hl => ?_)
  refine lv_iconst (v := 1) hx hb dL_law_16 (by decide) ?_
  refine n_newa (atype := .long) S hK hG M tw_8_58 5 rfl (a0 := (1, .inr (.inl (fun _ => 0)))) (fun _ => rfl) (by decide) (by decide) (by decide) 228 (by decide) (hG _ (by decide)) (Nat.le_of_ble_eq_true rfl) (Nat.le_of_ble_eq_true rfl) (cells' := 229) (slots' := 4371) rfl rfl dL_law_17 (fun H M => ?_)
  have M := M.fin rfl
  refine lv_astore_n (lv' := [(3, .ref (G.1 228)), (2, .ref (G.1 219)), (1, .ref (G.1 0)), (0, .ref b)]) hx hb dL_law_19 rfl hl (by decide) rfl (fun ls hl => ?_)
  refine lv_iconst (v := 1) hx hb dL_law_20 (by decide) ?_
  refine n_newa (atype := .double) S hK hG M tw_8_59 6 rfl (a0 := (1, .inr (.inr (.inr (.inl (fun _ => 0)))))) (fun _ => rfl) (by decide) (by decide) (by decide) 229 (by decide) (hG _ (by decide)) (Nat.le_of_ble_eq_true rfl) (Nat.le_of_ble_eq_true rfl) (cells' := 230) (slots' := 4372) rfl rfl dL_law_21 (fun H M => ?_)
  have M := M.fin rfl
  refine lv_astore (lv' := [(4, .ref (G.1 229)), (3, .ref (G.1 228)), (2, .ref (G.1 219)), (1, .ref (G.1 0)), (0, .ref b)]) hx hb dL_law_23 hl (by decide) rfl (fun ls hl => ?_)
  refine lv_iconst (v := 0) hx hb dL_law_25 (by decide) ?_
  refine lv_istore (lv' := [(5, .int 0), (4, .ref (G.1 229)), (3, .ref (G.1 228)), (2, .ref (G.1 219)), (1, .ref (G.1 0)), (0, .ref b)]) hx hb dL_law_26 hl (by decide) rfl (fun ls hl => ?_)
  have hM : gMS G (gAA G s.heap.size) 0 0 σ0 s H locs := n_mem hG hK M
  refine law_loop (c0 := 230) (s0 := 4372) hL hfl S C1 hX hbl hbA (Nat.le_of_ble_eq_true rfl) (Nat.le_of_ble_eq_true rfl) (fun σ lo dd H locs ls M => ?_) 513 0 σ0 0 0 (Nat.zero_le _) hrun H locs ls hM (lv_sub hl [5, 4, 3, 2, 1, 0] rfl)
  refine lv_iconst (v := 1) hx hb dL_law_2770 (by decide) ?_
  refine va_forget (fun q hq => hAA _ (M.2.2.2.2.2 q hq)) ?_
  refine W.widen (k := 603072) (n := 7194730) (Nat.le_of_ble_eq_true rfl) (Nat.le_of_ble_eq_true rfl) ?_
  refine W.base ?_
  exact lw_ret (Drawn.sameBut.refl s.drawn lw_cs) hx hb hr hlocks dL_law_2771
