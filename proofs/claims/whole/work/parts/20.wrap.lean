/-! the two answers of the law, and the methods with handlers -/
theorem g_arr1 (cA : ClassId) (f g : Nat → Value) (h : f 0 = g 0) : arrV cA 1 f = arrV cA 1 g := by
  unfold arrV
  have e : (Array.ofFn (n := 1) fun j => f j.val) = Array.ofFn (n := 1) fun j => g j.val := by
    congr 1
    funext j
    have hj : j.val = 0 := by omega
    rw [hj]
    exact h
  rw [e]
theorem gP_set {G : gT} {lo lo' : Int64} {dd dd' : UInt64} {σ : gM} {H : Heap} {i : Nat} {e : va_E} (hi : i < 230) (h : va_P (gtD G) vwCl ((gWS G lo dd σ).set i (G.1 i, e)) H) (he : va_at (gtD G) vwCl (G.1 i, e) H → va_at (gtD G) vwCl (G.1 i, gent G i lo' dd' (σ i) (gkd i)) H) (hn : ∀ j, j < 230 → j ≠ i → gent G j lo' dd' (σ j) (gkd j) = gent G j lo dd (σ j) (gkd j)) : va_P (gtD G) vwCl (gWS G lo' dd' σ) H := by
  have hl : (gWS G lo dd σ).length = 230 := by rw [gWS, List.length_map, List.length_range]
  intro k q hk
  have hk2 : k < 230 := by
    have := (List.getElem?_eq_some_iff.mp hk).1
    rw [gWS, List.length_map, List.length_range] at this
    exact this
  rw [gWS_at G lo' dd' σ hk2] at hk
  cases Option.some.inj hk
  by_cases hki : k = i
  · subst hki
    exact he (h k _ (List.getElem?_set_self (by rw [hl]; exact hi)))
  · refine h k _ ?_
    rw [List.getElem?_set_ne (fun z => hki z.symm), gWS_at G lo dd σ hk2, hn k hk2 hki]
theorem gk_ne : ∀ j : Nat, j < 230 → ((j ≠ 228 → gkd j ≠ 14) ∧ (j ≠ 229 → gkd j ≠ 15)) := by decide +kernel
theorem gent_lo {G : gT} {lo lo' : Int64} {dd dd' : UInt64} {r : Nat → Int32} {i : Nat} : ∀ k : Nat, k ≠ 14 → (k ≠ 15 ∨ dd' = dd) → gent G i lo' dd' r k = gent G i lo dd r k := by
  intro k h1 h2
  unfold gent
  split <;> first | rfl | (exact absurd rfl h1) | (rcases h2 with h2 | h2 <;> first | (exact absurd rfl h2) | (subst h2; rfl))
theorem gent_dd {G : gT} {lo : Int64} {dd dd' : UInt64} {r : Nat → Int32} {i : Nat} : ∀ k : Nat, k ≠ 15 → gent G i lo dd' r k = gent G i lo dd r k := by
  intro k h1
  unfold gent
  split <;> first | rfl | (exact absurd rfl h1)
theorem g_last {p : Program} {l : Launch} {e : Env} {R : Room} {s : State} {m : MethodId} {args : Array Value} {below : List Frame} {meth : Method} {c : Code} {H : Heap} {locs : List Loc} {cells slots : Nat} {Q : State → Prop} {cc : ByteArray} {nL : Nat} {own : String} {pc : Nat} {ls : Array Slot} {rest : List Value} {G : gT} {lo : Int64} {dd : UInt64} {σ : gM} {A : Nat → Prop} (S : CallFix p m c cc nL s args gTs own) (M : gMS G A lo dd σ s H locs) {x : Int64} (hdg : decode cc pc = .ok (.lastore, 1))
    (kk : ∀ (H : Heap) (locs : List Loc), gMS G A x dd σ s H locs → W p l e R s m args below meth c H locs cells slots Q (F0 m (pc + 1) ls rest)) : W p l e R s m args below meth c H locs cells slots Q (F0 m pc ls (.long x :: .int 0 :: .ref (G.1 228) :: rest)) := by
  obtain ⟨hx, hb, -, hown, hts⟩ := S
  obtain ⟨hK, hP, hD, hS⟩ := M
  refine va_last hx hb hK hP hD hS 228 5 (cA := G.2.1 5) (n := 1) (f := fun _ => lo) (by rw [gWS_at G lo dd σ (by decide)]; rfl) rfl (i := 0) (by unfold vp_in; decide) hdg (fun H1 locs1 hP1 hD1 hS1 => ?_)
  refine kk H1 locs1 ⟨hK, gP_set (by decide) hP1 (fun h => ?_) (fun j hj hn => gent_lo _ ((gk_ne j hj).1 hn) (Or.inr rfl)), gWS_D hD (fun i hi => hD.2 i _ (gWS_at G lo dd σ hi)), hS1⟩
  have h1 : H1[G.1 228]? = some (vp_cell (G.2.1 5) (1, .inr (.inl (vp_updL (fun _ => lo) (0 : Int32).toNatClampNeg x)))) := h
  show H1[G.1 228]? = some (vp_cell (G.2.1 5) (1, .inr (.inl (fun _ => x))))
  rw [h1, vp_cell_l, vp_cell_l, g_arr1 _ _ (fun _ => Value.long x) rfl]
theorem g_dast {p : Program} {l : Launch} {e : Env} {R : Room} {s : State} {m : MethodId} {args : Array Value} {below : List Frame} {meth : Method} {c : Code} {H : Heap} {locs : List Loc} {cells slots : Nat} {Q : State → Prop} {cc : ByteArray} {nL : Nat} {own : String} {pc : Nat} {ls : Array Slot} {rest : List Value} {G : gT} {lo : Int64} {dd : UInt64} {σ : gM} {A : Nat → Prop} (S : CallFix p m c cc nL s args gTs own) (M : gMS G A lo dd σ s H locs) {x : UInt64} (hdg : decode cc pc = .ok (.dastore, 1))
    (kk : ∀ (H : Heap) (locs : List Loc), gMS G A lo x σ s H locs → W p l e R s m args below meth c H locs cells slots Q (F0 m (pc + 1) ls rest)) : W p l e R s m args below meth c H locs cells slots Q (F0 m pc ls (.double x :: .int 0 :: .ref (G.1 229) :: rest)) := by
  obtain ⟨hx, hb, -, hown, hts⟩ := S
  obtain ⟨hK, hP, hD, hS⟩ := M
  refine va_dast hx hb hK hP hD hS 229 6 (cA := G.2.1 6) (n := 1) (f := fun _ => dd) (by rw [gWS_at G lo dd σ (by decide)]; rfl) rfl (i := 0) (by unfold vp_in; decide) hdg (fun H1 locs1 hP1 hD1 hS1 => ?_)
  refine kk H1 locs1 ⟨hK, gP_set (by decide) hP1 (fun h => ?_) (fun j hj hn => gent_dd _ ((gk_ne j hj).2 hn)), gWS_D hD (fun i hi => hD.2 i _ (gWS_at G lo dd σ hi)), hS1⟩
  have h1 : H1[G.1 229]? = some (vp_cell (G.2.1 6) (1, .inr (.inr (.inr (.inl (vf_upd (fun _ => dd) (0 : Int32).toNatClampNeg x)))))) := h
  show H1[G.1 229]? = some (vp_cell (G.2.1 6) (1, .inr (.inr (.inr (.inl (fun _ => x))))))
  rw [h1, vp_cell_d, vp_cell_d, g_arr1 _ _ (fun _ => Value.double x) rfl]
def gCW (l : Launch) (y : MethodName) (cc : ByteArray) (maxL : Nat) (ret : Option FieldType) (hh : List (Nat × Nat × Nat × Nat)) (rm : Room) (mc ms : Nat) (G : gT) (sz : Nat) (av : List Value) (lo : Int64) (dd : UInt64) (σ : gM) (out : gO) : Prop :=
  vx_Met l y [.codeWith y cc maxL ret hh] rm (gPc G sz av lo dd σ) (gQc G sz out) (gXC G sz out) mc ms (gAA G sz)
theorem gCW_of {l : Launch} {y : MethodName} {cc : ByteArray} {maxL : Nat} {ret : Option FieldType} {hh : List (Nat × Nat × Nat × Nat)} {rm : Room} {mc ms : Nat} {G : gT} {sz : Nat} {av : List Value} {lo : Int64} {dd : UInt64} {σ : gM} {out : gO} (hy : plainName y.cls = true) (hw : Cond.codeWith y cc maxL ret hh ∈ gTs) (hlen : (lg_sl av).length ≤ maxL)
    (body : ∀ (p : Program) (e : Env) (s : State) (m : MethodId) (args : Array Value) (below : List Frame) (meth : Method) (c : Code) (ls : Array Slot), CallFix p m c cc maxL s args gTs y.cls → meth.sig.returnType = ret → meth.locks = false → c.exceptionTable.toList = tableOf hh → s.heap.size = sz → gCST G (gAA G s.heap.size) s → lv_has ls maxL (lv_args 0 av) → ∀ (H : Heap) (locs : List Loc), gMS G (gAA G s.heap.size) lo dd σ s H locs →
      W p l e rm s m args below meth c H locs 0 0 (vx_MQ below (gQc G s.heap.size out) (gXC G s.heap.size out) args s mc ms (gAA G s.heap.size)) (F0 m 0 ls [])) : gCW l y cc maxL ret hh rm mc ms G sz av lo dd σ out := by
  refine vx_ofWH (cc := cc) (maxL := maxL) (ret := ret) (hh := hh) hy rfl ?_
  intro p e s m args below meth c s₁ B hml hv
  obtain ⟨rfl, rfl, ⟨hK, hP, hD⟩, hC⟩ := hv
  have hl := lv_entry av hlen
  have ht := vx_table (x := y) B (g_at (args := av.toArray) hw hC.1)
  rw [lg_entry_eq]
  exact body p e s m av.toArray below meth c _ ⟨B.exec, B.bytes, hml, findClass_of_methodNamed B.named, fun w hw => g_at hw hC.1⟩ B.returns B.notSynchronized ht rfl hC hl _ _ ⟨hK, hP, hD, va_S.rf⟩
theorem gp_c {α : Type} {P : α → Prop} {a : α} {L : List α} (h : P a) (k : ∀ z ∈ L, P z) : ∀ z ∈ a :: L, P z := by
  intro z hz
  rcases List.mem_cons.mp hz with rfl | h2
  · exact h
  · exact k z h2
theorem gp_n {α : Type} {P : α → Prop} : ∀ z ∈ ([] : List α), P z := fun z hz => nomatch hz
def gnn64 {α : Type} (x : UInt64) (A : Option α) : Option α := if x &&& 0x7fffffffffffffff ≤ 0x7ff0000000000000 then A else none
theorem gnn64_x {α : Type} {x : UInt64} {A : Option α} {r : α} (h : gnn64 x A = some r) : vf_n64 x ∧ A = some r := by
  unfold gnn64 at h
  by_cases hc : x &&& 0x7fffffffffffffff ≤ 0x7ff0000000000000
  · rw [if_pos hc] at h; exact ⟨hc, h⟩
  · rw [if_neg hc] at h; cases h
def f_L_buildRoad (σ : gM) (lo : Int64) (dd : UInt64) (a1 : Int32) (a2 : Int32) (a3 : Int32) : Option (Int32 × gM × Int64 × UInt64) :=
  bt2 (f_X12_buildRoad σ a1 a2 a3)
    (fun r σ1 => some (0, σ1, r.toInt64, dd))
    (fun n σ1 => if n = 0 then some (1, σ1, lo, dd) else if n = 1 then some (2, σ1, lo, dd) else if n = 2 then some (3, σ1, lo, dd) else none)
def f_L_acceptParcel (σ : gM) (lo : Int64) (dd : UInt64) (a1 : Int32) (a2 : Int32) (a3 : Int32) : Option (Int32 × gM × Int64 × UInt64) :=
  bt2 (f_X12_acceptParcel σ a1 a2 a3)
    (fun r σ1 => some (0, σ1, r.toInt64, dd))
    (fun n σ1 => if n = 0 then some (1, σ1, lo, dd) else if n = 1 then some (2, σ1, lo, dd) else if n = 2 then some (3, σ1, lo, dd) else none)
def f_L_buyGlove (σ : gM) (lo : Int64) (dd : UInt64) (a1 : Int32) : Option (Int32 × gM × Int64 × UInt64) :=
  bt2 (f_X12_buyGlove σ a1)
    (fun r σ1 => some (0, σ1, r.toInt64, dd))
    (fun n σ1 => if n = 1 then some (1, σ1, lo, dd) else if n = 2 then some (2, σ1, lo, dd) else none)
def f_L_setCapacity (σ : gM) (lo : Int64) (dd : UInt64) (a1 : Int32) (a2 : Int32) : Option (Int32 × gM × Int64 × UInt64) :=
  bt2 (f_X12_setCapacity σ a1 a2)
    (fun r σ1 => some (0, σ1, r.toInt64, dd))
    (fun n σ1 => if n = 0 then some (1, σ1, lo, dd) else if n = 1 then some (2, σ1, lo, dd) else if n = 2 then some (3, σ1, lo, dd) else none)
def f_L_put (σ : gM) (lo : Int64) (dd : UInt64) (a1 : Int32) (a2 : Int32) : Option (Int32 × gM × Int64 × UInt64) :=
  bt2 (f_X12_put σ a1 a2)
    (fun r σ1 => some (0, σ1, r.toInt64, dd))
    (fun n σ1 => if n = 0 then some (1, σ1, lo, dd) else if n = 2 then some (2, σ1, lo, dd) else if n = 3 then some (3, σ1, lo, dd) else if n = 4 then some (4, σ1, lo, dd) else none)
def f_L_takeOut (σ : gM) (lo : Int64) (dd : UInt64) (a1 : Int32) : Option (Int32 × gM × Int64 × UInt64) :=
  bt2 (f_X12_takeOut σ a1)
    (fun r σ1 => some (0, σ1, r.toInt64, dd))
    (fun n σ1 => if n = 0 then some (1, σ1, lo, dd) else if n = 2 then some (2, σ1, lo, dd) else if n = 4 then some (3, σ1, lo, dd) else none)
def f_L_carry (σ : gM) (lo : Int64) (dd : UInt64) (a1 : Int32) (a2 : Int32) : Option (Int32 × gM × Int64 × UInt64) :=
  bt2 (f_X12_carry σ a1 a2)
    (fun r σ1 => some (0, σ1, r.toInt64, dd))
    (fun n σ1 => if n = 0 then some (1, σ1, lo, dd) else if n = 1 then some (2, σ1, lo, dd) else if n = 4 then some (3, σ1, lo, dd) else none)
def f_L_comeBack (σ : gM) (lo : Int64) (dd : UInt64) (a1 : Int32) : Option (Int32 × gM × Int64 × UInt64) :=
  bt2 (f_X12_comeBack σ a1)
    (fun r σ1 => some (0, σ1, r.toInt64, dd))
    (fun n σ1 => if n = 0 then some (1, σ1, lo, dd) else if n = 2 then some (2, σ1, lo, dd) else none)
def f_L_roadLength (σ : gM) (lo : Int64) (dd : UInt64) (a1 : Int32) (a2 : Int32) : Option (Int32 × gM × Int64 × UInt64) :=
  bt (f_X12_roadLength σ a1 a2)
    (fun r => some (0, σ, r.toInt64, dd))
    (fun n => if n = 0 then some (1, σ, lo, dd) else if n = 4 then some (2, σ, lo, dd) else none)
def f_L_distance (σ : gM) (lo : Int64) (dd : UInt64) (a1 : Int32) (a2 : Int32) : Option (Int32 × gM × Int64 × UInt64) :=
  bt2 (f_X12_distance σ a1 a2)
    (fun r σ1 => some (0, σ1, r.toInt64, dd))
    (fun n σ1 => if n = 0 then some (1, σ1, lo, dd) else if n = 4 then some (2, σ1, lo, dd) else none)
def f_L_distanceByRounds (σ : gM) (lo : Int64) (dd : UInt64) (a1 : Int32) (a2 : Int32) : Option (Int32 × gM × Int64 × UInt64) :=
  bt2 (f_X12_distanceByRounds σ a1 a2)
    (fun r σ1 => some (0, σ1, r.toInt64, dd))
    (fun n σ1 => if n = 0 then some (1, σ1, lo, dd) else if n = 4 then some (2, σ1, lo, dd) else none)
def f_L_farthestPlace (σ : gM) (lo : Int64) (dd : UInt64) (a1 : Int32) : Option (Int32 × gM × Int64 × UInt64) :=
  bt2 (f_X12_farthestPlace σ a1)
    (fun r σ1 => some (0, σ1, r.toInt64, dd))
    (fun n σ1 => if n = 0 then some (1, σ1, lo, dd) else none)
def f_L_weight (σ : gM) (lo : Int64) (dd : UInt64) (a1 : Int32) : Option (Int32 × gM × Int64 × UInt64) :=
  bt (f_X12_weight σ a1)
    (fun r => some (0, σ, r.toInt64, dd))
    (fun n => if n = 0 then some (1, σ, lo, dd) else none)
def f_L_hazard (σ : gM) (lo : Int64) (dd : UInt64) (a1 : Int32) : Option (Int32 × gM × Int64 × UInt64) :=
  bt (f_X12_hazard σ a1)
    (fun r => some (0, σ, r.toInt64, dd))
    (fun n => if n = 0 then some (1, σ, lo, dd) else none)
def f_L_destination (σ : gM) (lo : Int64) (dd : UInt64) (a1 : Int32) : Option (Int32 × gM × Int64 × UInt64) :=
  bt (f_X12_destination σ a1)
    (fun r => some (0, σ, r.toInt64, dd))
    (fun n => if n = 0 then some (1, σ, lo, dd) else none)
def f_L_state (σ : gM) (lo : Int64) (dd : UInt64) (a1 : Int32) : Option (Int32 × gM × Int64 × UInt64) :=
  bt (f_X12_state σ a1)
    (fun r => some (0, σ, r.toInt64, dd))
    (fun n => if n = 0 then some (1, σ, lo, dd) else none)
def f_L_sackOf (σ : gM) (lo : Int64) (dd : UInt64) (a1 : Int32) : Option (Int32 × gM × Int64 × UInt64) :=
  bt (f_X12_sackOf σ a1)
    (fun r => some (0, σ, r.toInt64, dd))
    (fun n => if n = 0 then some (1, σ, lo, dd) else if n = 4 then some (2, σ, lo, dd) else none)
def f_L_returns (σ : gM) (lo : Int64) (dd : UInt64) (a1 : Int32) : Option (Int32 × gM × Int64 × UInt64) :=
  bt (f_X12_returns σ a1)
    (fun r => some (0, σ, r.toInt64, dd))
    (fun n => if n = 0 then some (1, σ, lo, dd) else none)
def f_L_grade (σ : gM) (lo : Int64) (dd : UInt64) (a1 : Int32) : Option (Int32 × gM × Int64 × UInt64) :=
  bt (f_X12_grade σ a1)
    (fun r => some (0, σ, r.toInt64, dd))
    (fun n => if n = 0 then some (1, σ, lo, dd) else none)
def f_L_usesLeft (σ : gM) (lo : Int64) (dd : UInt64) (a1 : Int32) : Option (Int32 × gM × Int64 × UInt64) :=
  bt (f_X12_usesLeft σ a1)
    (fun r => some (0, σ, r.toInt64, dd))
    (fun n => if n = 0 then some (1, σ, lo, dd) else none)
def f_L_gloveFor (σ : gM) (lo : Int64) (dd : UInt64) (a1 : Int32) : Option (Int32 × gM × Int64 × UInt64) :=
  bt (f_X12_gloveFor σ a1)
    (fun r => some (0, σ, r.toInt64, dd))
    (fun n => if n = 0 then some (1, σ, lo, dd) else if n = 3 then some (2, σ, lo, dd) else if n = 4 then some (3, σ, lo, dd) else none)
def f_L_canHandle (σ : gM) (lo : Int64) (dd : UInt64) (a1 : Int32) : Option (Int32 × gM × Int64 × UInt64) :=
  bt (f_X12_canHandle σ a1)
    (fun r => if r = 0 then some (0, σ, 0, dd) else some (0, σ, 1, dd))
    (fun n => if n = 0 then some (1, σ, lo, dd) else none)
def f_L_place (σ : gM) (lo : Int64) (dd : UInt64) (a1 : Int32) : Option (Int32 × gM × Int64 × UInt64) :=
  bt (f_X12_place σ a1)
    (fun r => some (0, σ, r.toInt64, dd))
    (fun n => if n = 0 then some (1, σ, lo, dd) else none)
def f_L_capacity (σ : gM) (lo : Int64) (dd : UInt64) (a1 : Int32) : Option (Int32 × gM × Int64 × UInt64) :=
  bt (f_X12_capacity σ a1)
    (fun r => some (0, σ, r.toInt64, dd))
    (fun n => if n = 0 then some (1, σ, lo, dd) else none)
def f_L_load (σ : gM) (lo : Int64) (dd : UInt64) (a1 : Int32) : Option (Int32 × gM × Int64 × UInt64) :=
  bt (f_X12_load σ a1)
    (fun r => some (0, σ, r.toInt64, dd))
    (fun n => if n = 0 then some (1, σ, lo, dd) else none)
def f_L_parcelsIn (σ : gM) (lo : Int64) (dd : UInt64) (a1 : Int32) : Option (Int32 × gM × Int64 × UInt64) :=
  bt (f_X12_parcelsIn σ a1)
    (fun r => some (0, σ, r.toInt64, dd))
    (fun n => if n = 0 then some (1, σ, lo, dd) else none)
def f_L_mostFitting (σ : gM) (lo : Int64) (dd : UInt64) (a1 : Int32) : Option (Int32 × gM × Int64 × UInt64) :=
  bt (f_X12_mostFitting σ a1)
    (fun r => some (0, σ, r.toInt64, dd))
    (fun n => if n = 0 then some (1, σ, lo, dd) else none)
def f_L_mostFittingByTable (σ : gM) (lo : Int64) (dd : UInt64) (a1 : Int32) : Option (Int32 × gM × Int64 × UInt64) :=
  bt2 (f_X12_mostFittingByTable σ a1)
    (fun r σ1 => some (0, σ1, r.toInt64, dd))
    (fun n σ1 => if n = 0 then some (1, σ1, lo, dd) else none)
def f_L_effortTo (σ : gM) (lo : Int64) (dd : UInt64) (a1 : Int32) (a2 : Int32) : Option (Int32 × gM × Int64 × UInt64) :=
  bt2 (f_X12_effortTo σ a1 a2)
    (fun r σ1 => some (0, σ1, r.toInt64, dd))
    (fun n σ1 => if n = 0 then some (1, σ1, lo, dd) else if n = 4 then some (2, σ1, lo, dd) else none)
def f_L_heaviest (σ : gM) (lo : Int64) (dd : UInt64) (a1 : Int32) : Option (Int32 × gM × Int64 × UInt64) :=
  bt (f_X12_heaviest σ a1)
    (fun r => some (0, σ, r.toInt64, dd))
    (fun n => if n = 4 then some (1, σ, lo, dd) else none)
def f_L_meanHazard (σ : gM) (lo : Int64) (dd : UInt64) : Option (Int32 × gM × Int64 × UInt64) :=
  bt (f_X12_meanHazard σ)
    (fun r => some (0, σ, lo, r))
    (fun n => if n = 5 then some (1, σ, lo, dd) else none)
def f_L_deliveredShare (σ : gM) (lo : Int64) (dd : UInt64) : Option (Int32 × gM × Int64 × UInt64) :=
  bt (f_X12_deliveredShare σ)
    (fun r => gnn64 (FP.f2d r) <| some (0, σ, lo, FP.f2d r))
    (fun n => if n = 5 then some (1, σ, lo, dd) else none)
def f_L_feed (σ : gM) (lo : Int64) (dd : UInt64) (a1 : Int32) : Option (Int32 × gM × Int64 × UInt64) :=
  bt2 (f_X12_feed σ a1)
    (fun r σ1 => some (0, σ1, r.toInt64, dd))
    (fun n σ1 => if n = 2 then some (1, σ1, lo, dd) else none)
def f_L_runCommands (σ : gM) (lo : Int64) (dd : UInt64) : Option (Int32 × gM × Int64 × UInt64) :=
  bt2 (f_X12_runCommands σ)
    (fun r σ1 => some (0, σ1, r.toInt64, dd))
    (fun n σ1 => if n = 1 then some (1, σ1, lo, dd) else if n = 3 then some (2, σ1, lo, dd) else none)
def f_L_errorPosition (σ : gM) (lo : Int64) (dd : UInt64) : Option (Int32 × gM × Int64 × UInt64) :=
  bt (f_X12_errorPosition σ)
    (fun r => some (0, σ, r.toInt64, dd))
    (fun n => if n = 4 then some (1, σ, lo, dd) else none)
def f_L_failedCommand (σ : gM) (lo : Int64) (dd : UInt64) : Option (Int32 × gM × Int64 × UInt64) :=
  bt (f_X12_failedCommand σ)
    (fun r => some (0, σ, r.toInt64, dd))
    (fun n => if n = 4 then some (1, σ, lo, dd) else none)
def f_L_writeSack (σ : gM) (lo : Int64) (dd : UInt64) (a1 : Int32) : Option (Int32 × gM × Int64 × UInt64) :=
  bt2 (f_X12_writeSack σ a1)
    (fun r σ1 => some (0, σ1, r.toInt64, dd))
    (fun n σ1 => if n = 0 then some (1, σ1, lo, dd) else none)
def f_L_outputChar (σ : gM) (lo : Int64) (dd : UInt64) (a1 : Int32) : Option (Int32 × gM × Int64 × UInt64) :=
  bt (f_X12_outputChar σ a1)
    (fun r => some (0, σ, r.toInt64, dd))
    (fun n => if n = 0 then some (1, σ, lo, dd) else none)
def f_L_undo (σ : gM) (lo : Int64) (dd : UInt64) : Option (Int32 × gM × Int64 × UInt64) :=
  bt2 (f_X12_undo σ)
    (fun r σ1 => some (0, σ1, r.toInt64, dd))
    (fun n σ1 => if n = 2 then some (1, σ1, lo, dd) else none)
def f_L_restore (σ : gM) (lo : Int64) (dd : UInt64) : Option (Int32 × gM × Int64 × UInt64) :=
  bt2 (f_X12_restore σ)
    (fun r σ1 => some (0, σ1, r.toInt64, dd))
    (fun n σ1 => if n = 2 then some (1, σ1, lo, dd) else none)
set_option maxHeartbeats 400000 in
set_option maxRecDepth 100000 in
theorem c_L_buildRoad (l : Launch) (hfl : l.stackTraces = false) (G : gT) (sz : Nat) (lo : Int64) (dd : UInt64) (σ : gM) (a1 : Int32) (a2 : Int32) (a3 : Int32) {r2 : Int32} {o : gM} {lo2 : Int64} {dd2 : UInt64} (hf : f_L_buildRoad σ lo dd a1 a2 a3 = some (r2, o, lo2, dd2)) : gCW l yL_buildRoad cL_buildRoad 6 (some .int) [(0, 12, 15, 13), (0, 12, 19, 15), (0, 12, 23, 17)] { frames := 10, cells := 1, slots := 6, locals := 168 } 1 6 G sz [.ref (G.1 0), .int a1, .int a2, .int a3, .ref (G.1 228)] lo dd σ (.inl (mkI r2, o, lo2, dd2)) := by
  refine gCW_of (by decide) tw_3_6 (Nat.le_of_ble_eq_true rfl) (fun p e s m args below meth c ls S hr hlk htab hsz C0 hl H locs M => ?_)
  subst hsz
  have hx := S.1
  have hb := S.2.1
  unfold f_L_buildRoad at hf
  refine lv_aload hx hb dL_buildRoad_0 (lv_at hl 4 rfl) ?_
  refine lv_iconst (v := 0) hx hb dL_buildRoad_2 (by decide) ?_
  refine lv_aload_n hx hb dL_buildRoad_3 rfl (lv_at hl 0 rfl) ?_
  refine lv_iload_n hx hb dL_buildRoad_4 rfl (lv_at hl 1 rfl) ?_
  refine lv_iload_n hx hb dL_buildRoad_5 rfl (lv_at hl 2 rfl) ?_
  refine lv_iload_n hx hb dL_buildRoad_6 rfl (lv_at hl 3 rfl) ?_
  rcases bt2_x hf with ⟨r, σ1, h, hf⟩ | ⟨n, σ1, h, hf⟩
  · refine g_callR (st1 := [.int r, .int 0, .ref (G.1 228)]) (cells' := 1) (slots' := 6) M (g_invV (index := 7) S M C0 hl (c_X12_buildRoad l hfl G H.size lo dd σ a1 a2 a3 h) k_X12_buildRoad tw_3_90 tw_3_91 tw_3_89 (by decide) (ge_0 rfl) rfl rfl rfl rfl rfl rfl dL_buildRoad_7) rfl rfl rfl (fun H locs M => ?_)
    refine lv_i2l hx hb dL_buildRoad_10 rfl ?_
    refine g_last S M dL_buildRoad_11 (fun H locs M => ?_)
    refine lv_goto (tgt := 27) hx hb dL_buildRoad_12 (by decide) ?_
    refine lv_iconst (v := 0) hx hb dL_buildRoad_27 (by decide) ?_
    cases hf
    exact g_iret S M hr hlk (by decide) (by decide) dL_buildRoad_28 rfl
  · refine g_runX (cells' := 1) (slots' := 6) M (g_invV (index := 7) S M C0 hl (c_X12_buildRoad l hfl G H.size lo dd σ a1 a2 a3 h) k_X12_buildRoad tw_3_90 tw_3_91 tw_3_89 (by decide) (ge_0 rfl) rfl rfl rfl rfl rfl rfl dL_buildRoad_7) rfl rfl (fun ce q H locs M hq hv hcl => ?_)
    by_cases hc : n = 0
    · have hf := it_p hc hf
      subst hc
      refine vx_catch (E := "java/lang/IndexOutOfBoundsException") (name := "java/lang/IndexOutOfBoundsException") S.2.2.2.1 [] ⟨0, 12, 15, 13⟩ [⟨0, 12, 19, 15⟩, ⟨0, 12, 23, 17⟩] htab gp_n rfl (by decide) (S.2.2.2.2 _ tw_3_7) (va_any rfl (C0.2.1 _ (by decide +kernel))) hq hv hcl ?_
      refine lv_astore (lv' := [(5, .ref q), (0, .ref (G.1 0)), (1, .int a1), (2, .int a2), (3, .int a3), (4, .ref (G.1 228))]) hx hb dL_buildRoad_15 hl (by decide) rfl (fun ls hl => ?_)
      refine lv_iconst (v := 1) hx hb dL_buildRoad_17 (by decide) ?_
      cases hf
      exact g_iret S M hr hlk (by decide) (by decide) dL_buildRoad_18 rfl
    · have hf := it_n hc hf
      by_cases hc : n = 1
      · have hf := it_p hc hf
        subst hc
        refine vx_catch (E := "java/lang/IllegalArgumentException") (name := "java/lang/IllegalArgumentException") S.2.2.2.1 [⟨0, 12, 15, 13⟩] ⟨0, 12, 19, 15⟩ [⟨0, 12, 23, 17⟩] htab (gp_c (Or.inr ⟨by decide, "java/lang/IndexOutOfBoundsException", S.2.2.2.2 _ tw_3_7, C0.2.2.2.1 ("java/lang/IllegalArgumentException", "java/lang/IndexOutOfBoundsException") (by decide +kernel)⟩) gp_n) rfl (by decide) (S.2.2.2.2 _ tw_3_87) (va_any rfl (C0.2.1 _ (by decide +kernel))) hq hv hcl ?_
        refine lv_astore (lv' := [(5, .ref q), (0, .ref (G.1 0)), (1, .int a1), (2, .int a2), (3, .int a3), (4, .ref (G.1 228))]) hx hb dL_buildRoad_19 hl (by decide) rfl (fun ls hl => ?_)
        refine lv_iconst (v := 2) hx hb dL_buildRoad_21 (by decide) ?_
        cases hf
        exact g_iret S M hr hlk (by decide) (by decide) dL_buildRoad_22 rfl
      · have hf := it_n hc hf
        by_cases hc : n = 2
        · have hf := it_p hc hf
          subst hc
          refine vx_catch (E := "java/lang/IllegalStateException") (name := "java/lang/IllegalStateException") S.2.2.2.1 [⟨0, 12, 15, 13⟩, ⟨0, 12, 19, 15⟩] ⟨0, 12, 23, 17⟩ [] htab (gp_c (Or.inr ⟨by decide, "java/lang/IndexOutOfBoundsException", S.2.2.2.2 _ tw_3_7, C0.2.2.2.1 ("java/lang/IllegalStateException", "java/lang/IndexOutOfBoundsException") (by decide +kernel)⟩) (gp_c (Or.inr ⟨by decide, "java/lang/IllegalArgumentException", S.2.2.2.2 _ tw_3_87, C0.2.2.2.1 ("java/lang/IllegalStateException", "java/lang/IllegalArgumentException") (by decide +kernel)⟩) gp_n)) rfl (by decide) (S.2.2.2.2 _ tw_3_88) (va_any rfl (C0.2.1 _ (by decide +kernel))) hq hv hcl ?_
          refine lv_astore (lv' := [(5, .ref q), (0, .ref (G.1 0)), (1, .int a1), (2, .int a2), (3, .int a3), (4, .ref (G.1 228))]) hx hb dL_buildRoad_23 hl (by decide) rfl (fun ls hl => ?_)
          refine lv_iconst (v := 3) hx hb dL_buildRoad_25 (by decide) ?_
          cases hf
          exact g_iret S M hr hlk (by decide) (by decide) dL_buildRoad_26 rfl
        · have hf := it_n hc hf
          cases hf
set_option maxHeartbeats 400000 in
set_option maxRecDepth 100000 in
theorem c_L_acceptParcel (l : Launch) (hfl : l.stackTraces = false) (G : gT) (sz : Nat) (lo : Int64) (dd : UInt64) (σ : gM) (a1 : Int32) (a2 : Int32) (a3 : Int32) {r2 : Int32} {o : gM} {lo2 : Int64} {dd2 : UInt64} (hf : f_L_acceptParcel σ lo dd a1 a2 a3 = some (r2, o, lo2, dd2)) : gCW l yL_acceptParcel cL_acceptParcel 6 (some .int) [(0, 12, 15, 13), (0, 12, 19, 15), (0, 12, 23, 17)] { frames := 10, cells := 1, slots := 6, locals := 168 } 1 6 G sz [.ref (G.1 0), .int a1, .int a2, .int a3, .ref (G.1 228)] lo dd σ (.inl (mkI r2, o, lo2, dd2)) := by
  refine gCW_of (by decide) tw_3_202 (Nat.le_of_ble_eq_true rfl) (fun p e s m args below meth c ls S hr hlk htab hsz C0 hl H locs M => ?_)
  subst hsz
  have hx := S.1
  have hb := S.2.1
  unfold f_L_acceptParcel at hf
  refine lv_aload hx hb dL_acceptParcel_0 (lv_at hl 4 rfl) ?_
  refine lv_iconst (v := 0) hx hb dL_acceptParcel_2 (by decide) ?_
  refine lv_aload_n hx hb dL_acceptParcel_3 rfl (lv_at hl 0 rfl) ?_
  refine lv_iload_n hx hb dL_acceptParcel_4 rfl (lv_at hl 1 rfl) ?_
  refine lv_iload_n hx hb dL_acceptParcel_5 rfl (lv_at hl 2 rfl) ?_
  refine lv_iload_n hx hb dL_acceptParcel_6 rfl (lv_at hl 3 rfl) ?_
  rcases bt2_x hf with ⟨r, σ1, h, hf⟩ | ⟨n, σ1, h, hf⟩
  · refine g_callR (st1 := [.int r, .int 0, .ref (G.1 228)]) (cells' := 1) (slots' := 6) M (g_invV (index := 19) S M C0 hl (c_X12_acceptParcel l hfl G H.size lo dd σ a1 a2 a3 h) k_X12_acceptParcel tw_3_204 tw_3_205 tw_3_203 (by decide) (ge_0 rfl) rfl rfl rfl rfl rfl rfl dL_acceptParcel_7) rfl rfl rfl (fun H locs M => ?_)
    refine lv_i2l hx hb dL_acceptParcel_10 rfl ?_
    refine g_last S M dL_acceptParcel_11 (fun H locs M => ?_)
    refine lv_goto (tgt := 27) hx hb dL_acceptParcel_12 (by decide) ?_
    refine lv_iconst (v := 0) hx hb dL_acceptParcel_27 (by decide) ?_
    cases hf
    exact g_iret S M hr hlk (by decide) (by decide) dL_acceptParcel_28 rfl
  · refine g_runX (cells' := 1) (slots' := 6) M (g_invV (index := 19) S M C0 hl (c_X12_acceptParcel l hfl G H.size lo dd σ a1 a2 a3 h) k_X12_acceptParcel tw_3_204 tw_3_205 tw_3_203 (by decide) (ge_0 rfl) rfl rfl rfl rfl rfl rfl dL_acceptParcel_7) rfl rfl (fun ce q H locs M hq hv hcl => ?_)
    by_cases hc : n = 0
    · have hf := it_p hc hf
      subst hc
      refine vx_catch (E := "java/lang/IndexOutOfBoundsException") (name := "java/lang/IndexOutOfBoundsException") S.2.2.2.1 [] ⟨0, 12, 15, 13⟩ [⟨0, 12, 19, 15⟩, ⟨0, 12, 23, 17⟩] htab gp_n rfl (by decide) (S.2.2.2.2 _ tw_3_7) (va_any rfl (C0.2.1 _ (by decide +kernel))) hq hv hcl ?_
      refine lv_astore (lv' := [(5, .ref q), (0, .ref (G.1 0)), (1, .int a1), (2, .int a2), (3, .int a3), (4, .ref (G.1 228))]) hx hb dL_acceptParcel_15 hl (by decide) rfl (fun ls hl => ?_)
      refine lv_iconst (v := 1) hx hb dL_acceptParcel_17 (by decide) ?_
      cases hf
      exact g_iret S M hr hlk (by decide) (by decide) dL_acceptParcel_18 rfl
    · have hf := it_n hc hf
      by_cases hc : n = 1
      · have hf := it_p hc hf
        subst hc
        refine vx_catch (E := "java/lang/IllegalArgumentException") (name := "java/lang/IllegalArgumentException") S.2.2.2.1 [⟨0, 12, 15, 13⟩] ⟨0, 12, 19, 15⟩ [⟨0, 12, 23, 17⟩] htab (gp_c (Or.inr ⟨by decide, "java/lang/IndexOutOfBoundsException", S.2.2.2.2 _ tw_3_7, C0.2.2.2.1 ("java/lang/IllegalArgumentException", "java/lang/IndexOutOfBoundsException") (by decide +kernel)⟩) gp_n) rfl (by decide) (S.2.2.2.2 _ tw_3_87) (va_any rfl (C0.2.1 _ (by decide +kernel))) hq hv hcl ?_
        refine lv_astore (lv' := [(5, .ref q), (0, .ref (G.1 0)), (1, .int a1), (2, .int a2), (3, .int a3), (4, .ref (G.1 228))]) hx hb dL_acceptParcel_19 hl (by decide) rfl (fun ls hl => ?_)
        refine lv_iconst (v := 2) hx hb dL_acceptParcel_21 (by decide) ?_
        cases hf
        exact g_iret S M hr hlk (by decide) (by decide) dL_acceptParcel_22 rfl
      · have hf := it_n hc hf
        by_cases hc : n = 2
        · have hf := it_p hc hf
          subst hc
          refine vx_catch (E := "java/lang/IllegalStateException") (name := "java/lang/IllegalStateException") S.2.2.2.1 [⟨0, 12, 15, 13⟩, ⟨0, 12, 19, 15⟩] ⟨0, 12, 23, 17⟩ [] htab (gp_c (Or.inr ⟨by decide, "java/lang/IndexOutOfBoundsException", S.2.2.2.2 _ tw_3_7, C0.2.2.2.1 ("java/lang/IllegalStateException", "java/lang/IndexOutOfBoundsException") (by decide +kernel)⟩) (gp_c (Or.inr ⟨by decide, "java/lang/IllegalArgumentException", S.2.2.2.2 _ tw_3_87, C0.2.2.2.1 ("java/lang/IllegalStateException", "java/lang/IllegalArgumentException") (by decide +kernel)⟩) gp_n)) rfl (by decide) (S.2.2.2.2 _ tw_3_88) (va_any rfl (C0.2.1 _ (by decide +kernel))) hq hv hcl ?_
          refine lv_astore (lv' := [(5, .ref q), (0, .ref (G.1 0)), (1, .int a1), (2, .int a2), (3, .int a3), (4, .ref (G.1 228))]) hx hb dL_acceptParcel_23 hl (by decide) rfl (fun ls hl => ?_)
          refine lv_iconst (v := 3) hx hb dL_acceptParcel_25 (by decide) ?_
          cases hf
          exact g_iret S M hr hlk (by decide) (by decide) dL_acceptParcel_26 rfl
        · have hf := it_n hc hf
          cases hf
set_option maxHeartbeats 400000 in
set_option maxRecDepth 100000 in
theorem c_L_buyGlove (l : Launch) (hfl : l.stackTraces = false) (G : gT) (sz : Nat) (lo : Int64) (dd : UInt64) (σ : gM) (a1 : Int32) {r2 : Int32} {o : gM} {lo2 : Int64} {dd2 : UInt64} (hf : f_L_buyGlove σ lo dd a1 = some (r2, o, lo2, dd2)) : gCW l yL_buyGlove cL_buyGlove 4 (some .int) [(0, 9, 12, 15), (0, 9, 15, 17)] { frames := 10, cells := 1, slots := 6, locals := 166 } 1 6 G sz [.ref (G.1 0), .int a1, .ref (G.1 228)] lo dd σ (.inl (mkI r2, o, lo2, dd2)) := by
  refine gCW_of (by decide) tw_3_221 (Nat.le_of_ble_eq_true rfl) (fun p e s m args below meth c ls S hr hlk htab hsz C0 hl H locs M => ?_)
  subst hsz
  have hx := S.1
  have hb := S.2.1
  unfold f_L_buyGlove at hf
  refine lv_aload_n hx hb dL_buyGlove_0 rfl (lv_at hl 2 rfl) ?_
  refine lv_iconst (v := 0) hx hb dL_buyGlove_1 (by decide) ?_
  refine lv_aload_n hx hb dL_buyGlove_2 rfl (lv_at hl 0 rfl) ?_
  refine lv_iload_n hx hb dL_buyGlove_3 rfl (lv_at hl 1 rfl) ?_
  rcases bt2_x hf with ⟨r, σ1, h, hf⟩ | ⟨n, σ1, h, hf⟩
  · refine g_callR (st1 := [.int r, .int 0, .ref (G.1 228)]) (cells' := 1) (slots' := 6) M (g_invV (index := 22) S M C0 hl (c_X12_buyGlove l hfl G H.size lo dd σ a1 h) k_X12_buyGlove tw_3_223 tw_3_224 tw_3_222 (by decide) (ge_0 rfl) rfl rfl rfl rfl rfl rfl dL_buyGlove_4) rfl rfl rfl (fun H locs M => ?_)
    refine lv_i2l hx hb dL_buyGlove_7 rfl ?_
    refine g_last S M dL_buyGlove_8 (fun H locs M => ?_)
    refine lv_goto (tgt := 18) hx hb dL_buyGlove_9 (by decide) ?_
    refine lv_iconst (v := 0) hx hb dL_buyGlove_18 (by decide) ?_
    cases hf
    exact g_iret S M hr hlk (by decide) (by decide) dL_buyGlove_19 rfl
  · refine g_runX (cells' := 1) (slots' := 6) M (g_invV (index := 22) S M C0 hl (c_X12_buyGlove l hfl G H.size lo dd σ a1 h) k_X12_buyGlove tw_3_223 tw_3_224 tw_3_222 (by decide) (ge_0 rfl) rfl rfl rfl rfl rfl rfl dL_buyGlove_4) rfl rfl (fun ce q H locs M hq hv hcl => ?_)
    by_cases hc : n = 1
    · have hf := it_p hc hf
      subst hc
      refine vx_catch (E := "java/lang/IllegalArgumentException") (name := "java/lang/IllegalArgumentException") S.2.2.2.1 [] ⟨0, 9, 12, 15⟩ [⟨0, 9, 15, 17⟩] htab gp_n rfl (by decide) (S.2.2.2.2 _ tw_3_87) (va_any rfl (C0.2.1 _ (by decide +kernel))) hq hv hcl ?_
      refine lv_astore_n (lv' := [(3, .ref q), (0, .ref (G.1 0)), (1, .int a1), (2, .ref (G.1 228))]) hx hb dL_buyGlove_12 rfl hl (by decide) rfl (fun ls hl => ?_)
      refine lv_iconst (v := 1) hx hb dL_buyGlove_13 (by decide) ?_
      cases hf
      exact g_iret S M hr hlk (by decide) (by decide) dL_buyGlove_14 rfl
    · have hf := it_n hc hf
      by_cases hc : n = 2
      · have hf := it_p hc hf
        subst hc
        refine vx_catch (E := "java/lang/IllegalStateException") (name := "java/lang/IllegalStateException") S.2.2.2.1 [⟨0, 9, 12, 15⟩] ⟨0, 9, 15, 17⟩ [] htab (gp_c (Or.inr ⟨by decide, "java/lang/IllegalArgumentException", S.2.2.2.2 _ tw_3_87, C0.2.2.2.1 ("java/lang/IllegalStateException", "java/lang/IllegalArgumentException") (by decide +kernel)⟩) gp_n) rfl (by decide) (S.2.2.2.2 _ tw_3_88) (va_any rfl (C0.2.1 _ (by decide +kernel))) hq hv hcl ?_
        refine lv_astore_n (lv' := [(3, .ref q), (0, .ref (G.1 0)), (1, .int a1), (2, .ref (G.1 228))]) hx hb dL_buyGlove_15 rfl hl (by decide) rfl (fun ls hl => ?_)
        refine lv_iconst (v := 2) hx hb dL_buyGlove_16 (by decide) ?_
        cases hf
        exact g_iret S M hr hlk (by decide) (by decide) dL_buyGlove_17 rfl
      · have hf := it_n hc hf
        cases hf
set_option maxHeartbeats 400000 in
set_option maxRecDepth 100000 in
theorem c_L_setCapacity (l : Launch) (hfl : l.stackTraces = false) (G : gT) (sz : Nat) (lo : Int64) (dd : UInt64) (σ : gM) (a1 : Int32) (a2 : Int32) {r2 : Int32} {o : gM} {lo2 : Int64} {dd2 : UInt64} (hf : f_L_setCapacity σ lo dd a1 a2 = some (r2, o, lo2, dd2)) : gCW l yL_setCapacity cL_setCapacity 5 (some .int) [(0, 10, 13, 13), (0, 10, 17, 15), (0, 10, 21, 17)] { frames := 10, cells := 1, slots := 6, locals := 167 } 1 6 G sz [.ref (G.1 0), .int a1, .int a2, .ref (G.1 228)] lo dd σ (.inl (mkI r2, o, lo2, dd2)) := by
  refine gCW_of (by decide) tw_4_0 (Nat.le_of_ble_eq_true rfl) (fun p e s m args below meth c ls S hr hlk htab hsz C0 hl H locs M => ?_)
  subst hsz
  have hx := S.1
  have hb := S.2.1
  unfold f_L_setCapacity at hf
  refine lv_aload_n hx hb dL_setCapacity_0 rfl (lv_at hl 3 rfl) ?_
  refine lv_iconst (v := 0) hx hb dL_setCapacity_1 (by decide) ?_
  refine lv_aload_n hx hb dL_setCapacity_2 rfl (lv_at hl 0 rfl) ?_
  refine lv_iload_n hx hb dL_setCapacity_3 rfl (lv_at hl 1 rfl) ?_
  refine lv_iload_n hx hb dL_setCapacity_4 rfl (lv_at hl 2 rfl) ?_
  rcases bt2_x hf with ⟨r, σ1, h, hf⟩ | ⟨n, σ1, h, hf⟩
  · refine g_callR (st1 := [.int r, .int 0, .ref (G.1 228)]) (cells' := 1) (slots' := 6) M (g_invV (index := 26) S M C0 hl (c_X12_setCapacity l hfl G H.size lo dd σ a1 a2 h) k_X12_setCapacity tw_4_2 tw_4_3 tw_4_1 (by decide) (ge_0 rfl) rfl rfl rfl rfl rfl rfl dL_setCapacity_5) rfl rfl rfl (fun H locs M => ?_)
    refine lv_i2l hx hb dL_setCapacity_8 rfl ?_
    refine g_last S M dL_setCapacity_9 (fun H locs M => ?_)
    refine lv_goto (tgt := 25) hx hb dL_setCapacity_10 (by decide) ?_
    refine lv_iconst (v := 0) hx hb dL_setCapacity_25 (by decide) ?_
    cases hf
    exact g_iret S M hr hlk (by decide) (by decide) dL_setCapacity_26 rfl
  · refine g_runX (cells' := 1) (slots' := 6) M (g_invV (index := 26) S M C0 hl (c_X12_setCapacity l hfl G H.size lo dd σ a1 a2 h) k_X12_setCapacity tw_4_2 tw_4_3 tw_4_1 (by decide) (ge_0 rfl) rfl rfl rfl rfl rfl rfl dL_setCapacity_5) rfl rfl (fun ce q H locs M hq hv hcl => ?_)
    by_cases hc : n = 0
    · have hf := it_p hc hf
      subst hc
      refine vx_catch (E := "java/lang/IndexOutOfBoundsException") (name := "java/lang/IndexOutOfBoundsException") S.2.2.2.1 [] ⟨0, 10, 13, 13⟩ [⟨0, 10, 17, 15⟩, ⟨0, 10, 21, 17⟩] htab gp_n rfl (by decide) (S.2.2.2.2 _ tw_3_7) (va_any rfl (C0.2.1 _ (by decide +kernel))) hq hv hcl ?_
      refine lv_astore (lv' := [(4, .ref q), (0, .ref (G.1 0)), (1, .int a1), (2, .int a2), (3, .ref (G.1 228))]) hx hb dL_setCapacity_13 hl (by decide) rfl (fun ls hl => ?_)
      refine lv_iconst (v := 1) hx hb dL_setCapacity_15 (by decide) ?_
      cases hf
      exact g_iret S M hr hlk (by decide) (by decide) dL_setCapacity_16 rfl
    · have hf := it_n hc hf
      by_cases hc : n = 1
      · have hf := it_p hc hf
        subst hc
        refine vx_catch (E := "java/lang/IllegalArgumentException") (name := "java/lang/IllegalArgumentException") S.2.2.2.1 [⟨0, 10, 13, 13⟩] ⟨0, 10, 17, 15⟩ [⟨0, 10, 21, 17⟩] htab (gp_c (Or.inr ⟨by decide, "java/lang/IndexOutOfBoundsException", S.2.2.2.2 _ tw_3_7, C0.2.2.2.1 ("java/lang/IllegalArgumentException", "java/lang/IndexOutOfBoundsException") (by decide +kernel)⟩) gp_n) rfl (by decide) (S.2.2.2.2 _ tw_3_87) (va_any rfl (C0.2.1 _ (by decide +kernel))) hq hv hcl ?_
        refine lv_astore (lv' := [(4, .ref q), (0, .ref (G.1 0)), (1, .int a1), (2, .int a2), (3, .ref (G.1 228))]) hx hb dL_setCapacity_17 hl (by decide) rfl (fun ls hl => ?_)
        refine lv_iconst (v := 2) hx hb dL_setCapacity_19 (by decide) ?_
        cases hf
        exact g_iret S M hr hlk (by decide) (by decide) dL_setCapacity_20 rfl
      · have hf := it_n hc hf
        by_cases hc : n = 2
        · have hf := it_p hc hf
          subst hc
          refine vx_catch (E := "java/lang/IllegalStateException") (name := "java/lang/IllegalStateException") S.2.2.2.1 [⟨0, 10, 13, 13⟩, ⟨0, 10, 17, 15⟩] ⟨0, 10, 21, 17⟩ [] htab (gp_c (Or.inr ⟨by decide, "java/lang/IndexOutOfBoundsException", S.2.2.2.2 _ tw_3_7, C0.2.2.2.1 ("java/lang/IllegalStateException", "java/lang/IndexOutOfBoundsException") (by decide +kernel)⟩) (gp_c (Or.inr ⟨by decide, "java/lang/IllegalArgumentException", S.2.2.2.2 _ tw_3_87, C0.2.2.2.1 ("java/lang/IllegalStateException", "java/lang/IllegalArgumentException") (by decide +kernel)⟩) gp_n)) rfl (by decide) (S.2.2.2.2 _ tw_3_88) (va_any rfl (C0.2.1 _ (by decide +kernel))) hq hv hcl ?_
          refine lv_astore (lv' := [(4, .ref q), (0, .ref (G.1 0)), (1, .int a1), (2, .int a2), (3, .ref (G.1 228))]) hx hb dL_setCapacity_21 hl (by decide) rfl (fun ls hl => ?_)
          refine lv_iconst (v := 3) hx hb dL_setCapacity_23 (by decide) ?_
          cases hf
          exact g_iret S M hr hlk (by decide) (by decide) dL_setCapacity_24 rfl
        · have hf := it_n hc hf
          cases hf
set_option maxHeartbeats 400000 in
set_option maxRecDepth 100000 in
theorem c_L_put (l : Launch) (hfl : l.stackTraces = false) (G : gT) (sz : Nat) (lo : Int64) (dd : UInt64) (σ : gM) (a1 : Int32) (a2 : Int32) {r2 : Int32} {o : gM} {lo2 : Int64} {dd2 : UInt64} (hf : f_L_put σ lo dd a1 a2 = some (r2, o, lo2, dd2)) : gCW l yL_put cL_put 5 (some .int) [(0, 10, 13, 13), (0, 10, 17, 17), (0, 10, 21, 33), (0, 10, 25, 35)] { frames := 10, cells := 1, slots := 6, locals := 167 } 1 6 G sz [.ref (G.1 0), .int a1, .int a2, .ref (G.1 228)] lo dd σ (.inl (mkI r2, o, lo2, dd2)) := by
  refine gCW_of (by decide) tw_4_15 (Nat.le_of_ble_eq_true rfl) (fun p e s m args below meth c ls S hr hlk htab hsz C0 hl H locs M => ?_)
  subst hsz
  have hx := S.1
  have hb := S.2.1
  unfold f_L_put at hf
  refine lv_aload_n hx hb dL_put_0 rfl (lv_at hl 3 rfl) ?_
  refine lv_iconst (v := 0) hx hb dL_put_1 (by decide) ?_
  refine lv_aload_n hx hb dL_put_2 rfl (lv_at hl 0 rfl) ?_
  refine lv_iload_n hx hb dL_put_3 rfl (lv_at hl 1 rfl) ?_
  refine lv_iload_n hx hb dL_put_4 rfl (lv_at hl 2 rfl) ?_
  rcases bt2_x hf with ⟨r, σ1, h, hf⟩ | ⟨n, σ1, h, hf⟩
  · refine g_callR (st1 := [.int r, .int 0, .ref (G.1 228)]) (cells' := 1) (slots' := 6) M (g_invV (index := 30) S M C0 hl (c_X12_put l hfl G H.size lo dd σ a1 a2 h) k_X12_put tw_4_19 tw_4_20 tw_4_18 (by decide) (ge_0 rfl) rfl rfl rfl rfl rfl rfl dL_put_5) rfl rfl rfl (fun H locs M => ?_)
    refine lv_i2l hx hb dL_put_8 rfl ?_
    refine g_last S M dL_put_9 (fun H locs M => ?_)
    refine lv_goto (tgt := 29) hx hb dL_put_10 (by decide) ?_
    refine lv_iconst (v := 0) hx hb dL_put_29 (by decide) ?_
    cases hf
    exact g_iret S M hr hlk (by decide) (by decide) dL_put_30 rfl
  · refine g_runX (cells' := 1) (slots' := 6) M (g_invV (index := 30) S M C0 hl (c_X12_put l hfl G H.size lo dd σ a1 a2 h) k_X12_put tw_4_19 tw_4_20 tw_4_18 (by decide) (ge_0 rfl) rfl rfl rfl rfl rfl rfl dL_put_5) rfl rfl (fun ce q H locs M hq hv hcl => ?_)
    by_cases hc : n = 0
    · have hf := it_p hc hf
      subst hc
      refine vx_catch (E := "java/lang/IndexOutOfBoundsException") (name := "java/lang/IndexOutOfBoundsException") S.2.2.2.1 [] ⟨0, 10, 13, 13⟩ [⟨0, 10, 17, 17⟩, ⟨0, 10, 21, 33⟩, ⟨0, 10, 25, 35⟩] htab gp_n rfl (by decide) (S.2.2.2.2 _ tw_3_7) (va_any rfl (C0.2.1 _ (by decide +kernel))) hq hv hcl ?_
      refine lv_astore (lv' := [(4, .ref q), (0, .ref (G.1 0)), (1, .int a1), (2, .int a2), (3, .ref (G.1 228))]) hx hb dL_put_13 hl (by decide) rfl (fun ls hl => ?_)
      refine lv_iconst (v := 1) hx hb dL_put_15 (by decide) ?_
      cases hf
      exact g_iret S M hr hlk (by decide) (by decide) dL_put_16 rfl
    · have hf := it_n hc hf
      by_cases hc : n = 2
      · have hf := it_p hc hf
        subst hc
        refine vx_catch (E := "java/lang/IllegalStateException") (name := "java/lang/IllegalStateException") S.2.2.2.1 [⟨0, 10, 13, 13⟩] ⟨0, 10, 17, 17⟩ [⟨0, 10, 21, 33⟩, ⟨0, 10, 25, 35⟩] htab (gp_c (Or.inr ⟨by decide, "java/lang/IndexOutOfBoundsException", S.2.2.2.2 _ tw_3_7, C0.2.2.2.1 ("java/lang/IllegalStateException", "java/lang/IndexOutOfBoundsException") (by decide +kernel)⟩) gp_n) rfl (by decide) (S.2.2.2.2 _ tw_3_88) (va_any rfl (C0.2.1 _ (by decide +kernel))) hq hv hcl ?_
        refine lv_astore (lv' := [(4, .ref q), (0, .ref (G.1 0)), (1, .int a1), (2, .int a2), (3, .ref (G.1 228))]) hx hb dL_put_17 hl (by decide) rfl (fun ls hl => ?_)
        refine lv_iconst (v := 2) hx hb dL_put_19 (by decide) ?_
        cases hf
        exact g_iret S M hr hlk (by decide) (by decide) dL_put_20 rfl
      · have hf := it_n hc hf
        by_cases hc : n = 3
        · have hf := it_p hc hf
          subst hc
          refine vx_catch (E := "java/lang/UnsupportedOperationException") (name := "java/lang/UnsupportedOperationException") S.2.2.2.1 [⟨0, 10, 13, 13⟩, ⟨0, 10, 17, 17⟩] ⟨0, 10, 21, 33⟩ [⟨0, 10, 25, 35⟩] htab (gp_c (Or.inr ⟨by decide, "java/lang/IndexOutOfBoundsException", S.2.2.2.2 _ tw_3_7, C0.2.2.2.1 ("java/lang/UnsupportedOperationException", "java/lang/IndexOutOfBoundsException") (by decide +kernel)⟩) (gp_c (Or.inr ⟨by decide, "java/lang/IllegalStateException", S.2.2.2.2 _ tw_3_88, C0.2.2.2.1 ("java/lang/UnsupportedOperationException", "java/lang/IllegalStateException") (by decide +kernel)⟩) gp_n)) rfl (by decide) (S.2.2.2.2 _ tw_4_16) (va_any rfl (C0.2.1 _ (by decide +kernel))) hq hv hcl ?_
          refine lv_astore (lv' := [(4, .ref q), (0, .ref (G.1 0)), (1, .int a1), (2, .int a2), (3, .ref (G.1 228))]) hx hb dL_put_21 hl (by decide) rfl (fun ls hl => ?_)
          refine lv_iconst (v := 3) hx hb dL_put_23 (by decide) ?_
          cases hf
          exact g_iret S M hr hlk (by decide) (by decide) dL_put_24 rfl
        · have hf := it_n hc hf
          by_cases hc : n = 4
          · have hf := it_p hc hf
            subst hc
            refine vx_catch (E := "java/util/NoSuchElementException") (name := "java/util/NoSuchElementException") S.2.2.2.1 [⟨0, 10, 13, 13⟩, ⟨0, 10, 17, 17⟩, ⟨0, 10, 21, 33⟩] ⟨0, 10, 25, 35⟩ [] htab (gp_c (Or.inr ⟨by decide, "java/lang/IndexOutOfBoundsException", S.2.2.2.2 _ tw_3_7, C0.2.2.2.1 ("java/util/NoSuchElementException", "java/lang/IndexOutOfBoundsException") (by decide +kernel)⟩) (gp_c (Or.inr ⟨by decide, "java/lang/IllegalStateException", S.2.2.2.2 _ tw_3_88, C0.2.2.2.1 ("java/util/NoSuchElementException", "java/lang/IllegalStateException") (by decide +kernel)⟩) (gp_c (Or.inr ⟨by decide, "java/lang/UnsupportedOperationException", S.2.2.2.2 _ tw_4_16, C0.2.2.2.1 ("java/util/NoSuchElementException", "java/lang/UnsupportedOperationException") (by decide +kernel)⟩) gp_n))) rfl (by decide) (S.2.2.2.2 _ tw_4_17) (va_any rfl (C0.2.1 _ (by decide +kernel))) hq hv hcl ?_
            refine lv_astore (lv' := [(4, .ref q), (0, .ref (G.1 0)), (1, .int a1), (2, .int a2), (3, .ref (G.1 228))]) hx hb dL_put_25 hl (by decide) rfl (fun ls hl => ?_)
            refine lv_iconst (v := 4) hx hb dL_put_27 (by decide) ?_
            cases hf
            exact g_iret S M hr hlk (by decide) (by decide) dL_put_28 rfl
          · have hf := it_n hc hf
            cases hf
set_option maxHeartbeats 400000 in
set_option maxRecDepth 100000 in
theorem c_L_takeOut (l : Launch) (hfl : l.stackTraces = false) (G : gT) (sz : Nat) (lo : Int64) (dd : UInt64) (σ : gM) (a1 : Int32) {r2 : Int32} {o : gM} {lo2 : Int64} {dd2 : UInt64} (hf : f_L_takeOut σ lo dd a1 = some (r2, o, lo2, dd2)) : gCW l yL_takeOut cL_takeOut 4 (some .int) [(0, 9, 12, 13), (0, 9, 15, 17), (0, 9, 18, 35)] { frames := 10, cells := 1, slots := 6, locals := 166 } 1 6 G sz [.ref (G.1 0), .int a1, .ref (G.1 228)] lo dd σ (.inl (mkI r2, o, lo2, dd2)) := by
  refine gCW_of (by decide) tw_4_61 (Nat.le_of_ble_eq_true rfl) (fun p e s m args below meth c ls S hr hlk htab hsz C0 hl H locs M => ?_)
  subst hsz
  have hx := S.1
  have hb := S.2.1
  unfold f_L_takeOut at hf
  refine lv_aload_n hx hb dL_takeOut_0 rfl (lv_at hl 2 rfl) ?_
  refine lv_iconst (v := 0) hx hb dL_takeOut_1 (by decide) ?_
  refine lv_aload_n hx hb dL_takeOut_2 rfl (lv_at hl 0 rfl) ?_
  refine lv_iload_n hx hb dL_takeOut_3 rfl (lv_at hl 1 rfl) ?_
  rcases bt2_x hf with ⟨r, σ1, h, hf⟩ | ⟨n, σ1, h, hf⟩
  · refine g_callR (st1 := [.int r, .int 0, .ref (G.1 228)]) (cells' := 1) (slots' := 6) M (g_invV (index := 37) S M C0 hl (c_X12_takeOut l hfl G H.size lo dd σ a1 h) k_X12_takeOut tw_4_63 tw_4_64 tw_4_62 (by decide) (ge_0 rfl) rfl rfl rfl rfl rfl rfl dL_takeOut_4) rfl rfl rfl (fun H locs M => ?_)
    refine lv_i2l hx hb dL_takeOut_7 rfl ?_
    refine g_last S M dL_takeOut_8 (fun H locs M => ?_)
    refine lv_goto (tgt := 21) hx hb dL_takeOut_9 (by decide) ?_
    refine lv_iconst (v := 0) hx hb dL_takeOut_21 (by decide) ?_
    cases hf
    exact g_iret S M hr hlk (by decide) (by decide) dL_takeOut_22 rfl
  · refine g_runX (cells' := 1) (slots' := 6) M (g_invV (index := 37) S M C0 hl (c_X12_takeOut l hfl G H.size lo dd σ a1 h) k_X12_takeOut tw_4_63 tw_4_64 tw_4_62 (by decide) (ge_0 rfl) rfl rfl rfl rfl rfl rfl dL_takeOut_4) rfl rfl (fun ce q H locs M hq hv hcl => ?_)
    by_cases hc : n = 0
    · have hf := it_p hc hf
      subst hc
      refine vx_catch (E := "java/lang/IndexOutOfBoundsException") (name := "java/lang/IndexOutOfBoundsException") S.2.2.2.1 [] ⟨0, 9, 12, 13⟩ [⟨0, 9, 15, 17⟩, ⟨0, 9, 18, 35⟩] htab gp_n rfl (by decide) (S.2.2.2.2 _ tw_3_7) (va_any rfl (C0.2.1 _ (by decide +kernel))) hq hv hcl ?_
      refine lv_astore_n (lv' := [(3, .ref q), (0, .ref (G.1 0)), (1, .int a1), (2, .ref (G.1 228))]) hx hb dL_takeOut_12 rfl hl (by decide) rfl (fun ls hl => ?_)
      refine lv_iconst (v := 1) hx hb dL_takeOut_13 (by decide) ?_
      cases hf
      exact g_iret S M hr hlk (by decide) (by decide) dL_takeOut_14 rfl
    · have hf := it_n hc hf
      by_cases hc : n = 2
      · have hf := it_p hc hf
        subst hc
        refine vx_catch (E := "java/lang/IllegalStateException") (name := "java/lang/IllegalStateException") S.2.2.2.1 [⟨0, 9, 12, 13⟩] ⟨0, 9, 15, 17⟩ [⟨0, 9, 18, 35⟩] htab (gp_c (Or.inr ⟨by decide, "java/lang/IndexOutOfBoundsException", S.2.2.2.2 _ tw_3_7, C0.2.2.2.1 ("java/lang/IllegalStateException", "java/lang/IndexOutOfBoundsException") (by decide +kernel)⟩) gp_n) rfl (by decide) (S.2.2.2.2 _ tw_3_88) (va_any rfl (C0.2.1 _ (by decide +kernel))) hq hv hcl ?_
        refine lv_astore_n (lv' := [(3, .ref q), (0, .ref (G.1 0)), (1, .int a1), (2, .ref (G.1 228))]) hx hb dL_takeOut_15 rfl hl (by decide) rfl (fun ls hl => ?_)
        refine lv_iconst (v := 2) hx hb dL_takeOut_16 (by decide) ?_
        cases hf
        exact g_iret S M hr hlk (by decide) (by decide) dL_takeOut_17 rfl
      · have hf := it_n hc hf
        by_cases hc : n = 4
        · have hf := it_p hc hf
          subst hc
          refine vx_catch (E := "java/util/NoSuchElementException") (name := "java/util/NoSuchElementException") S.2.2.2.1 [⟨0, 9, 12, 13⟩, ⟨0, 9, 15, 17⟩] ⟨0, 9, 18, 35⟩ [] htab (gp_c (Or.inr ⟨by decide, "java/lang/IndexOutOfBoundsException", S.2.2.2.2 _ tw_3_7, C0.2.2.2.1 ("java/util/NoSuchElementException", "java/lang/IndexOutOfBoundsException") (by decide +kernel)⟩) (gp_c (Or.inr ⟨by decide, "java/lang/IllegalStateException", S.2.2.2.2 _ tw_3_88, C0.2.2.2.1 ("java/util/NoSuchElementException", "java/lang/IllegalStateException") (by decide +kernel)⟩) gp_n)) rfl (by decide) (S.2.2.2.2 _ tw_4_17) (va_any rfl (C0.2.1 _ (by decide +kernel))) hq hv hcl ?_
          refine lv_astore_n (lv' := [(3, .ref q), (0, .ref (G.1 0)), (1, .int a1), (2, .ref (G.1 228))]) hx hb dL_takeOut_18 rfl hl (by decide) rfl (fun ls hl => ?_)
          refine lv_iconst (v := 3) hx hb dL_takeOut_19 (by decide) ?_
          cases hf
          exact g_iret S M hr hlk (by decide) (by decide) dL_takeOut_20 rfl
        · have hf := it_n hc hf
          cases hf
set_option maxHeartbeats 400000 in
set_option maxRecDepth 100000 in
theorem c_L_carry (l : Launch) (hfl : l.stackTraces = false) (G : gT) (sz : Nat) (lo : Int64) (dd : UInt64) (σ : gM) (a1 : Int32) (a2 : Int32) {r2 : Int32} {o : gM} {lo2 : Int64} {dd2 : UInt64} (hf : f_L_carry σ lo dd a1 a2 = some (r2, o, lo2, dd2)) : gCW l yL_carry cL_carry 5 (some .int) [(0, 10, 13, 13), (0, 10, 17, 15), (0, 10, 21, 35)] { frames := 10, cells := 1, slots := 6, locals := 167 } 1 6 G sz [.ref (G.1 0), .int a1, .int a2, .ref (G.1 228)] lo dd σ (.inl (mkI r2, o, lo2, dd2)) := by
  refine gCW_of (by decide) tw_4_72 (Nat.le_of_ble_eq_true rfl) (fun p e s m args below meth c ls S hr hlk htab hsz C0 hl H locs M => ?_)
  subst hsz
  have hx := S.1
  have hb := S.2.1
  unfold f_L_carry at hf
  refine lv_aload_n hx hb dL_carry_0 rfl (lv_at hl 3 rfl) ?_
  refine lv_iconst (v := 0) hx hb dL_carry_1 (by decide) ?_
  refine lv_aload_n hx hb dL_carry_2 rfl (lv_at hl 0 rfl) ?_
  refine lv_iload_n hx hb dL_carry_3 rfl (lv_at hl 1 rfl) ?_
  refine lv_iload_n hx hb dL_carry_4 rfl (lv_at hl 2 rfl) ?_
  rcases bt2_x hf with ⟨r, σ1, h, hf⟩ | ⟨n, σ1, h, hf⟩
  · refine g_callR (st1 := [.int r, .int 0, .ref (G.1 228)]) (cells' := 1) (slots' := 6) M (g_invV (index := 40) S M C0 hl (c_X12_carry l hfl G H.size lo dd σ a1 a2 h) k_X12_carry tw_4_74 tw_4_75 tw_4_73 (by decide) (ge_0 rfl) rfl rfl rfl rfl rfl rfl dL_carry_5) rfl rfl rfl (fun H locs M => ?_)
    refine lv_i2l hx hb dL_carry_8 rfl ?_
    refine g_last S M dL_carry_9 (fun H locs M => ?_)
    refine lv_goto (tgt := 25) hx hb dL_carry_10 (by decide) ?_
    refine lv_iconst (v := 0) hx hb dL_carry_25 (by decide) ?_
    cases hf
    exact g_iret S M hr hlk (by decide) (by decide) dL_carry_26 rfl
  · refine g_runX (cells' := 1) (slots' := 6) M (g_invV (index := 40) S M C0 hl (c_X12_carry l hfl G H.size lo dd σ a1 a2 h) k_X12_carry tw_4_74 tw_4_75 tw_4_73 (by decide) (ge_0 rfl) rfl rfl rfl rfl rfl rfl dL_carry_5) rfl rfl (fun ce q H locs M hq hv hcl => ?_)
    by_cases hc : n = 0
    · have hf := it_p hc hf
      subst hc
      refine vx_catch (E := "java/lang/IndexOutOfBoundsException") (name := "java/lang/IndexOutOfBoundsException") S.2.2.2.1 [] ⟨0, 10, 13, 13⟩ [⟨0, 10, 17, 15⟩, ⟨0, 10, 21, 35⟩] htab gp_n rfl (by decide) (S.2.2.2.2 _ tw_3_7) (va_any rfl (C0.2.1 _ (by decide +kernel))) hq hv hcl ?_
      refine lv_astore (lv' := [(4, .ref q), (0, .ref (G.1 0)), (1, .int a1), (2, .int a2), (3, .ref (G.1 228))]) hx hb dL_carry_13 hl (by decide) rfl (fun ls hl => ?_)
      refine lv_iconst (v := 1) hx hb dL_carry_15 (by decide) ?_
      cases hf
      exact g_iret S M hr hlk (by decide) (by decide) dL_carry_16 rfl
    · have hf := it_n hc hf
      by_cases hc : n = 1
      · have hf := it_p hc hf
        subst hc
        refine vx_catch (E := "java/lang/IllegalArgumentException") (name := "java/lang/IllegalArgumentException") S.2.2.2.1 [⟨0, 10, 13, 13⟩] ⟨0, 10, 17, 15⟩ [⟨0, 10, 21, 35⟩] htab (gp_c (Or.inr ⟨by decide, "java/lang/IndexOutOfBoundsException", S.2.2.2.2 _ tw_3_7, C0.2.2.2.1 ("java/lang/IllegalArgumentException", "java/lang/IndexOutOfBoundsException") (by decide +kernel)⟩) gp_n) rfl (by decide) (S.2.2.2.2 _ tw_3_87) (va_any rfl (C0.2.1 _ (by decide +kernel))) hq hv hcl ?_
        refine lv_astore (lv' := [(4, .ref q), (0, .ref (G.1 0)), (1, .int a1), (2, .int a2), (3, .ref (G.1 228))]) hx hb dL_carry_17 hl (by decide) rfl (fun ls hl => ?_)
        refine lv_iconst (v := 2) hx hb dL_carry_19 (by decide) ?_
        cases hf
        exact g_iret S M hr hlk (by decide) (by decide) dL_carry_20 rfl
      · have hf := it_n hc hf
        by_cases hc : n = 4
        · have hf := it_p hc hf
          subst hc
          refine vx_catch (E := "java/util/NoSuchElementException") (name := "java/util/NoSuchElementException") S.2.2.2.1 [⟨0, 10, 13, 13⟩, ⟨0, 10, 17, 15⟩] ⟨0, 10, 21, 35⟩ [] htab (gp_c (Or.inr ⟨by decide, "java/lang/IndexOutOfBoundsException", S.2.2.2.2 _ tw_3_7, C0.2.2.2.1 ("java/util/NoSuchElementException", "java/lang/IndexOutOfBoundsException") (by decide +kernel)⟩) (gp_c (Or.inr ⟨by decide, "java/lang/IllegalArgumentException", S.2.2.2.2 _ tw_3_87, C0.2.2.2.1 ("java/util/NoSuchElementException", "java/lang/IllegalArgumentException") (by decide +kernel)⟩) gp_n)) rfl (by decide) (S.2.2.2.2 _ tw_4_17) (va_any rfl (C0.2.1 _ (by decide +kernel))) hq hv hcl ?_
          refine lv_astore (lv' := [(4, .ref q), (0, .ref (G.1 0)), (1, .int a1), (2, .int a2), (3, .ref (G.1 228))]) hx hb dL_carry_21 hl (by decide) rfl (fun ls hl => ?_)
          refine lv_iconst (v := 3) hx hb dL_carry_23 (by decide) ?_
          cases hf
          exact g_iret S M hr hlk (by decide) (by decide) dL_carry_24 rfl
        · have hf := it_n hc hf
          cases hf
set_option maxHeartbeats 400000 in
set_option maxRecDepth 100000 in
theorem c_L_comeBack (l : Launch) (hfl : l.stackTraces = false) (G : gT) (sz : Nat) (lo : Int64) (dd : UInt64) (σ : gM) (a1 : Int32) {r2 : Int32} {o : gM} {lo2 : Int64} {dd2 : UInt64} (hf : f_L_comeBack σ lo dd a1 = some (r2, o, lo2, dd2)) : gCW l yL_comeBack cL_comeBack 4 (some .int) [(0, 9, 12, 13), (0, 9, 15, 17)] { frames := 10, cells := 1, slots := 6, locals := 166 } 1 6 G sz [.ref (G.1 0), .int a1, .ref (G.1 228)] lo dd σ (.inl (mkI r2, o, lo2, dd2)) := by
  refine gCW_of (by decide) tw_4_99 (Nat.le_of_ble_eq_true rfl) (fun p e s m args below meth c ls S hr hlk htab hsz C0 hl H locs M => ?_)
  subst hsz
  have hx := S.1
  have hb := S.2.1
  unfold f_L_comeBack at hf
  refine lv_aload_n hx hb dL_comeBack_0 rfl (lv_at hl 2 rfl) ?_
  refine lv_iconst (v := 0) hx hb dL_comeBack_1 (by decide) ?_
  refine lv_aload_n hx hb dL_comeBack_2 rfl (lv_at hl 0 rfl) ?_
  refine lv_iload_n hx hb dL_comeBack_3 rfl (lv_at hl 1 rfl) ?_
  rcases bt2_x hf with ⟨r, σ1, h, hf⟩ | ⟨n, σ1, h, hf⟩
  · refine g_callR (st1 := [.int r, .int 0, .ref (G.1 228)]) (cells' := 1) (slots' := 6) M (g_invV (index := 43) S M C0 hl (c_X12_comeBack l hfl G H.size lo dd σ a1 h) k_X12_comeBack tw_4_101 tw_4_102 tw_4_100 (by decide) (ge_0 rfl) rfl rfl rfl rfl rfl rfl dL_comeBack_4) rfl rfl rfl (fun H locs M => ?_)
    refine lv_i2l hx hb dL_comeBack_7 rfl ?_
    refine g_last S M dL_comeBack_8 (fun H locs M => ?_)
    refine lv_goto (tgt := 18) hx hb dL_comeBack_9 (by decide) ?_
    refine lv_iconst (v := 0) hx hb dL_comeBack_18 (by decide) ?_
    cases hf
    exact g_iret S M hr hlk (by decide) (by decide) dL_comeBack_19 rfl
  · refine g_runX (cells' := 1) (slots' := 6) M (g_invV (index := 43) S M C0 hl (c_X12_comeBack l hfl G H.size lo dd σ a1 h) k_X12_comeBack tw_4_101 tw_4_102 tw_4_100 (by decide) (ge_0 rfl) rfl rfl rfl rfl rfl rfl dL_comeBack_4) rfl rfl (fun ce q H locs M hq hv hcl => ?_)
    by_cases hc : n = 0
    · have hf := it_p hc hf
      subst hc
      refine vx_catch (E := "java/lang/IndexOutOfBoundsException") (name := "java/lang/IndexOutOfBoundsException") S.2.2.2.1 [] ⟨0, 9, 12, 13⟩ [⟨0, 9, 15, 17⟩] htab gp_n rfl (by decide) (S.2.2.2.2 _ tw_3_7) (va_any rfl (C0.2.1 _ (by decide +kernel))) hq hv hcl ?_
      refine lv_astore_n (lv' := [(3, .ref q), (0, .ref (G.1 0)), (1, .int a1), (2, .ref (G.1 228))]) hx hb dL_comeBack_12 rfl hl (by decide) rfl (fun ls hl => ?_)
      refine lv_iconst (v := 1) hx hb dL_comeBack_13 (by decide) ?_
      cases hf
      exact g_iret S M hr hlk (by decide) (by decide) dL_comeBack_14 rfl
    · have hf := it_n hc hf
      by_cases hc : n = 2
      · have hf := it_p hc hf
        subst hc
        refine vx_catch (E := "java/lang/IllegalStateException") (name := "java/lang/IllegalStateException") S.2.2.2.1 [⟨0, 9, 12, 13⟩] ⟨0, 9, 15, 17⟩ [] htab (gp_c (Or.inr ⟨by decide, "java/lang/IndexOutOfBoundsException", S.2.2.2.2 _ tw_3_7, C0.2.2.2.1 ("java/lang/IllegalStateException", "java/lang/IndexOutOfBoundsException") (by decide +kernel)⟩) gp_n) rfl (by decide) (S.2.2.2.2 _ tw_3_88) (va_any rfl (C0.2.1 _ (by decide +kernel))) hq hv hcl ?_
        refine lv_astore_n (lv' := [(3, .ref q), (0, .ref (G.1 0)), (1, .int a1), (2, .ref (G.1 228))]) hx hb dL_comeBack_15 rfl hl (by decide) rfl (fun ls hl => ?_)
        refine lv_iconst (v := 2) hx hb dL_comeBack_16 (by decide) ?_
        cases hf
        exact g_iret S M hr hlk (by decide) (by decide) dL_comeBack_17 rfl
      · have hf := it_n hc hf
        cases hf
set_option maxHeartbeats 400000 in
set_option maxRecDepth 100000 in
theorem c_L_roadLength (l : Launch) (hfl : l.stackTraces = false) (G : gT) (sz : Nat) (lo : Int64) (dd : UInt64) (σ : gM) (a1 : Int32) (a2 : Int32) {r2 : Int32} {o : gM} {lo2 : Int64} {dd2 : UInt64} (hf : f_L_roadLength σ lo dd a1 a2 = some (r2, o, lo2, dd2)) : gCW l yL_roadLength cL_roadLength 5 (some .int) [(0, 10, 13, 13), (0, 10, 17, 35)] { frames := 10, cells := 3, slots := 18, locals := 167 } 3 18 G sz [.ref (G.1 0), .int a1, .int a2, .ref (G.1 228)] lo dd σ (.inl (mkI r2, o, lo2, dd2)) := by
  refine gCW_of (by decide) tw_4_114 (Nat.le_of_ble_eq_true rfl) (fun p e s m args below meth c ls S hr hlk htab hsz C0 hl H locs M => ?_)
  subst hsz
  have hx := S.1
  have hb := S.2.1
  unfold f_L_roadLength at hf
  refine lv_aload_n hx hb dL_roadLength_0 rfl (lv_at hl 3 rfl) ?_
  refine lv_iconst (v := 0) hx hb dL_roadLength_1 (by decide) ?_
  refine lv_aload_n hx hb dL_roadLength_2 rfl (lv_at hl 0 rfl) ?_
  refine lv_iload_n hx hb dL_roadLength_3 rfl (lv_at hl 1 rfl) ?_
  refine lv_iload_n hx hb dL_roadLength_4 rfl (lv_at hl 2 rfl) ?_
  rcases bt_x hf with ⟨r, h, hf⟩ | ⟨n, h, hf⟩
  · refine g_callR (st1 := [.int r, .int 0, .ref (G.1 228)]) (cells' := 3) (slots' := 18) M (g_invV (index := 46) S M C0 hl (c_X12_roadLength l hfl G H.size lo dd σ a1 a2 h) k_X12_roadLength tw_4_116 tw_4_117 tw_4_115 (by decide) (ge_0 rfl) rfl rfl rfl rfl rfl rfl dL_roadLength_5) rfl rfl rfl (fun H locs M => ?_)
    refine lv_i2l hx hb dL_roadLength_8 rfl ?_
    refine g_last S M dL_roadLength_9 (fun H locs M => ?_)
    refine lv_goto (tgt := 21) hx hb dL_roadLength_10 (by decide) ?_
    refine lv_iconst (v := 0) hx hb dL_roadLength_21 (by decide) ?_
    cases hf
    exact g_iret S M hr hlk (by decide) (by decide) dL_roadLength_22 rfl
  · refine g_runX (cells' := 3) (slots' := 18) M (g_invV (index := 46) S M C0 hl (c_X12_roadLength l hfl G H.size lo dd σ a1 a2 h) k_X12_roadLength tw_4_116 tw_4_117 tw_4_115 (by decide) (ge_0 rfl) rfl rfl rfl rfl rfl rfl dL_roadLength_5) rfl rfl (fun ce q H locs M hq hv hcl => ?_)
    by_cases hc : n = 0
    · have hf := it_p hc hf
      subst hc
      refine vx_catch (E := "java/lang/IndexOutOfBoundsException") (name := "java/lang/IndexOutOfBoundsException") S.2.2.2.1 [] ⟨0, 10, 13, 13⟩ [⟨0, 10, 17, 35⟩] htab gp_n rfl (by decide) (S.2.2.2.2 _ tw_3_7) (va_any rfl (C0.2.1 _ (by decide +kernel))) hq hv hcl ?_
      refine lv_astore (lv' := [(4, .ref q), (0, .ref (G.1 0)), (1, .int a1), (2, .int a2), (3, .ref (G.1 228))]) hx hb dL_roadLength_13 hl (by decide) rfl (fun ls hl => ?_)
      refine lv_iconst (v := 1) hx hb dL_roadLength_15 (by decide) ?_
      cases hf
      exact g_iret S M hr hlk (by decide) (by decide) dL_roadLength_16 rfl
    · have hf := it_n hc hf
      by_cases hc : n = 4
      · have hf := it_p hc hf
        subst hc
        refine vx_catch (E := "java/util/NoSuchElementException") (name := "java/util/NoSuchElementException") S.2.2.2.1 [⟨0, 10, 13, 13⟩] ⟨0, 10, 17, 35⟩ [] htab (gp_c (Or.inr ⟨by decide, "java/lang/IndexOutOfBoundsException", S.2.2.2.2 _ tw_3_7, C0.2.2.2.1 ("java/util/NoSuchElementException", "java/lang/IndexOutOfBoundsException") (by decide +kernel)⟩) gp_n) rfl (by decide) (S.2.2.2.2 _ tw_4_17) (va_any rfl (C0.2.1 _ (by decide +kernel))) hq hv hcl ?_
        refine lv_astore (lv' := [(4, .ref q), (0, .ref (G.1 0)), (1, .int a1), (2, .int a2), (3, .ref (G.1 228))]) hx hb dL_roadLength_17 hl (by decide) rfl (fun ls hl => ?_)
        refine lv_iconst (v := 2) hx hb dL_roadLength_19 (by decide) ?_
        cases hf
        exact g_iret S M hr hlk (by decide) (by decide) dL_roadLength_20 rfl
      · have hf := it_n hc hf
        cases hf
set_option maxHeartbeats 400000 in
set_option maxRecDepth 100000 in
theorem c_L_distance (l : Launch) (hfl : l.stackTraces = false) (G : gT) (sz : Nat) (lo : Int64) (dd : UInt64) (σ : gM) (a1 : Int32) (a2 : Int32) {r2 : Int32} {o : gM} {lo2 : Int64} {dd2 : UInt64} (hf : f_L_distance σ lo dd a1 a2 = some (r2, o, lo2, dd2)) : gCW l yL_distance cL_distance 5 (some .int) [(0, 10, 13, 13), (0, 10, 17, 35)] { frames := 10, cells := 3, slots := 18, locals := 167 } 3 18 G sz [.ref (G.1 0), .int a1, .int a2, .ref (G.1 228)] lo dd σ (.inl (mkI r2, o, lo2, dd2)) := by
  refine gCW_of (by decide) tw_4_132 (Nat.le_of_ble_eq_true rfl) (fun p e s m args below meth c ls S hr hlk htab hsz C0 hl H locs M => ?_)
  subst hsz
  have hx := S.1
  have hb := S.2.1
  unfold f_L_distance at hf
  refine lv_aload_n hx hb dL_distance_0 rfl (lv_at hl 3 rfl) ?_
  refine lv_iconst (v := 0) hx hb dL_distance_1 (by decide) ?_
  refine lv_aload_n hx hb dL_distance_2 rfl (lv_at hl 0 rfl) ?_
  refine lv_iload_n hx hb dL_distance_3 rfl (lv_at hl 1 rfl) ?_
  refine lv_iload_n hx hb dL_distance_4 rfl (lv_at hl 2 rfl) ?_
  rcases bt2_x hf with ⟨r, σ1, h, hf⟩ | ⟨n, σ1, h, hf⟩
  · refine g_callR (st1 := [.int r, .int 0, .ref (G.1 228)]) (cells' := 3) (slots' := 18) M (g_invV (index := 49) S M C0 hl (c_X12_distance l hfl G H.size lo dd σ a1 a2 h) k_X12_distance tw_4_134 tw_4_135 tw_4_133 (by decide) (ge_0 rfl) rfl rfl rfl rfl rfl rfl dL_distance_5) rfl rfl rfl (fun H locs M => ?_)
    refine lv_i2l hx hb dL_distance_8 rfl ?_
    refine g_last S M dL_distance_9 (fun H locs M => ?_)
    refine lv_goto (tgt := 21) hx hb dL_distance_10 (by decide) ?_
    refine lv_iconst (v := 0) hx hb dL_distance_21 (by decide) ?_
    cases hf
    exact g_iret S M hr hlk (by decide) (by decide) dL_distance_22 rfl
  · refine g_runX (cells' := 3) (slots' := 18) M (g_invV (index := 49) S M C0 hl (c_X12_distance l hfl G H.size lo dd σ a1 a2 h) k_X12_distance tw_4_134 tw_4_135 tw_4_133 (by decide) (ge_0 rfl) rfl rfl rfl rfl rfl rfl dL_distance_5) rfl rfl (fun ce q H locs M hq hv hcl => ?_)
    by_cases hc : n = 0
    · have hf := it_p hc hf
      subst hc
      refine vx_catch (E := "java/lang/IndexOutOfBoundsException") (name := "java/lang/IndexOutOfBoundsException") S.2.2.2.1 [] ⟨0, 10, 13, 13⟩ [⟨0, 10, 17, 35⟩] htab gp_n rfl (by decide) (S.2.2.2.2 _ tw_3_7) (va_any rfl (C0.2.1 _ (by decide +kernel))) hq hv hcl ?_
      refine lv_astore (lv' := [(4, .ref q), (0, .ref (G.1 0)), (1, .int a1), (2, .int a2), (3, .ref (G.1 228))]) hx hb dL_distance_13 hl (by decide) rfl (fun ls hl => ?_)
      refine lv_iconst (v := 1) hx hb dL_distance_15 (by decide) ?_
      cases hf
      exact g_iret S M hr hlk (by decide) (by decide) dL_distance_16 rfl
    · have hf := it_n hc hf
      by_cases hc : n = 4
      · have hf := it_p hc hf
        subst hc
        refine vx_catch (E := "java/util/NoSuchElementException") (name := "java/util/NoSuchElementException") S.2.2.2.1 [⟨0, 10, 13, 13⟩] ⟨0, 10, 17, 35⟩ [] htab (gp_c (Or.inr ⟨by decide, "java/lang/IndexOutOfBoundsException", S.2.2.2.2 _ tw_3_7, C0.2.2.2.1 ("java/util/NoSuchElementException", "java/lang/IndexOutOfBoundsException") (by decide +kernel)⟩) gp_n) rfl (by decide) (S.2.2.2.2 _ tw_4_17) (va_any rfl (C0.2.1 _ (by decide +kernel))) hq hv hcl ?_
        refine lv_astore (lv' := [(4, .ref q), (0, .ref (G.1 0)), (1, .int a1), (2, .int a2), (3, .ref (G.1 228))]) hx hb dL_distance_17 hl (by decide) rfl (fun ls hl => ?_)
        refine lv_iconst (v := 2) hx hb dL_distance_19 (by decide) ?_
        cases hf
        exact g_iret S M hr hlk (by decide) (by decide) dL_distance_20 rfl
      · have hf := it_n hc hf
        cases hf
set_option maxHeartbeats 400000 in
set_option maxRecDepth 100000 in
theorem c_L_distanceByRounds (l : Launch) (hfl : l.stackTraces = false) (G : gT) (sz : Nat) (lo : Int64) (dd : UInt64) (σ : gM) (a1 : Int32) (a2 : Int32) {r2 : Int32} {o : gM} {lo2 : Int64} {dd2 : UInt64} (hf : f_L_distanceByRounds σ lo dd a1 a2 = some (r2, o, lo2, dd2)) : gCW l yL_distanceByRounds cL_distanceByRounds 5 (some .int) [(0, 10, 13, 13), (0, 10, 17, 35)] { frames := 10, cells := 3, slots := 18, locals := 167 } 3 18 G sz [.ref (G.1 0), .int a1, .int a2, .ref (G.1 228)] lo dd σ (.inl (mkI r2, o, lo2, dd2)) := by
  refine gCW_of (by decide) tw_4_140 (Nat.le_of_ble_eq_true rfl) (fun p e s m args below meth c ls S hr hlk htab hsz C0 hl H locs M => ?_)
  subst hsz
  have hx := S.1
  have hb := S.2.1
  unfold f_L_distanceByRounds at hf
  refine lv_aload_n hx hb dL_distanceByRounds_0 rfl (lv_at hl 3 rfl) ?_
  refine lv_iconst (v := 0) hx hb dL_distanceByRounds_1 (by decide) ?_
  refine lv_aload_n hx hb dL_distanceByRounds_2 rfl (lv_at hl 0 rfl) ?_
  refine lv_iload_n hx hb dL_distanceByRounds_3 rfl (lv_at hl 1 rfl) ?_
  refine lv_iload_n hx hb dL_distanceByRounds_4 rfl (lv_at hl 2 rfl) ?_
  rcases bt2_x hf with ⟨r, σ1, h, hf⟩ | ⟨n, σ1, h, hf⟩
  · refine g_callR (st1 := [.int r, .int 0, .ref (G.1 228)]) (cells' := 3) (slots' := 18) M (g_invV (index := 52) S M C0 hl (c_X12_distanceByRounds l hfl G H.size lo dd σ a1 a2 h) k_X12_distanceByRounds tw_4_142 tw_4_143 tw_4_141 (by decide) (ge_0 rfl) rfl rfl rfl rfl rfl rfl dL_distanceByRounds_5) rfl rfl rfl (fun H locs M => ?_)
    refine lv_i2l hx hb dL_distanceByRounds_8 rfl ?_
    refine g_last S M dL_distanceByRounds_9 (fun H locs M => ?_)
    refine lv_goto (tgt := 21) hx hb dL_distanceByRounds_10 (by decide) ?_
    refine lv_iconst (v := 0) hx hb dL_distanceByRounds_21 (by decide) ?_
    cases hf
    exact g_iret S M hr hlk (by decide) (by decide) dL_distanceByRounds_22 rfl
  · refine g_runX (cells' := 3) (slots' := 18) M (g_invV (index := 52) S M C0 hl (c_X12_distanceByRounds l hfl G H.size lo dd σ a1 a2 h) k_X12_distanceByRounds tw_4_142 tw_4_143 tw_4_141 (by decide) (ge_0 rfl) rfl rfl rfl rfl rfl rfl dL_distanceByRounds_5) rfl rfl (fun ce q H locs M hq hv hcl => ?_)
    by_cases hc : n = 0
    · have hf := it_p hc hf
      subst hc
      refine vx_catch (E := "java/lang/IndexOutOfBoundsException") (name := "java/lang/IndexOutOfBoundsException") S.2.2.2.1 [] ⟨0, 10, 13, 13⟩ [⟨0, 10, 17, 35⟩] htab gp_n rfl (by decide) (S.2.2.2.2 _ tw_3_7) (va_any rfl (C0.2.1 _ (by decide +kernel))) hq hv hcl ?_
      refine lv_astore (lv' := [(4, .ref q), (0, .ref (G.1 0)), (1, .int a1), (2, .int a2), (3, .ref (G.1 228))]) hx hb dL_distanceByRounds_13 hl (by decide) rfl (fun ls hl => ?_)
      refine lv_iconst (v := 1) hx hb dL_distanceByRounds_15 (by decide) ?_
      cases hf
      exact g_iret S M hr hlk (by decide) (by decide) dL_distanceByRounds_16 rfl
    · have hf := it_n hc hf
      by_cases hc : n = 4
      · have hf := it_p hc hf
        subst hc
        refine vx_catch (E := "java/util/NoSuchElementException") (name := "java/util/NoSuchElementException") S.2.2.2.1 [⟨0, 10, 13, 13⟩] ⟨0, 10, 17, 35⟩ [] htab (gp_c (Or.inr ⟨by decide, "java/lang/IndexOutOfBoundsException", S.2.2.2.2 _ tw_3_7, C0.2.2.2.1 ("java/util/NoSuchElementException", "java/lang/IndexOutOfBoundsException") (by decide +kernel)⟩) gp_n) rfl (by decide) (S.2.2.2.2 _ tw_4_17) (va_any rfl (C0.2.1 _ (by decide +kernel))) hq hv hcl ?_
        refine lv_astore (lv' := [(4, .ref q), (0, .ref (G.1 0)), (1, .int a1), (2, .int a2), (3, .ref (G.1 228))]) hx hb dL_distanceByRounds_17 hl (by decide) rfl (fun ls hl => ?_)
        refine lv_iconst (v := 2) hx hb dL_distanceByRounds_19 (by decide) ?_
        cases hf
        exact g_iret S M hr hlk (by decide) (by decide) dL_distanceByRounds_20 rfl
      · have hf := it_n hc hf
        cases hf
set_option maxHeartbeats 400000 in
set_option maxRecDepth 100000 in
theorem c_L_farthestPlace (l : Launch) (hfl : l.stackTraces = false) (G : gT) (sz : Nat) (lo : Int64) (dd : UInt64) (σ : gM) (a1 : Int32) {r2 : Int32} {o : gM} {lo2 : Int64} {dd2 : UInt64} (hf : f_L_farthestPlace σ lo dd a1 = some (r2, o, lo2, dd2)) : gCW l yL_farthestPlace cL_farthestPlace 4 (some .int) [(0, 9, 12, 13)] { frames := 9, cells := 1, slots := 6, locals := 145 } 1 6 G sz [.ref (G.1 0), .int a1, .ref (G.1 228)] lo dd σ (.inl (mkI r2, o, lo2, dd2)) := by
  refine gCW_of (by decide) tw_4_149 (Nat.le_of_ble_eq_true rfl) (fun p e s m args below meth c ls S hr hlk htab hsz C0 hl H locs M => ?_)
  subst hsz
  have hx := S.1
  have hb := S.2.1
  unfold f_L_farthestPlace at hf
  refine lv_aload_n hx hb dL_farthestPlace_0 rfl (lv_at hl 2 rfl) ?_
  refine lv_iconst (v := 0) hx hb dL_farthestPlace_1 (by decide) ?_
  refine lv_aload_n hx hb dL_farthestPlace_2 rfl (lv_at hl 0 rfl) ?_
  refine lv_iload_n hx hb dL_farthestPlace_3 rfl (lv_at hl 1 rfl) ?_
  rcases bt2_x hf with ⟨r, σ1, h, hf⟩ | ⟨n, σ1, h, hf⟩
  · refine g_callR (st1 := [.int r, .int 0, .ref (G.1 228)]) (cells' := 1) (slots' := 6) M (g_invV (index := 55) S M C0 hl (c_X12_farthestPlace l hfl G H.size lo dd σ a1 h) k_X12_farthestPlace tw_4_151 tw_4_152 tw_4_150 (by decide) (ge_0 rfl) rfl rfl rfl rfl rfl rfl dL_farthestPlace_4) rfl rfl rfl (fun H locs M => ?_)
    refine lv_i2l hx hb dL_farthestPlace_7 rfl ?_
    refine g_last S M dL_farthestPlace_8 (fun H locs M => ?_)
    refine lv_goto (tgt := 15) hx hb dL_farthestPlace_9 (by decide) ?_
    refine lv_iconst (v := 0) hx hb dL_farthestPlace_15 (by decide) ?_
    cases hf
    exact g_iret S M hr hlk (by decide) (by decide) dL_farthestPlace_16 rfl
  · refine g_runX (cells' := 1) (slots' := 6) M (g_invV (index := 55) S M C0 hl (c_X12_farthestPlace l hfl G H.size lo dd σ a1 h) k_X12_farthestPlace tw_4_151 tw_4_152 tw_4_150 (by decide) (ge_0 rfl) rfl rfl rfl rfl rfl rfl dL_farthestPlace_4) rfl rfl (fun ce q H locs M hq hv hcl => ?_)
    by_cases hc : n = 0
    · have hf := it_p hc hf
      subst hc
      refine vx_catch (E := "java/lang/IndexOutOfBoundsException") (name := "java/lang/IndexOutOfBoundsException") S.2.2.2.1 [] ⟨0, 9, 12, 13⟩ [] htab gp_n rfl (by decide) (S.2.2.2.2 _ tw_3_7) (va_any rfl (C0.2.1 _ (by decide +kernel))) hq hv hcl ?_
      refine lv_astore_n (lv' := [(3, .ref q), (0, .ref (G.1 0)), (1, .int a1), (2, .ref (G.1 228))]) hx hb dL_farthestPlace_12 rfl hl (by decide) rfl (fun ls hl => ?_)
      refine lv_iconst (v := 1) hx hb dL_farthestPlace_13 (by decide) ?_
      cases hf
      exact g_iret S M hr hlk (by decide) (by decide) dL_farthestPlace_14 rfl
    · have hf := it_n hc hf
      cases hf
set_option maxHeartbeats 400000 in
set_option maxRecDepth 100000 in
theorem c_L_weight (l : Launch) (hfl : l.stackTraces = false) (G : gT) (sz : Nat) (lo : Int64) (dd : UInt64) (σ : gM) (a1 : Int32) {r2 : Int32} {o : gM} {lo2 : Int64} {dd2 : UInt64} (hf : f_L_weight σ lo dd a1 = some (r2, o, lo2, dd2)) : gCW l yL_weight cL_weight 4 (some .int) [(0, 9, 12, 13)] { frames := 10, cells := 1, slots := 6, locals := 166 } 1 6 G sz [.ref (G.1 0), .int a1, .ref (G.1 228)] lo dd σ (.inl (mkI r2, o, lo2, dd2)) := by
  refine gCW_of (by decide) tw_4_160 (Nat.le_of_ble_eq_true rfl) (fun p e s m args below meth c ls S hr hlk htab hsz C0 hl H locs M => ?_)
  subst hsz
  have hx := S.1
  have hb := S.2.1
  unfold f_L_weight at hf
  refine lv_aload_n hx hb dL_weight_0 rfl (lv_at hl 2 rfl) ?_
  refine lv_iconst (v := 0) hx hb dL_weight_1 (by decide) ?_
  refine lv_aload_n hx hb dL_weight_2 rfl (lv_at hl 0 rfl) ?_
  refine lv_iload_n hx hb dL_weight_3 rfl (lv_at hl 1 rfl) ?_
  rcases bt_x hf with ⟨r, h, hf⟩ | ⟨n, h, hf⟩
  · refine g_callR (st1 := [.int r, .int 0, .ref (G.1 228)]) (cells' := 1) (slots' := 6) M (g_invV (index := 58) S M C0 hl (c_X12_weight l hfl G H.size lo dd σ a1 h) k_X12_weight tw_4_162 tw_4_163 tw_4_161 (by decide) (ge_0 rfl) rfl rfl rfl rfl rfl rfl dL_weight_4) rfl rfl rfl (fun H locs M => ?_)
    refine lv_i2l hx hb dL_weight_7 rfl ?_
    refine g_last S M dL_weight_8 (fun H locs M => ?_)
    refine lv_goto (tgt := 15) hx hb dL_weight_9 (by decide) ?_
    refine lv_iconst (v := 0) hx hb dL_weight_15 (by decide) ?_
    cases hf
    exact g_iret S M hr hlk (by decide) (by decide) dL_weight_16 rfl
  · refine g_runX (cells' := 1) (slots' := 6) M (g_invV (index := 58) S M C0 hl (c_X12_weight l hfl G H.size lo dd σ a1 h) k_X12_weight tw_4_162 tw_4_163 tw_4_161 (by decide) (ge_0 rfl) rfl rfl rfl rfl rfl rfl dL_weight_4) rfl rfl (fun ce q H locs M hq hv hcl => ?_)
    by_cases hc : n = 0
    · have hf := it_p hc hf
      subst hc
      refine vx_catch (E := "java/lang/IndexOutOfBoundsException") (name := "java/lang/IndexOutOfBoundsException") S.2.2.2.1 [] ⟨0, 9, 12, 13⟩ [] htab gp_n rfl (by decide) (S.2.2.2.2 _ tw_3_7) (va_any rfl (C0.2.1 _ (by decide +kernel))) hq hv hcl ?_
      refine lv_astore_n (lv' := [(3, .ref q), (0, .ref (G.1 0)), (1, .int a1), (2, .ref (G.1 228))]) hx hb dL_weight_12 rfl hl (by decide) rfl (fun ls hl => ?_)
      refine lv_iconst (v := 1) hx hb dL_weight_13 (by decide) ?_
      cases hf
      exact g_iret S M hr hlk (by decide) (by decide) dL_weight_14 rfl
    · have hf := it_n hc hf
      cases hf
set_option maxHeartbeats 400000 in
set_option maxRecDepth 100000 in
theorem c_L_hazard (l : Launch) (hfl : l.stackTraces = false) (G : gT) (sz : Nat) (lo : Int64) (dd : UInt64) (σ : gM) (a1 : Int32) {r2 : Int32} {o : gM} {lo2 : Int64} {dd2 : UInt64} (hf : f_L_hazard σ lo dd a1 = some (r2, o, lo2, dd2)) : gCW l yL_hazard cL_hazard 4 (some .int) [(0, 9, 12, 13)] { frames := 10, cells := 1, slots := 6, locals := 166 } 1 6 G sz [.ref (G.1 0), .int a1, .ref (G.1 228)] lo dd σ (.inl (mkI r2, o, lo2, dd2)) := by
  refine gCW_of (by decide) tw_4_172 (Nat.le_of_ble_eq_true rfl) (fun p e s m args below meth c ls S hr hlk htab hsz C0 hl H locs M => ?_)
  subst hsz
  have hx := S.1
  have hb := S.2.1
  unfold f_L_hazard at hf
  refine lv_aload_n hx hb dL_hazard_0 rfl (lv_at hl 2 rfl) ?_
  refine lv_iconst (v := 0) hx hb dL_hazard_1 (by decide) ?_
  refine lv_aload_n hx hb dL_hazard_2 rfl (lv_at hl 0 rfl) ?_
  refine lv_iload_n hx hb dL_hazard_3 rfl (lv_at hl 1 rfl) ?_
  rcases bt_x hf with ⟨r, h, hf⟩ | ⟨n, h, hf⟩
  · refine g_callR (st1 := [.int r, .int 0, .ref (G.1 228)]) (cells' := 1) (slots' := 6) M (g_invV (index := 61) S M C0 hl (c_X12_hazard l hfl G H.size lo dd σ a1 h) k_X12_hazard tw_4_174 tw_4_175 tw_4_173 (by decide) (ge_0 rfl) rfl rfl rfl rfl rfl rfl dL_hazard_4) rfl rfl rfl (fun H locs M => ?_)
    refine lv_i2l hx hb dL_hazard_7 rfl ?_
    refine g_last S M dL_hazard_8 (fun H locs M => ?_)
    refine lv_goto (tgt := 15) hx hb dL_hazard_9 (by decide) ?_
    refine lv_iconst (v := 0) hx hb dL_hazard_15 (by decide) ?_
    cases hf
    exact g_iret S M hr hlk (by decide) (by decide) dL_hazard_16 rfl
  · refine g_runX (cells' := 1) (slots' := 6) M (g_invV (index := 61) S M C0 hl (c_X12_hazard l hfl G H.size lo dd σ a1 h) k_X12_hazard tw_4_174 tw_4_175 tw_4_173 (by decide) (ge_0 rfl) rfl rfl rfl rfl rfl rfl dL_hazard_4) rfl rfl (fun ce q H locs M hq hv hcl => ?_)
    by_cases hc : n = 0
    · have hf := it_p hc hf
      subst hc
      refine vx_catch (E := "java/lang/IndexOutOfBoundsException") (name := "java/lang/IndexOutOfBoundsException") S.2.2.2.1 [] ⟨0, 9, 12, 13⟩ [] htab gp_n rfl (by decide) (S.2.2.2.2 _ tw_3_7) (va_any rfl (C0.2.1 _ (by decide +kernel))) hq hv hcl ?_
      refine lv_astore_n (lv' := [(3, .ref q), (0, .ref (G.1 0)), (1, .int a1), (2, .ref (G.1 228))]) hx hb dL_hazard_12 rfl hl (by decide) rfl (fun ls hl => ?_)
      refine lv_iconst (v := 1) hx hb dL_hazard_13 (by decide) ?_
      cases hf
      exact g_iret S M hr hlk (by decide) (by decide) dL_hazard_14 rfl
    · have hf := it_n hc hf
      cases hf
set_option maxHeartbeats 400000 in
set_option maxRecDepth 100000 in
theorem c_L_destination (l : Launch) (hfl : l.stackTraces = false) (G : gT) (sz : Nat) (lo : Int64) (dd : UInt64) (σ : gM) (a1 : Int32) {r2 : Int32} {o : gM} {lo2 : Int64} {dd2 : UInt64} (hf : f_L_destination σ lo dd a1 = some (r2, o, lo2, dd2)) : gCW l yL_destination cL_destination 4 (some .int) [(0, 9, 12, 13)] { frames := 10, cells := 1, slots := 6, locals := 166 } 1 6 G sz [.ref (G.1 0), .int a1, .ref (G.1 228)] lo dd σ (.inl (mkI r2, o, lo2, dd2)) := by
  refine gCW_of (by decide) tw_4_180 (Nat.le_of_ble_eq_true rfl) (fun p e s m args below meth c ls S hr hlk htab hsz C0 hl H locs M => ?_)
  subst hsz
  have hx := S.1
  have hb := S.2.1
  unfold f_L_destination at hf
  refine lv_aload_n hx hb dL_destination_0 rfl (lv_at hl 2 rfl) ?_
  refine lv_iconst (v := 0) hx hb dL_destination_1 (by decide) ?_
  refine lv_aload_n hx hb dL_destination_2 rfl (lv_at hl 0 rfl) ?_
  refine lv_iload_n hx hb dL_destination_3 rfl (lv_at hl 1 rfl) ?_
  rcases bt_x hf with ⟨r, h, hf⟩ | ⟨n, h, hf⟩
  · refine g_callR (st1 := [.int r, .int 0, .ref (G.1 228)]) (cells' := 1) (slots' := 6) M (g_invV (index := 64) S M C0 hl (c_X12_destination l hfl G H.size lo dd σ a1 h) k_X12_destination tw_4_182 tw_4_183 tw_4_181 (by decide) (ge_0 rfl) rfl rfl rfl rfl rfl rfl dL_destination_4) rfl rfl rfl (fun H locs M => ?_)
    refine lv_i2l hx hb dL_destination_7 rfl ?_
    refine g_last S M dL_destination_8 (fun H locs M => ?_)
    refine lv_goto (tgt := 15) hx hb dL_destination_9 (by decide) ?_
    refine lv_iconst (v := 0) hx hb dL_destination_15 (by decide) ?_
    cases hf
    exact g_iret S M hr hlk (by decide) (by decide) dL_destination_16 rfl
  · refine g_runX (cells' := 1) (slots' := 6) M (g_invV (index := 64) S M C0 hl (c_X12_destination l hfl G H.size lo dd σ a1 h) k_X12_destination tw_4_182 tw_4_183 tw_4_181 (by decide) (ge_0 rfl) rfl rfl rfl rfl rfl rfl dL_destination_4) rfl rfl (fun ce q H locs M hq hv hcl => ?_)
    by_cases hc : n = 0
    · have hf := it_p hc hf
      subst hc
      refine vx_catch (E := "java/lang/IndexOutOfBoundsException") (name := "java/lang/IndexOutOfBoundsException") S.2.2.2.1 [] ⟨0, 9, 12, 13⟩ [] htab gp_n rfl (by decide) (S.2.2.2.2 _ tw_3_7) (va_any rfl (C0.2.1 _ (by decide +kernel))) hq hv hcl ?_
      refine lv_astore_n (lv' := [(3, .ref q), (0, .ref (G.1 0)), (1, .int a1), (2, .ref (G.1 228))]) hx hb dL_destination_12 rfl hl (by decide) rfl (fun ls hl => ?_)
      refine lv_iconst (v := 1) hx hb dL_destination_13 (by decide) ?_
      cases hf
      exact g_iret S M hr hlk (by decide) (by decide) dL_destination_14 rfl
    · have hf := it_n hc hf
      cases hf
set_option maxHeartbeats 400000 in
set_option maxRecDepth 100000 in
theorem c_L_state (l : Launch) (hfl : l.stackTraces = false) (G : gT) (sz : Nat) (lo : Int64) (dd : UInt64) (σ : gM) (a1 : Int32) {r2 : Int32} {o : gM} {lo2 : Int64} {dd2 : UInt64} (hf : f_L_state σ lo dd a1 = some (r2, o, lo2, dd2)) : gCW l yL_state cL_state 4 (some .int) [(0, 9, 12, 13)] { frames := 10, cells := 1, slots := 6, locals := 166 } 1 6 G sz [.ref (G.1 0), .int a1, .ref (G.1 228)] lo dd σ (.inl (mkI r2, o, lo2, dd2)) := by
  refine gCW_of (by decide) tw_4_191 (Nat.le_of_ble_eq_true rfl) (fun p e s m args below meth c ls S hr hlk htab hsz C0 hl H locs M => ?_)
  subst hsz
  have hx := S.1
  have hb := S.2.1
  unfold f_L_state at hf
  refine lv_aload_n hx hb dL_state_0 rfl (lv_at hl 2 rfl) ?_
  refine lv_iconst (v := 0) hx hb dL_state_1 (by decide) ?_
  refine lv_aload_n hx hb dL_state_2 rfl (lv_at hl 0 rfl) ?_
  refine lv_iload_n hx hb dL_state_3 rfl (lv_at hl 1 rfl) ?_
  rcases bt_x hf with ⟨r, h, hf⟩ | ⟨n, h, hf⟩
  · refine g_callR (st1 := [.int r, .int 0, .ref (G.1 228)]) (cells' := 1) (slots' := 6) M (g_invV (index := 67) S M C0 hl (c_X12_state l hfl G H.size lo dd σ a1 h) k_X12_state tw_4_193 tw_4_194 tw_4_192 (by decide) (ge_0 rfl) rfl rfl rfl rfl rfl rfl dL_state_4) rfl rfl rfl (fun H locs M => ?_)
    refine lv_i2l hx hb dL_state_7 rfl ?_
    refine g_last S M dL_state_8 (fun H locs M => ?_)
    refine lv_goto (tgt := 15) hx hb dL_state_9 (by decide) ?_
    refine lv_iconst (v := 0) hx hb dL_state_15 (by decide) ?_
    cases hf
    exact g_iret S M hr hlk (by decide) (by decide) dL_state_16 rfl
  · refine g_runX (cells' := 1) (slots' := 6) M (g_invV (index := 67) S M C0 hl (c_X12_state l hfl G H.size lo dd σ a1 h) k_X12_state tw_4_193 tw_4_194 tw_4_192 (by decide) (ge_0 rfl) rfl rfl rfl rfl rfl rfl dL_state_4) rfl rfl (fun ce q H locs M hq hv hcl => ?_)
    by_cases hc : n = 0
    · have hf := it_p hc hf
      subst hc
      refine vx_catch (E := "java/lang/IndexOutOfBoundsException") (name := "java/lang/IndexOutOfBoundsException") S.2.2.2.1 [] ⟨0, 9, 12, 13⟩ [] htab gp_n rfl (by decide) (S.2.2.2.2 _ tw_3_7) (va_any rfl (C0.2.1 _ (by decide +kernel))) hq hv hcl ?_
      refine lv_astore_n (lv' := [(3, .ref q), (0, .ref (G.1 0)), (1, .int a1), (2, .ref (G.1 228))]) hx hb dL_state_12 rfl hl (by decide) rfl (fun ls hl => ?_)
      refine lv_iconst (v := 1) hx hb dL_state_13 (by decide) ?_
      cases hf
      exact g_iret S M hr hlk (by decide) (by decide) dL_state_14 rfl
    · have hf := it_n hc hf
      cases hf
set_option maxHeartbeats 400000 in
set_option maxRecDepth 100000 in
theorem c_L_sackOf (l : Launch) (hfl : l.stackTraces = false) (G : gT) (sz : Nat) (lo : Int64) (dd : UInt64) (σ : gM) (a1 : Int32) {r2 : Int32} {o : gM} {lo2 : Int64} {dd2 : UInt64} (hf : f_L_sackOf σ lo dd a1 = some (r2, o, lo2, dd2)) : gCW l yL_sackOf cL_sackOf 4 (some .int) [(0, 9, 12, 13), (0, 9, 15, 35)] { frames := 10, cells := 2, slots := 12, locals := 167 } 2 12 G sz [.ref (G.1 0), .int a1, .ref (G.1 228)] lo dd σ (.inl (mkI r2, o, lo2, dd2)) := by
  refine gCW_of (by decide) tw_4_202 (Nat.le_of_ble_eq_true rfl) (fun p e s m args below meth c ls S hr hlk htab hsz C0 hl H locs M => ?_)
  subst hsz
  have hx := S.1
  have hb := S.2.1
  unfold f_L_sackOf at hf
  refine lv_aload_n hx hb dL_sackOf_0 rfl (lv_at hl 2 rfl) ?_
  refine lv_iconst (v := 0) hx hb dL_sackOf_1 (by decide) ?_
  refine lv_aload_n hx hb dL_sackOf_2 rfl (lv_at hl 0 rfl) ?_
  refine lv_iload_n hx hb dL_sackOf_3 rfl (lv_at hl 1 rfl) ?_
  rcases bt_x hf with ⟨r, h, hf⟩ | ⟨n, h, hf⟩
  · refine g_callR (st1 := [.int r, .int 0, .ref (G.1 228)]) (cells' := 2) (slots' := 12) M (g_invV (index := 71) S M C0 hl (c_X12_sackOf l hfl G H.size lo dd σ a1 h) k_X12_sackOf tw_4_204 tw_4_205 tw_4_203 (by decide) (ge_0 rfl) rfl rfl rfl rfl rfl rfl dL_sackOf_4) rfl rfl rfl (fun H locs M => ?_)
    refine lv_i2l hx hb dL_sackOf_7 rfl ?_
    refine g_last S M dL_sackOf_8 (fun H locs M => ?_)
    refine lv_goto (tgt := 18) hx hb dL_sackOf_9 (by decide) ?_
    refine lv_iconst (v := 0) hx hb dL_sackOf_18 (by decide) ?_
    cases hf
    exact g_iret S M hr hlk (by decide) (by decide) dL_sackOf_19 rfl
  · refine g_runX (cells' := 2) (slots' := 12) M (g_invV (index := 71) S M C0 hl (c_X12_sackOf l hfl G H.size lo dd σ a1 h) k_X12_sackOf tw_4_204 tw_4_205 tw_4_203 (by decide) (ge_0 rfl) rfl rfl rfl rfl rfl rfl dL_sackOf_4) rfl rfl (fun ce q H locs M hq hv hcl => ?_)
    by_cases hc : n = 0
    · have hf := it_p hc hf
      subst hc
      refine vx_catch (E := "java/lang/IndexOutOfBoundsException") (name := "java/lang/IndexOutOfBoundsException") S.2.2.2.1 [] ⟨0, 9, 12, 13⟩ [⟨0, 9, 15, 35⟩] htab gp_n rfl (by decide) (S.2.2.2.2 _ tw_3_7) (va_any rfl (C0.2.1 _ (by decide +kernel))) hq hv hcl ?_
      refine lv_astore_n (lv' := [(3, .ref q), (0, .ref (G.1 0)), (1, .int a1), (2, .ref (G.1 228))]) hx hb dL_sackOf_12 rfl hl (by decide) rfl (fun ls hl => ?_)
      refine lv_iconst (v := 1) hx hb dL_sackOf_13 (by decide) ?_
      cases hf
      exact g_iret S M hr hlk (by decide) (by decide) dL_sackOf_14 rfl
    · have hf := it_n hc hf
      by_cases hc : n = 4
      · have hf := it_p hc hf
        subst hc
        refine vx_catch (E := "java/util/NoSuchElementException") (name := "java/util/NoSuchElementException") S.2.2.2.1 [⟨0, 9, 12, 13⟩] ⟨0, 9, 15, 35⟩ [] htab (gp_c (Or.inr ⟨by decide, "java/lang/IndexOutOfBoundsException", S.2.2.2.2 _ tw_3_7, C0.2.2.2.1 ("java/util/NoSuchElementException", "java/lang/IndexOutOfBoundsException") (by decide +kernel)⟩) gp_n) rfl (by decide) (S.2.2.2.2 _ tw_4_17) (va_any rfl (C0.2.1 _ (by decide +kernel))) hq hv hcl ?_
        refine lv_astore_n (lv' := [(3, .ref q), (0, .ref (G.1 0)), (1, .int a1), (2, .ref (G.1 228))]) hx hb dL_sackOf_15 rfl hl (by decide) rfl (fun ls hl => ?_)
        refine lv_iconst (v := 2) hx hb dL_sackOf_16 (by decide) ?_
        cases hf
        exact g_iret S M hr hlk (by decide) (by decide) dL_sackOf_17 rfl
      · have hf := it_n hc hf
        cases hf
set_option maxHeartbeats 400000 in
set_option maxRecDepth 100000 in
theorem c_L_returns (l : Launch) (hfl : l.stackTraces = false) (G : gT) (sz : Nat) (lo : Int64) (dd : UInt64) (σ : gM) (a1 : Int32) {r2 : Int32} {o : gM} {lo2 : Int64} {dd2 : UInt64} (hf : f_L_returns σ lo dd a1 = some (r2, o, lo2, dd2)) : gCW l yL_returns cL_returns 4 (some .int) [(0, 9, 12, 13)] { frames := 10, cells := 1, slots := 6, locals := 166 } 1 6 G sz [.ref (G.1 0), .int a1, .ref (G.1 228)] lo dd σ (.inl (mkI r2, o, lo2, dd2)) := by
  refine gCW_of (by decide) tw_4_210 (Nat.le_of_ble_eq_true rfl) (fun p e s m args below meth c ls S hr hlk htab hsz C0 hl H locs M => ?_)
  subst hsz
  have hx := S.1
  have hb := S.2.1
  unfold f_L_returns at hf
  refine lv_aload_n hx hb dL_returns_0 rfl (lv_at hl 2 rfl) ?_
  refine lv_iconst (v := 0) hx hb dL_returns_1 (by decide) ?_
  refine lv_aload_n hx hb dL_returns_2 rfl (lv_at hl 0 rfl) ?_
  refine lv_iload_n hx hb dL_returns_3 rfl (lv_at hl 1 rfl) ?_
  rcases bt_x hf with ⟨r, h, hf⟩ | ⟨n, h, hf⟩
  · refine g_callR (st1 := [.int r, .int 0, .ref (G.1 228)]) (cells' := 1) (slots' := 6) M (g_invV (index := 74) S M C0 hl (c_X12_returns l hfl G H.size lo dd σ a1 h) k_X12_returns tw_4_212 tw_4_213 tw_4_211 (by decide) (ge_0 rfl) rfl rfl rfl rfl rfl rfl dL_returns_4) rfl rfl rfl (fun H locs M => ?_)
    refine lv_i2l hx hb dL_returns_7 rfl ?_
    refine g_last S M dL_returns_8 (fun H locs M => ?_)
    refine lv_goto (tgt := 15) hx hb dL_returns_9 (by decide) ?_
    refine lv_iconst (v := 0) hx hb dL_returns_15 (by decide) ?_
    cases hf
    exact g_iret S M hr hlk (by decide) (by decide) dL_returns_16 rfl
  · refine g_runX (cells' := 1) (slots' := 6) M (g_invV (index := 74) S M C0 hl (c_X12_returns l hfl G H.size lo dd σ a1 h) k_X12_returns tw_4_212 tw_4_213 tw_4_211 (by decide) (ge_0 rfl) rfl rfl rfl rfl rfl rfl dL_returns_4) rfl rfl (fun ce q H locs M hq hv hcl => ?_)
    by_cases hc : n = 0
    · have hf := it_p hc hf
      subst hc
      refine vx_catch (E := "java/lang/IndexOutOfBoundsException") (name := "java/lang/IndexOutOfBoundsException") S.2.2.2.1 [] ⟨0, 9, 12, 13⟩ [] htab gp_n rfl (by decide) (S.2.2.2.2 _ tw_3_7) (va_any rfl (C0.2.1 _ (by decide +kernel))) hq hv hcl ?_
      refine lv_astore_n (lv' := [(3, .ref q), (0, .ref (G.1 0)), (1, .int a1), (2, .ref (G.1 228))]) hx hb dL_returns_12 rfl hl (by decide) rfl (fun ls hl => ?_)
      refine lv_iconst (v := 1) hx hb dL_returns_13 (by decide) ?_
      cases hf
      exact g_iret S M hr hlk (by decide) (by decide) dL_returns_14 rfl
    · have hf := it_n hc hf
      cases hf
set_option maxHeartbeats 400000 in
set_option maxRecDepth 100000 in
theorem c_L_grade (l : Launch) (hfl : l.stackTraces = false) (G : gT) (sz : Nat) (lo : Int64) (dd : UInt64) (σ : gM) (a1 : Int32) {r2 : Int32} {o : gM} {lo2 : Int64} {dd2 : UInt64} (hf : f_L_grade σ lo dd a1 = some (r2, o, lo2, dd2)) : gCW l yL_grade cL_grade 4 (some .int) [(0, 9, 12, 13)] { frames := 9, cells := 1, slots := 6, locals := 145 } 1 6 G sz [.ref (G.1 0), .int a1, .ref (G.1 228)] lo dd σ (.inl (mkI r2, o, lo2, dd2)) := by
  refine gCW_of (by decide) tw_4_221 (Nat.le_of_ble_eq_true rfl) (fun p e s m args below meth c ls S hr hlk htab hsz C0 hl H locs M => ?_)
  subst hsz
  have hx := S.1
  have hb := S.2.1
  unfold f_L_grade at hf
  refine lv_aload_n hx hb dL_grade_0 rfl (lv_at hl 2 rfl) ?_
  refine lv_iconst (v := 0) hx hb dL_grade_1 (by decide) ?_
  refine lv_aload_n hx hb dL_grade_2 rfl (lv_at hl 0 rfl) ?_
  refine lv_iload_n hx hb dL_grade_3 rfl (lv_at hl 1 rfl) ?_
  rcases bt_x hf with ⟨r, h, hf⟩ | ⟨n, h, hf⟩
  · refine g_callR (st1 := [.int r, .int 0, .ref (G.1 228)]) (cells' := 1) (slots' := 6) M (g_invV (index := 77) S M C0 hl (c_X12_grade l hfl G H.size lo dd σ a1 h) k_X12_grade tw_4_223 tw_4_224 tw_4_222 (by decide) (ge_0 rfl) rfl rfl rfl rfl rfl rfl dL_grade_4) rfl rfl rfl (fun H locs M => ?_)
    refine lv_i2l hx hb dL_grade_7 rfl ?_
    refine g_last S M dL_grade_8 (fun H locs M => ?_)
    refine lv_goto (tgt := 15) hx hb dL_grade_9 (by decide) ?_
    refine lv_iconst (v := 0) hx hb dL_grade_15 (by decide) ?_
    cases hf
    exact g_iret S M hr hlk (by decide) (by decide) dL_grade_16 rfl
  · refine g_runX (cells' := 1) (slots' := 6) M (g_invV (index := 77) S M C0 hl (c_X12_grade l hfl G H.size lo dd σ a1 h) k_X12_grade tw_4_223 tw_4_224 tw_4_222 (by decide) (ge_0 rfl) rfl rfl rfl rfl rfl rfl dL_grade_4) rfl rfl (fun ce q H locs M hq hv hcl => ?_)
    by_cases hc : n = 0
    · have hf := it_p hc hf
      subst hc
      refine vx_catch (E := "java/lang/IndexOutOfBoundsException") (name := "java/lang/IndexOutOfBoundsException") S.2.2.2.1 [] ⟨0, 9, 12, 13⟩ [] htab gp_n rfl (by decide) (S.2.2.2.2 _ tw_3_7) (va_any rfl (C0.2.1 _ (by decide +kernel))) hq hv hcl ?_
      refine lv_astore_n (lv' := [(3, .ref q), (0, .ref (G.1 0)), (1, .int a1), (2, .ref (G.1 228))]) hx hb dL_grade_12 rfl hl (by decide) rfl (fun ls hl => ?_)
      refine lv_iconst (v := 1) hx hb dL_grade_13 (by decide) ?_
      cases hf
      exact g_iret S M hr hlk (by decide) (by decide) dL_grade_14 rfl
    · have hf := it_n hc hf
      cases hf
set_option maxHeartbeats 400000 in
set_option maxRecDepth 100000 in
theorem c_L_usesLeft (l : Launch) (hfl : l.stackTraces = false) (G : gT) (sz : Nat) (lo : Int64) (dd : UInt64) (σ : gM) (a1 : Int32) {r2 : Int32} {o : gM} {lo2 : Int64} {dd2 : UInt64} (hf : f_L_usesLeft σ lo dd a1 = some (r2, o, lo2, dd2)) : gCW l yL_usesLeft cL_usesLeft 4 (some .int) [(0, 9, 12, 13)] { frames := 9, cells := 1, slots := 6, locals := 145 } 1 6 G sz [.ref (G.1 0), .int a1, .ref (G.1 228)] lo dd σ (.inl (mkI r2, o, lo2, dd2)) := by
  refine gCW_of (by decide) tw_4_232 (Nat.le_of_ble_eq_true rfl) (fun p e s m args below meth c ls S hr hlk htab hsz C0 hl H locs M => ?_)
  subst hsz
  have hx := S.1
  have hb := S.2.1
  unfold f_L_usesLeft at hf
  refine lv_aload_n hx hb dL_usesLeft_0 rfl (lv_at hl 2 rfl) ?_
  refine lv_iconst (v := 0) hx hb dL_usesLeft_1 (by decide) ?_
  refine lv_aload_n hx hb dL_usesLeft_2 rfl (lv_at hl 0 rfl) ?_
  refine lv_iload_n hx hb dL_usesLeft_3 rfl (lv_at hl 1 rfl) ?_
  rcases bt_x hf with ⟨r, h, hf⟩ | ⟨n, h, hf⟩
  · refine g_callR (st1 := [.int r, .int 0, .ref (G.1 228)]) (cells' := 1) (slots' := 6) M (g_invV (index := 80) S M C0 hl (c_X12_usesLeft l hfl G H.size lo dd σ a1 h) k_X12_usesLeft tw_4_234 tw_4_235 tw_4_233 (by decide) (ge_0 rfl) rfl rfl rfl rfl rfl rfl dL_usesLeft_4) rfl rfl rfl (fun H locs M => ?_)
    refine lv_i2l hx hb dL_usesLeft_7 rfl ?_
    refine g_last S M dL_usesLeft_8 (fun H locs M => ?_)
    refine lv_goto (tgt := 15) hx hb dL_usesLeft_9 (by decide) ?_
    refine lv_iconst (v := 0) hx hb dL_usesLeft_15 (by decide) ?_
    cases hf
    exact g_iret S M hr hlk (by decide) (by decide) dL_usesLeft_16 rfl
  · refine g_runX (cells' := 1) (slots' := 6) M (g_invV (index := 80) S M C0 hl (c_X12_usesLeft l hfl G H.size lo dd σ a1 h) k_X12_usesLeft tw_4_234 tw_4_235 tw_4_233 (by decide) (ge_0 rfl) rfl rfl rfl rfl rfl rfl dL_usesLeft_4) rfl rfl (fun ce q H locs M hq hv hcl => ?_)
    by_cases hc : n = 0
    · have hf := it_p hc hf
      subst hc
      refine vx_catch (E := "java/lang/IndexOutOfBoundsException") (name := "java/lang/IndexOutOfBoundsException") S.2.2.2.1 [] ⟨0, 9, 12, 13⟩ [] htab gp_n rfl (by decide) (S.2.2.2.2 _ tw_3_7) (va_any rfl (C0.2.1 _ (by decide +kernel))) hq hv hcl ?_
      refine lv_astore_n (lv' := [(3, .ref q), (0, .ref (G.1 0)), (1, .int a1), (2, .ref (G.1 228))]) hx hb dL_usesLeft_12 rfl hl (by decide) rfl (fun ls hl => ?_)
      refine lv_iconst (v := 1) hx hb dL_usesLeft_13 (by decide) ?_
      cases hf
      exact g_iret S M hr hlk (by decide) (by decide) dL_usesLeft_14 rfl
    · have hf := it_n hc hf
      cases hf
set_option maxHeartbeats 400000 in
set_option maxRecDepth 100000 in
theorem c_L_gloveFor (l : Launch) (hfl : l.stackTraces = false) (G : gT) (sz : Nat) (lo : Int64) (dd : UInt64) (σ : gM) (a1 : Int32) {r2 : Int32} {o : gM} {lo2 : Int64} {dd2 : UInt64} (hf : f_L_gloveFor σ lo dd a1 = some (r2, o, lo2, dd2)) : gCW l yL_gloveFor cL_gloveFor 4 (some .int) [(0, 9, 12, 13), (0, 9, 15, 33), (0, 9, 18, 35)] { frames := 10, cells := 2, slots := 12, locals := 167 } 2 12 G sz [.ref (G.1 0), .int a1, .ref (G.1 228)] lo dd σ (.inl (mkI r2, o, lo2, dd2)) := by
  refine gCW_of (by decide) tw_5_3 (Nat.le_of_ble_eq_true rfl) (fun p e s m args below meth c ls S hr hlk htab hsz C0 hl H locs M => ?_)
  subst hsz
  have hx := S.1
  have hb := S.2.1
  unfold f_L_gloveFor at hf
  refine lv_aload_n hx hb dL_gloveFor_0 rfl (lv_at hl 2 rfl) ?_
  refine lv_iconst (v := 0) hx hb dL_gloveFor_1 (by decide) ?_
  refine lv_aload_n hx hb dL_gloveFor_2 rfl (lv_at hl 0 rfl) ?_
  refine lv_iload_n hx hb dL_gloveFor_3 rfl (lv_at hl 1 rfl) ?_
  rcases bt_x hf with ⟨r, h, hf⟩ | ⟨n, h, hf⟩
  · refine g_callR (st1 := [.int r, .int 0, .ref (G.1 228)]) (cells' := 2) (slots' := 12) M (g_invV (index := 83) S M C0 hl (c_X12_gloveFor l hfl G H.size lo dd σ a1 h) k_X12_gloveFor tw_5_5 tw_5_6 tw_5_4 (by decide) (ge_0 rfl) rfl rfl rfl rfl rfl rfl dL_gloveFor_4) rfl rfl rfl (fun H locs M => ?_)
    refine lv_i2l hx hb dL_gloveFor_7 rfl ?_
    refine g_last S M dL_gloveFor_8 (fun H locs M => ?_)
    refine lv_goto (tgt := 21) hx hb dL_gloveFor_9 (by decide) ?_
    refine lv_iconst (v := 0) hx hb dL_gloveFor_21 (by decide) ?_
    cases hf
    exact g_iret S M hr hlk (by decide) (by decide) dL_gloveFor_22 rfl
  · refine g_runX (cells' := 2) (slots' := 12) M (g_invV (index := 83) S M C0 hl (c_X12_gloveFor l hfl G H.size lo dd σ a1 h) k_X12_gloveFor tw_5_5 tw_5_6 tw_5_4 (by decide) (ge_0 rfl) rfl rfl rfl rfl rfl rfl dL_gloveFor_4) rfl rfl (fun ce q H locs M hq hv hcl => ?_)
    by_cases hc : n = 0
    · have hf := it_p hc hf
      subst hc
      refine vx_catch (E := "java/lang/IndexOutOfBoundsException") (name := "java/lang/IndexOutOfBoundsException") S.2.2.2.1 [] ⟨0, 9, 12, 13⟩ [⟨0, 9, 15, 33⟩, ⟨0, 9, 18, 35⟩] htab gp_n rfl (by decide) (S.2.2.2.2 _ tw_3_7) (va_any rfl (C0.2.1 _ (by decide +kernel))) hq hv hcl ?_
      refine lv_astore_n (lv' := [(3, .ref q), (0, .ref (G.1 0)), (1, .int a1), (2, .ref (G.1 228))]) hx hb dL_gloveFor_12 rfl hl (by decide) rfl (fun ls hl => ?_)
      refine lv_iconst (v := 1) hx hb dL_gloveFor_13 (by decide) ?_
      cases hf
      exact g_iret S M hr hlk (by decide) (by decide) dL_gloveFor_14 rfl
    · have hf := it_n hc hf
      by_cases hc : n = 3
      · have hf := it_p hc hf
        subst hc
        refine vx_catch (E := "java/lang/UnsupportedOperationException") (name := "java/lang/UnsupportedOperationException") S.2.2.2.1 [⟨0, 9, 12, 13⟩] ⟨0, 9, 15, 33⟩ [⟨0, 9, 18, 35⟩] htab (gp_c (Or.inr ⟨by decide, "java/lang/IndexOutOfBoundsException", S.2.2.2.2 _ tw_3_7, C0.2.2.2.1 ("java/lang/UnsupportedOperationException", "java/lang/IndexOutOfBoundsException") (by decide +kernel)⟩) gp_n) rfl (by decide) (S.2.2.2.2 _ tw_4_16) (va_any rfl (C0.2.1 _ (by decide +kernel))) hq hv hcl ?_
        refine lv_astore_n (lv' := [(3, .ref q), (0, .ref (G.1 0)), (1, .int a1), (2, .ref (G.1 228))]) hx hb dL_gloveFor_15 rfl hl (by decide) rfl (fun ls hl => ?_)
        refine lv_iconst (v := 2) hx hb dL_gloveFor_16 (by decide) ?_
        cases hf
        exact g_iret S M hr hlk (by decide) (by decide) dL_gloveFor_17 rfl
      · have hf := it_n hc hf
        by_cases hc : n = 4
        · have hf := it_p hc hf
          subst hc
          refine vx_catch (E := "java/util/NoSuchElementException") (name := "java/util/NoSuchElementException") S.2.2.2.1 [⟨0, 9, 12, 13⟩, ⟨0, 9, 15, 33⟩] ⟨0, 9, 18, 35⟩ [] htab (gp_c (Or.inr ⟨by decide, "java/lang/IndexOutOfBoundsException", S.2.2.2.2 _ tw_3_7, C0.2.2.2.1 ("java/util/NoSuchElementException", "java/lang/IndexOutOfBoundsException") (by decide +kernel)⟩) (gp_c (Or.inr ⟨by decide, "java/lang/UnsupportedOperationException", S.2.2.2.2 _ tw_4_16, C0.2.2.2.1 ("java/util/NoSuchElementException", "java/lang/UnsupportedOperationException") (by decide +kernel)⟩) gp_n)) rfl (by decide) (S.2.2.2.2 _ tw_4_17) (va_any rfl (C0.2.1 _ (by decide +kernel))) hq hv hcl ?_
          refine lv_astore_n (lv' := [(3, .ref q), (0, .ref (G.1 0)), (1, .int a1), (2, .ref (G.1 228))]) hx hb dL_gloveFor_18 rfl hl (by decide) rfl (fun ls hl => ?_)
          refine lv_iconst (v := 3) hx hb dL_gloveFor_19 (by decide) ?_
          cases hf
          exact g_iret S M hr hlk (by decide) (by decide) dL_gloveFor_20 rfl
        · have hf := it_n hc hf
          cases hf
set_option maxHeartbeats 400000 in
set_option maxRecDepth 100000 in
theorem c_L_canHandle (l : Launch) (hfl : l.stackTraces = false) (G : gT) (sz : Nat) (lo : Int64) (dd : UInt64) (σ : gM) (a1 : Int32) {r2 : Int32} {o : gM} {lo2 : Int64} {dd2 : UInt64} (hf : f_L_canHandle σ lo dd a1 = some (r2, o, lo2, dd2)) : gCW l yL_canHandle cL_canHandle 4 (some .int) [(0, 16, 19, 13)] { frames := 10, cells := 1, slots := 6, locals := 166 } 1 6 G sz [.ref (G.1 0), .int a1, .ref (G.1 228)] lo dd σ (.inl (mkI r2, o, lo2, dd2)) := by
  refine gCW_of (by decide) tw_5_11 (Nat.le_of_ble_eq_true rfl) (fun p e s m args below meth c ls S hr hlk htab hsz C0 hl H locs M => ?_)
  subst hsz
  have hx := S.1
  have hb := S.2.1
  unfold f_L_canHandle at hf
  refine lv_aload_n hx hb dL_canHandle_0 rfl (lv_at hl 2 rfl) ?_
  refine lv_iconst (v := 0) hx hb dL_canHandle_1 (by decide) ?_
  refine lv_aload_n hx hb dL_canHandle_2 rfl (lv_at hl 0 rfl) ?_
  refine lv_iload_n hx hb dL_canHandle_3 rfl (lv_at hl 1 rfl) ?_
  rcases bt_x hf with ⟨r, h, hf⟩ | ⟨n, h, hf⟩
  · refine g_callR (st1 := [.int r, .int 0, .ref (G.1 228)]) (cells' := 1) (slots' := 6) M (g_invV (index := 86) S M C0 hl (c_X12_canHandle l hfl G H.size lo dd σ a1 h) k_X12_canHandle tw_5_13 tw_5_14 tw_5_12 (by decide) (ge_0 rfl) rfl rfl rfl rfl rfl rfl dL_canHandle_4) rfl rfl rfl (fun H locs M => ?_)
    refine lv_if_eq (tgt := 14) hx hb dL_canHandle_7 (by decide) (fun cc1 => ?_) (fun cc1 => ?_)
    · have hf := it_p cc1 hf
      refine lv_lconst (v := 0) hx hb dL_canHandle_14 (by decide) ?_
      refine g_last S M dL_canHandle_15 (fun H locs M => ?_)
      refine lv_goto (tgt := 22) hx hb dL_canHandle_16 (by decide) ?_
      refine lv_iconst (v := 0) hx hb dL_canHandle_22 (by decide) ?_
      cases hf
      exact g_iret S M hr hlk (by decide) (by decide) dL_canHandle_23 rfl
    · have hf := it_n cc1 hf
      refine lv_lconst (v := 1) hx hb dL_canHandle_10 (by decide) ?_
      refine lv_goto (tgt := 15) hx hb dL_canHandle_11 (by decide) ?_
      refine g_last S M dL_canHandle_15 (fun H locs M => ?_)
      refine lv_goto (tgt := 22) hx hb dL_canHandle_16 (by decide) ?_
      refine lv_iconst (v := 0) hx hb dL_canHandle_22 (by decide) ?_
      cases hf
      exact g_iret S M hr hlk (by decide) (by decide) dL_canHandle_23 rfl
  · refine g_runX (cells' := 1) (slots' := 6) M (g_invV (index := 86) S M C0 hl (c_X12_canHandle l hfl G H.size lo dd σ a1 h) k_X12_canHandle tw_5_13 tw_5_14 tw_5_12 (by decide) (ge_0 rfl) rfl rfl rfl rfl rfl rfl dL_canHandle_4) rfl rfl (fun ce q H locs M hq hv hcl => ?_)
    by_cases hc : n = 0
    · have hf := it_p hc hf
      subst hc
      refine vx_catch (E := "java/lang/IndexOutOfBoundsException") (name := "java/lang/IndexOutOfBoundsException") S.2.2.2.1 [] ⟨0, 16, 19, 13⟩ [] htab gp_n rfl (by decide) (S.2.2.2.2 _ tw_3_7) (va_any rfl (C0.2.1 _ (by decide +kernel))) hq hv hcl ?_
      refine lv_astore_n (lv' := [(3, .ref q), (0, .ref (G.1 0)), (1, .int a1), (2, .ref (G.1 228))]) hx hb dL_canHandle_19 rfl hl (by decide) rfl (fun ls hl => ?_)
      refine lv_iconst (v := 1) hx hb dL_canHandle_20 (by decide) ?_
      cases hf
      exact g_iret S M hr hlk (by decide) (by decide) dL_canHandle_21 rfl
    · have hf := it_n hc hf
      cases hf
set_option maxHeartbeats 400000 in
set_option maxRecDepth 100000 in
theorem c_L_place (l : Launch) (hfl : l.stackTraces = false) (G : gT) (sz : Nat) (lo : Int64) (dd : UInt64) (σ : gM) (a1 : Int32) {r2 : Int32} {o : gM} {lo2 : Int64} {dd2 : UInt64} (hf : f_L_place σ lo dd a1 = some (r2, o, lo2, dd2)) : gCW l yL_place cL_place 4 (some .int) [(0, 9, 12, 13)] { frames := 9, cells := 1, slots := 6, locals := 145 } 1 6 G sz [.ref (G.1 0), .int a1, .ref (G.1 228)] lo dd σ (.inl (mkI r2, o, lo2, dd2)) := by
  refine gCW_of (by decide) tw_5_19 (Nat.le_of_ble_eq_true rfl) (fun p e s m args below meth c ls S hr hlk htab hsz C0 hl H locs M => ?_)
  subst hsz
  have hx := S.1
  have hb := S.2.1
  unfold f_L_place at hf
  refine lv_aload_n hx hb dL_place_0 rfl (lv_at hl 2 rfl) ?_
  refine lv_iconst (v := 0) hx hb dL_place_1 (by decide) ?_
  refine lv_aload_n hx hb dL_place_2 rfl (lv_at hl 0 rfl) ?_
  refine lv_iload_n hx hb dL_place_3 rfl (lv_at hl 1 rfl) ?_
  rcases bt_x hf with ⟨r, h, hf⟩ | ⟨n, h, hf⟩
  · refine g_callR (st1 := [.int r, .int 0, .ref (G.1 228)]) (cells' := 1) (slots' := 6) M (g_invV (index := 90) S M C0 hl (c_X12_place l hfl G H.size lo dd σ a1 h) k_X12_place tw_5_21 tw_5_22 tw_5_20 (by decide) (ge_0 rfl) rfl rfl rfl rfl rfl rfl dL_place_4) rfl rfl rfl (fun H locs M => ?_)
    refine lv_i2l hx hb dL_place_7 rfl ?_
    refine g_last S M dL_place_8 (fun H locs M => ?_)
    refine lv_goto (tgt := 15) hx hb dL_place_9 (by decide) ?_
    refine lv_iconst (v := 0) hx hb dL_place_15 (by decide) ?_
    cases hf
    exact g_iret S M hr hlk (by decide) (by decide) dL_place_16 rfl
  · refine g_runX (cells' := 1) (slots' := 6) M (g_invV (index := 90) S M C0 hl (c_X12_place l hfl G H.size lo dd σ a1 h) k_X12_place tw_5_21 tw_5_22 tw_5_20 (by decide) (ge_0 rfl) rfl rfl rfl rfl rfl rfl dL_place_4) rfl rfl (fun ce q H locs M hq hv hcl => ?_)
    by_cases hc : n = 0
    · have hf := it_p hc hf
      subst hc
      refine vx_catch (E := "java/lang/IndexOutOfBoundsException") (name := "java/lang/IndexOutOfBoundsException") S.2.2.2.1 [] ⟨0, 9, 12, 13⟩ [] htab gp_n rfl (by decide) (S.2.2.2.2 _ tw_3_7) (va_any rfl (C0.2.1 _ (by decide +kernel))) hq hv hcl ?_
      refine lv_astore_n (lv' := [(3, .ref q), (0, .ref (G.1 0)), (1, .int a1), (2, .ref (G.1 228))]) hx hb dL_place_12 rfl hl (by decide) rfl (fun ls hl => ?_)
      refine lv_iconst (v := 1) hx hb dL_place_13 (by decide) ?_
      cases hf
      exact g_iret S M hr hlk (by decide) (by decide) dL_place_14 rfl
    · have hf := it_n hc hf
      cases hf
set_option maxHeartbeats 400000 in
set_option maxRecDepth 100000 in
theorem c_L_capacity (l : Launch) (hfl : l.stackTraces = false) (G : gT) (sz : Nat) (lo : Int64) (dd : UInt64) (σ : gM) (a1 : Int32) {r2 : Int32} {o : gM} {lo2 : Int64} {dd2 : UInt64} (hf : f_L_capacity σ lo dd a1 = some (r2, o, lo2, dd2)) : gCW l yL_capacity cL_capacity 4 (some .int) [(0, 9, 12, 13)] { frames := 9, cells := 1, slots := 6, locals := 145 } 1 6 G sz [.ref (G.1 0), .int a1, .ref (G.1 228)] lo dd σ (.inl (mkI r2, o, lo2, dd2)) := by
  refine gCW_of (by decide) tw_5_27 (Nat.le_of_ble_eq_true rfl) (fun p e s m args below meth c ls S hr hlk htab hsz C0 hl H locs M => ?_)
  subst hsz
  have hx := S.1
  have hb := S.2.1
  unfold f_L_capacity at hf
  refine lv_aload_n hx hb dL_capacity_0 rfl (lv_at hl 2 rfl) ?_
  refine lv_iconst (v := 0) hx hb dL_capacity_1 (by decide) ?_
  refine lv_aload_n hx hb dL_capacity_2 rfl (lv_at hl 0 rfl) ?_
  refine lv_iload_n hx hb dL_capacity_3 rfl (lv_at hl 1 rfl) ?_
  rcases bt_x hf with ⟨r, h, hf⟩ | ⟨n, h, hf⟩
  · refine g_callR (st1 := [.int r, .int 0, .ref (G.1 228)]) (cells' := 1) (slots' := 6) M (g_invV (index := 93) S M C0 hl (c_X12_capacity l hfl G H.size lo dd σ a1 h) k_X12_capacity tw_5_29 tw_5_30 tw_5_28 (by decide) (ge_0 rfl) rfl rfl rfl rfl rfl rfl dL_capacity_4) rfl rfl rfl (fun H locs M => ?_)
    refine lv_i2l hx hb dL_capacity_7 rfl ?_
    refine g_last S M dL_capacity_8 (fun H locs M => ?_)
    refine lv_goto (tgt := 15) hx hb dL_capacity_9 (by decide) ?_
    refine lv_iconst (v := 0) hx hb dL_capacity_15 (by decide) ?_
    cases hf
    exact g_iret S M hr hlk (by decide) (by decide) dL_capacity_16 rfl
  · refine g_runX (cells' := 1) (slots' := 6) M (g_invV (index := 93) S M C0 hl (c_X12_capacity l hfl G H.size lo dd σ a1 h) k_X12_capacity tw_5_29 tw_5_30 tw_5_28 (by decide) (ge_0 rfl) rfl rfl rfl rfl rfl rfl dL_capacity_4) rfl rfl (fun ce q H locs M hq hv hcl => ?_)
    by_cases hc : n = 0
    · have hf := it_p hc hf
      subst hc
      refine vx_catch (E := "java/lang/IndexOutOfBoundsException") (name := "java/lang/IndexOutOfBoundsException") S.2.2.2.1 [] ⟨0, 9, 12, 13⟩ [] htab gp_n rfl (by decide) (S.2.2.2.2 _ tw_3_7) (va_any rfl (C0.2.1 _ (by decide +kernel))) hq hv hcl ?_
      refine lv_astore_n (lv' := [(3, .ref q), (0, .ref (G.1 0)), (1, .int a1), (2, .ref (G.1 228))]) hx hb dL_capacity_12 rfl hl (by decide) rfl (fun ls hl => ?_)
      refine lv_iconst (v := 1) hx hb dL_capacity_13 (by decide) ?_
      cases hf
      exact g_iret S M hr hlk (by decide) (by decide) dL_capacity_14 rfl
    · have hf := it_n hc hf
      cases hf
set_option maxHeartbeats 400000 in
set_option maxRecDepth 100000 in
theorem c_L_load (l : Launch) (hfl : l.stackTraces = false) (G : gT) (sz : Nat) (lo : Int64) (dd : UInt64) (σ : gM) (a1 : Int32) {r2 : Int32} {o : gM} {lo2 : Int64} {dd2 : UInt64} (hf : f_L_load σ lo dd a1 = some (r2, o, lo2, dd2)) : gCW l yL_load cL_load 4 (some .int) [(0, 9, 12, 13)] { frames := 9, cells := 1, slots := 6, locals := 145 } 1 6 G sz [.ref (G.1 0), .int a1, .ref (G.1 228)] lo dd σ (.inl (mkI r2, o, lo2, dd2)) := by
  refine gCW_of (by decide) tw_5_35 (Nat.le_of_ble_eq_true rfl) (fun p e s m args below meth c ls S hr hlk htab hsz C0 hl H locs M => ?_)
  subst hsz
  have hx := S.1
  have hb := S.2.1
  unfold f_L_load at hf
  refine lv_aload_n hx hb dL_load_0 rfl (lv_at hl 2 rfl) ?_
  refine lv_iconst (v := 0) hx hb dL_load_1 (by decide) ?_
  refine lv_aload_n hx hb dL_load_2 rfl (lv_at hl 0 rfl) ?_
  refine lv_iload_n hx hb dL_load_3 rfl (lv_at hl 1 rfl) ?_
  rcases bt_x hf with ⟨r, h, hf⟩ | ⟨n, h, hf⟩
  · refine g_callR (st1 := [.int r, .int 0, .ref (G.1 228)]) (cells' := 1) (slots' := 6) M (g_invV (index := 96) S M C0 hl (c_X12_load l hfl G H.size lo dd σ a1 h) k_X12_load tw_5_37 tw_5_38 tw_5_36 (by decide) (ge_0 rfl) rfl rfl rfl rfl rfl rfl dL_load_4) rfl rfl rfl (fun H locs M => ?_)
    refine lv_i2l hx hb dL_load_7 rfl ?_
    refine g_last S M dL_load_8 (fun H locs M => ?_)
    refine lv_goto (tgt := 15) hx hb dL_load_9 (by decide) ?_
    refine lv_iconst (v := 0) hx hb dL_load_15 (by decide) ?_
    cases hf
    exact g_iret S M hr hlk (by decide) (by decide) dL_load_16 rfl
  · refine g_runX (cells' := 1) (slots' := 6) M (g_invV (index := 96) S M C0 hl (c_X12_load l hfl G H.size lo dd σ a1 h) k_X12_load tw_5_37 tw_5_38 tw_5_36 (by decide) (ge_0 rfl) rfl rfl rfl rfl rfl rfl dL_load_4) rfl rfl (fun ce q H locs M hq hv hcl => ?_)
    by_cases hc : n = 0
    · have hf := it_p hc hf
      subst hc
      refine vx_catch (E := "java/lang/IndexOutOfBoundsException") (name := "java/lang/IndexOutOfBoundsException") S.2.2.2.1 [] ⟨0, 9, 12, 13⟩ [] htab gp_n rfl (by decide) (S.2.2.2.2 _ tw_3_7) (va_any rfl (C0.2.1 _ (by decide +kernel))) hq hv hcl ?_
      refine lv_astore_n (lv' := [(3, .ref q), (0, .ref (G.1 0)), (1, .int a1), (2, .ref (G.1 228))]) hx hb dL_load_12 rfl hl (by decide) rfl (fun ls hl => ?_)
      refine lv_iconst (v := 1) hx hb dL_load_13 (by decide) ?_
      cases hf
      exact g_iret S M hr hlk (by decide) (by decide) dL_load_14 rfl
    · have hf := it_n hc hf
      cases hf
set_option maxHeartbeats 400000 in
set_option maxRecDepth 100000 in
theorem c_L_parcelsIn (l : Launch) (hfl : l.stackTraces = false) (G : gT) (sz : Nat) (lo : Int64) (dd : UInt64) (σ : gM) (a1 : Int32) {r2 : Int32} {o : gM} {lo2 : Int64} {dd2 : UInt64} (hf : f_L_parcelsIn σ lo dd a1 = some (r2, o, lo2, dd2)) : gCW l yL_parcelsIn cL_parcelsIn 4 (some .int) [(0, 9, 12, 13)] { frames := 9, cells := 1, slots := 6, locals := 145 } 1 6 G sz [.ref (G.1 0), .int a1, .ref (G.1 228)] lo dd σ (.inl (mkI r2, o, lo2, dd2)) := by
  refine gCW_of (by decide) tw_5_43 (Nat.le_of_ble_eq_true rfl) (fun p e s m args below meth c ls S hr hlk htab hsz C0 hl H locs M => ?_)
  subst hsz
  have hx := S.1
  have hb := S.2.1
  unfold f_L_parcelsIn at hf
  refine lv_aload_n hx hb dL_parcelsIn_0 rfl (lv_at hl 2 rfl) ?_
  refine lv_iconst (v := 0) hx hb dL_parcelsIn_1 (by decide) ?_
  refine lv_aload_n hx hb dL_parcelsIn_2 rfl (lv_at hl 0 rfl) ?_
  refine lv_iload_n hx hb dL_parcelsIn_3 rfl (lv_at hl 1 rfl) ?_
  rcases bt_x hf with ⟨r, h, hf⟩ | ⟨n, h, hf⟩
  · refine g_callR (st1 := [.int r, .int 0, .ref (G.1 228)]) (cells' := 1) (slots' := 6) M (g_invV (index := 99) S M C0 hl (c_X12_parcelsIn l hfl G H.size lo dd σ a1 h) k_X12_parcelsIn tw_5_45 tw_5_46 tw_5_44 (by decide) (ge_0 rfl) rfl rfl rfl rfl rfl rfl dL_parcelsIn_4) rfl rfl rfl (fun H locs M => ?_)
    refine lv_i2l hx hb dL_parcelsIn_7 rfl ?_
    refine g_last S M dL_parcelsIn_8 (fun H locs M => ?_)
    refine lv_goto (tgt := 15) hx hb dL_parcelsIn_9 (by decide) ?_
    refine lv_iconst (v := 0) hx hb dL_parcelsIn_15 (by decide) ?_
    cases hf
    exact g_iret S M hr hlk (by decide) (by decide) dL_parcelsIn_16 rfl
  · refine g_runX (cells' := 1) (slots' := 6) M (g_invV (index := 99) S M C0 hl (c_X12_parcelsIn l hfl G H.size lo dd σ a1 h) k_X12_parcelsIn tw_5_45 tw_5_46 tw_5_44 (by decide) (ge_0 rfl) rfl rfl rfl rfl rfl rfl dL_parcelsIn_4) rfl rfl (fun ce q H locs M hq hv hcl => ?_)
    by_cases hc : n = 0
    · have hf := it_p hc hf
      subst hc
      refine vx_catch (E := "java/lang/IndexOutOfBoundsException") (name := "java/lang/IndexOutOfBoundsException") S.2.2.2.1 [] ⟨0, 9, 12, 13⟩ [] htab gp_n rfl (by decide) (S.2.2.2.2 _ tw_3_7) (va_any rfl (C0.2.1 _ (by decide +kernel))) hq hv hcl ?_
      refine lv_astore_n (lv' := [(3, .ref q), (0, .ref (G.1 0)), (1, .int a1), (2, .ref (G.1 228))]) hx hb dL_parcelsIn_12 rfl hl (by decide) rfl (fun ls hl => ?_)
      refine lv_iconst (v := 1) hx hb dL_parcelsIn_13 (by decide) ?_
      cases hf
      exact g_iret S M hr hlk (by decide) (by decide) dL_parcelsIn_14 rfl
    · have hf := it_n hc hf
      cases hf
set_option maxHeartbeats 400000 in
set_option maxRecDepth 100000 in
theorem c_L_mostFitting (l : Launch) (hfl : l.stackTraces = false) (G : gT) (sz : Nat) (lo : Int64) (dd : UInt64) (σ : gM) (a1 : Int32) {r2 : Int32} {o : gM} {lo2 : Int64} {dd2 : UInt64} (hf : f_L_mostFitting σ lo dd a1 = some (r2, o, lo2, dd2)) : gCW l yL_mostFitting cL_mostFitting 4 (some .int) [(0, 9, 12, 13)] { frames := 9, cells := 1, slots := 6, locals := 145 } 1 6 G sz [.ref (G.1 0), .int a1, .ref (G.1 228)] lo dd σ (.inl (mkI r2, o, lo2, dd2)) := by
  refine gCW_of (by decide) tw_5_50 (Nat.le_of_ble_eq_true rfl) (fun p e s m args below meth c ls S hr hlk htab hsz C0 hl H locs M => ?_)
  subst hsz
  have hx := S.1
  have hb := S.2.1
  unfold f_L_mostFitting at hf
  refine lv_aload_n hx hb dL_mostFitting_0 rfl (lv_at hl 2 rfl) ?_
  refine lv_iconst (v := 0) hx hb dL_mostFitting_1 (by decide) ?_
  refine lv_aload_n hx hb dL_mostFitting_2 rfl (lv_at hl 0 rfl) ?_
  refine lv_iload_n hx hb dL_mostFitting_3 rfl (lv_at hl 1 rfl) ?_
  rcases bt_x hf with ⟨r, h, hf⟩ | ⟨n, h, hf⟩
  · refine g_callR (st1 := [.int r, .int 0, .ref (G.1 228)]) (cells' := 1) (slots' := 6) M (g_invV (index := 102) S M C0 hl (c_X12_mostFitting l hfl G H.size lo dd σ a1 h) k_X12_mostFitting tw_5_52 tw_5_53 tw_5_51 (by decide) (ge_0 rfl) rfl rfl rfl rfl rfl rfl dL_mostFitting_4) rfl rfl rfl (fun H locs M => ?_)
    refine lv_i2l hx hb dL_mostFitting_7 rfl ?_
    refine g_last S M dL_mostFitting_8 (fun H locs M => ?_)
    refine lv_goto (tgt := 15) hx hb dL_mostFitting_9 (by decide) ?_
    refine lv_iconst (v := 0) hx hb dL_mostFitting_15 (by decide) ?_
    cases hf
    exact g_iret S M hr hlk (by decide) (by decide) dL_mostFitting_16 rfl
  · refine g_runX (cells' := 1) (slots' := 6) M (g_invV (index := 102) S M C0 hl (c_X12_mostFitting l hfl G H.size lo dd σ a1 h) k_X12_mostFitting tw_5_52 tw_5_53 tw_5_51 (by decide) (ge_0 rfl) rfl rfl rfl rfl rfl rfl dL_mostFitting_4) rfl rfl (fun ce q H locs M hq hv hcl => ?_)
    by_cases hc : n = 0
    · have hf := it_p hc hf
      subst hc
      refine vx_catch (E := "java/lang/IndexOutOfBoundsException") (name := "java/lang/IndexOutOfBoundsException") S.2.2.2.1 [] ⟨0, 9, 12, 13⟩ [] htab gp_n rfl (by decide) (S.2.2.2.2 _ tw_3_7) (va_any rfl (C0.2.1 _ (by decide +kernel))) hq hv hcl ?_
      refine lv_astore_n (lv' := [(3, .ref q), (0, .ref (G.1 0)), (1, .int a1), (2, .ref (G.1 228))]) hx hb dL_mostFitting_12 rfl hl (by decide) rfl (fun ls hl => ?_)
      refine lv_iconst (v := 1) hx hb dL_mostFitting_13 (by decide) ?_
      cases hf
      exact g_iret S M hr hlk (by decide) (by decide) dL_mostFitting_14 rfl
    · have hf := it_n hc hf
      cases hf
set_option maxHeartbeats 400000 in
set_option maxRecDepth 100000 in
theorem c_L_mostFittingByTable (l : Launch) (hfl : l.stackTraces = false) (G : gT) (sz : Nat) (lo : Int64) (dd : UInt64) (σ : gM) (a1 : Int32) {r2 : Int32} {o : gM} {lo2 : Int64} {dd2 : UInt64} (hf : f_L_mostFittingByTable σ lo dd a1 = some (r2, o, lo2, dd2)) : gCW l yL_mostFittingByTable cL_mostFittingByTable 4 (some .int) [(0, 9, 12, 13)] { frames := 9, cells := 1, slots := 6, locals := 145 } 1 6 G sz [.ref (G.1 0), .int a1, .ref (G.1 228)] lo dd σ (.inl (mkI r2, o, lo2, dd2)) := by
  refine gCW_of (by decide) tw_5_57 (Nat.le_of_ble_eq_true rfl) (fun p e s m args below meth c ls S hr hlk htab hsz C0 hl H locs M => ?_)
  subst hsz
  have hx := S.1
  have hb := S.2.1
  unfold f_L_mostFittingByTable at hf
  refine lv_aload_n hx hb dL_mostFittingByTable_0 rfl (lv_at hl 2 rfl) ?_
  refine lv_iconst (v := 0) hx hb dL_mostFittingByTable_1 (by decide) ?_
  refine lv_aload_n hx hb dL_mostFittingByTable_2 rfl (lv_at hl 0 rfl) ?_
  refine lv_iload_n hx hb dL_mostFittingByTable_3 rfl (lv_at hl 1 rfl) ?_
  rcases bt2_x hf with ⟨r, σ1, h, hf⟩ | ⟨n, σ1, h, hf⟩
  · refine g_callR (st1 := [.int r, .int 0, .ref (G.1 228)]) (cells' := 1) (slots' := 6) M (g_invV (index := 105) S M C0 hl (c_X12_mostFittingByTable l hfl G H.size lo dd σ a1 h) k_X12_mostFittingByTable tw_5_59 tw_5_60 tw_5_58 (by decide) (ge_0 rfl) rfl rfl rfl rfl rfl rfl dL_mostFittingByTable_4) rfl rfl rfl (fun H locs M => ?_)
    refine lv_i2l hx hb dL_mostFittingByTable_7 rfl ?_
    refine g_last S M dL_mostFittingByTable_8 (fun H locs M => ?_)
    refine lv_goto (tgt := 15) hx hb dL_mostFittingByTable_9 (by decide) ?_
    refine lv_iconst (v := 0) hx hb dL_mostFittingByTable_15 (by decide) ?_
    cases hf
    exact g_iret S M hr hlk (by decide) (by decide) dL_mostFittingByTable_16 rfl
  · refine g_runX (cells' := 1) (slots' := 6) M (g_invV (index := 105) S M C0 hl (c_X12_mostFittingByTable l hfl G H.size lo dd σ a1 h) k_X12_mostFittingByTable tw_5_59 tw_5_60 tw_5_58 (by decide) (ge_0 rfl) rfl rfl rfl rfl rfl rfl dL_mostFittingByTable_4) rfl rfl (fun ce q H locs M hq hv hcl => ?_)
    by_cases hc : n = 0
    · have hf := it_p hc hf
      subst hc
      refine vx_catch (E := "java/lang/IndexOutOfBoundsException") (name := "java/lang/IndexOutOfBoundsException") S.2.2.2.1 [] ⟨0, 9, 12, 13⟩ [] htab gp_n rfl (by decide) (S.2.2.2.2 _ tw_3_7) (va_any rfl (C0.2.1 _ (by decide +kernel))) hq hv hcl ?_
      refine lv_astore_n (lv' := [(3, .ref q), (0, .ref (G.1 0)), (1, .int a1), (2, .ref (G.1 228))]) hx hb dL_mostFittingByTable_12 rfl hl (by decide) rfl (fun ls hl => ?_)
      refine lv_iconst (v := 1) hx hb dL_mostFittingByTable_13 (by decide) ?_
      cases hf
      exact g_iret S M hr hlk (by decide) (by decide) dL_mostFittingByTable_14 rfl
    · have hf := it_n hc hf
      cases hf
set_option maxHeartbeats 400000 in
set_option maxRecDepth 100000 in
theorem c_L_effortTo (l : Launch) (hfl : l.stackTraces = false) (G : gT) (sz : Nat) (lo : Int64) (dd : UInt64) (σ : gM) (a1 : Int32) (a2 : Int32) {r2 : Int32} {o : gM} {lo2 : Int64} {dd2 : UInt64} (hf : f_L_effortTo σ lo dd a1 a2 = some (r2, o, lo2, dd2)) : gCW l yL_effortTo cL_effortTo 5 (some .int) [(0, 10, 13, 13), (0, 10, 17, 35)] { frames := 10, cells := 3, slots := 18, locals := 165 } 3 18 G sz [.ref (G.1 0), .int a1, .int a2, .ref (G.1 228)] lo dd σ (.inl (mkI r2, o, lo2, dd2)) := by
  refine gCW_of (by decide) tw_5_64 (Nat.le_of_ble_eq_true rfl) (fun p e s m args below meth c ls S hr hlk htab hsz C0 hl H locs M => ?_)
  subst hsz
  have hx := S.1
  have hb := S.2.1
  unfold f_L_effortTo at hf
  refine lv_aload_n hx hb dL_effortTo_0 rfl (lv_at hl 3 rfl) ?_
  refine lv_iconst (v := 0) hx hb dL_effortTo_1 (by decide) ?_
  refine lv_aload_n hx hb dL_effortTo_2 rfl (lv_at hl 0 rfl) ?_
  refine lv_iload_n hx hb dL_effortTo_3 rfl (lv_at hl 1 rfl) ?_
  refine lv_iload_n hx hb dL_effortTo_4 rfl (lv_at hl 2 rfl) ?_
  rcases bt2_x hf with ⟨r, σ1, h, hf⟩ | ⟨n, σ1, h, hf⟩
  · refine g_callR (st1 := [.int r, .int 0, .ref (G.1 228)]) (cells' := 3) (slots' := 18) M (g_invV (index := 108) S M C0 hl (c_X12_effortTo l hfl G H.size lo dd σ a1 a2 h) k_X12_effortTo tw_5_66 tw_5_67 tw_5_65 (by decide) (ge_0 rfl) rfl rfl rfl rfl rfl rfl dL_effortTo_5) rfl rfl rfl (fun H locs M => ?_)
    refine lv_i2l hx hb dL_effortTo_8 rfl ?_
    refine g_last S M dL_effortTo_9 (fun H locs M => ?_)
    refine lv_goto (tgt := 21) hx hb dL_effortTo_10 (by decide) ?_
    refine lv_iconst (v := 0) hx hb dL_effortTo_21 (by decide) ?_
    cases hf
    exact g_iret S M hr hlk (by decide) (by decide) dL_effortTo_22 rfl
  · refine g_runX (cells' := 3) (slots' := 18) M (g_invV (index := 108) S M C0 hl (c_X12_effortTo l hfl G H.size lo dd σ a1 a2 h) k_X12_effortTo tw_5_66 tw_5_67 tw_5_65 (by decide) (ge_0 rfl) rfl rfl rfl rfl rfl rfl dL_effortTo_5) rfl rfl (fun ce q H locs M hq hv hcl => ?_)
    by_cases hc : n = 0
    · have hf := it_p hc hf
      subst hc
      refine vx_catch (E := "java/lang/IndexOutOfBoundsException") (name := "java/lang/IndexOutOfBoundsException") S.2.2.2.1 [] ⟨0, 10, 13, 13⟩ [⟨0, 10, 17, 35⟩] htab gp_n rfl (by decide) (S.2.2.2.2 _ tw_3_7) (va_any rfl (C0.2.1 _ (by decide +kernel))) hq hv hcl ?_
      refine lv_astore (lv' := [(4, .ref q), (0, .ref (G.1 0)), (1, .int a1), (2, .int a2), (3, .ref (G.1 228))]) hx hb dL_effortTo_13 hl (by decide) rfl (fun ls hl => ?_)
      refine lv_iconst (v := 1) hx hb dL_effortTo_15 (by decide) ?_
      cases hf
      exact g_iret S M hr hlk (by decide) (by decide) dL_effortTo_16 rfl
    · have hf := it_n hc hf
      by_cases hc : n = 4
      · have hf := it_p hc hf
        subst hc
        refine vx_catch (E := "java/util/NoSuchElementException") (name := "java/util/NoSuchElementException") S.2.2.2.1 [⟨0, 10, 13, 13⟩] ⟨0, 10, 17, 35⟩ [] htab (gp_c (Or.inr ⟨by decide, "java/lang/IndexOutOfBoundsException", S.2.2.2.2 _ tw_3_7, C0.2.2.2.1 ("java/util/NoSuchElementException", "java/lang/IndexOutOfBoundsException") (by decide +kernel)⟩) gp_n) rfl (by decide) (S.2.2.2.2 _ tw_4_17) (va_any rfl (C0.2.1 _ (by decide +kernel))) hq hv hcl ?_
        refine lv_astore (lv' := [(4, .ref q), (0, .ref (G.1 0)), (1, .int a1), (2, .int a2), (3, .ref (G.1 228))]) hx hb dL_effortTo_17 hl (by decide) rfl (fun ls hl => ?_)
        refine lv_iconst (v := 2) hx hb dL_effortTo_19 (by decide) ?_
        cases hf
        exact g_iret S M hr hlk (by decide) (by decide) dL_effortTo_20 rfl
      · have hf := it_n hc hf
        cases hf
set_option maxHeartbeats 400000 in
set_option maxRecDepth 100000 in
theorem c_L_heaviest (l : Launch) (hfl : l.stackTraces = false) (G : gT) (sz : Nat) (lo : Int64) (dd : UInt64) (σ : gM) (a1 : Int32) {r2 : Int32} {o : gM} {lo2 : Int64} {dd2 : UInt64} (hf : f_L_heaviest σ lo dd a1 = some (r2, o, lo2, dd2)) : gCW l yL_heaviest cL_heaviest 4 (some .int) [(0, 9, 12, 35)] { frames := 10, cells := 1, slots := 6, locals := 164 } 1 6 G sz [.ref (G.1 0), .int a1, .ref (G.1 228)] lo dd σ (.inl (mkI r2, o, lo2, dd2)) := by
  refine gCW_of (by decide) tw_5_75 (Nat.le_of_ble_eq_true rfl) (fun p e s m args below meth c ls S hr hlk htab hsz C0 hl H locs M => ?_)
  subst hsz
  have hx := S.1
  have hb := S.2.1
  unfold f_L_heaviest at hf
  refine lv_aload_n hx hb dL_heaviest_0 rfl (lv_at hl 2 rfl) ?_
  refine lv_iconst (v := 0) hx hb dL_heaviest_1 (by decide) ?_
  refine lv_aload_n hx hb dL_heaviest_2 rfl (lv_at hl 0 rfl) ?_
  refine lv_iload_n hx hb dL_heaviest_3 rfl (lv_at hl 1 rfl) ?_
  rcases bt_x hf with ⟨r, h, hf⟩ | ⟨n, h, hf⟩
  · refine g_callR (st1 := [.int r, .int 0, .ref (G.1 228)]) (cells' := 1) (slots' := 6) M (g_invV (index := 111) S M C0 hl (c_X12_heaviest l hfl G H.size lo dd σ a1 h) k_X12_heaviest tw_5_77 tw_5_78 tw_5_76 (by decide) (ge_0 rfl) rfl rfl rfl rfl rfl rfl dL_heaviest_4) rfl rfl rfl (fun H locs M => ?_)
    refine lv_i2l hx hb dL_heaviest_7 rfl ?_
    refine g_last S M dL_heaviest_8 (fun H locs M => ?_)
    refine lv_goto (tgt := 15) hx hb dL_heaviest_9 (by decide) ?_
    refine lv_iconst (v := 0) hx hb dL_heaviest_15 (by decide) ?_
    cases hf
    exact g_iret S M hr hlk (by decide) (by decide) dL_heaviest_16 rfl
  · refine g_runX (cells' := 1) (slots' := 6) M (g_invV (index := 111) S M C0 hl (c_X12_heaviest l hfl G H.size lo dd σ a1 h) k_X12_heaviest tw_5_77 tw_5_78 tw_5_76 (by decide) (ge_0 rfl) rfl rfl rfl rfl rfl rfl dL_heaviest_4) rfl rfl (fun ce q H locs M hq hv hcl => ?_)
    by_cases hc : n = 4
    · have hf := it_p hc hf
      subst hc
      refine vx_catch (E := "java/util/NoSuchElementException") (name := "java/util/NoSuchElementException") S.2.2.2.1 [] ⟨0, 9, 12, 35⟩ [] htab gp_n rfl (by decide) (S.2.2.2.2 _ tw_4_17) (va_any rfl (C0.2.1 _ (by decide +kernel))) hq hv hcl ?_
      refine lv_astore_n (lv' := [(3, .ref q), (0, .ref (G.1 0)), (1, .int a1), (2, .ref (G.1 228))]) hx hb dL_heaviest_12 rfl hl (by decide) rfl (fun ls hl => ?_)
      refine lv_iconst (v := 1) hx hb dL_heaviest_13 (by decide) ?_
      cases hf
      exact g_iret S M hr hlk (by decide) (by decide) dL_heaviest_14 rfl
    · have hf := it_n hc hf
      cases hf
set_option maxHeartbeats 400000 in
set_option maxRecDepth 100000 in
theorem c_L_meanHazard (l : Launch) (hfl : l.stackTraces = false) (G : gT) (sz : Nat) (lo : Int64) (dd : UInt64) (σ : gM) {r2 : Int32} {o : gM} {lo2 : Int64} {dd2 : UInt64} (hf : f_L_meanHazard σ lo dd = some (r2, o, lo2, dd2)) : gCW l yL_meanHazard cL_meanHazard 3 (some .int) [(0, 7, 10, 118)] { frames := 8, cells := 1, slots := 6, locals := 124 } 1 6 G sz [.ref (G.1 0), .ref (G.1 229)] lo dd σ (.inl (mkI r2, o, lo2, dd2)) := by
  refine gCW_of (by decide) tw_5_94 (Nat.le_of_ble_eq_true rfl) (fun p e s m args below meth c ls S hr hlk htab hsz C0 hl H locs M => ?_)
  subst hsz
  have hx := S.1
  have hb := S.2.1
  unfold f_L_meanHazard at hf
  refine lv_aload_n hx hb dL_meanHazard_0 rfl (lv_at hl 1 rfl) ?_
  refine lv_iconst (v := 0) hx hb dL_meanHazard_1 (by decide) ?_
  refine lv_aload_n hx hb dL_meanHazard_2 rfl (lv_at hl 0 rfl) ?_
  rcases bt_x hf with ⟨r, h, hf⟩ | ⟨n, h, hf⟩
  · refine g_callR (st1 := [.double r, .int 0, .ref (G.1 229)]) (cells' := 1) (slots' := 6) M (g_invV (index := 114) S M C0 hl (c_X12_meanHazard l hfl G H.size lo dd σ h) k_X12_meanHazard tw_5_110 tw_5_111 tw_5_109 (by decide) (ge_0 rfl) rfl rfl rfl rfl rfl rfl dL_meanHazard_3) rfl rfl rfl (fun H locs M => ?_)
    refine g_dast S M dL_meanHazard_6 (fun H locs M => ?_)
    refine lv_goto (tgt := 13) hx hb dL_meanHazard_7 (by decide) ?_
    refine lv_iconst (v := 0) hx hb dL_meanHazard_13 (by decide) ?_
    cases hf
    exact g_iret S M hr hlk (by decide) (by decide) dL_meanHazard_14 rfl
  · refine g_runX (cells' := 1) (slots' := 6) M (g_invV (index := 114) S M C0 hl (c_X12_meanHazard l hfl G H.size lo dd σ h) k_X12_meanHazard tw_5_110 tw_5_111 tw_5_109 (by decide) (ge_0 rfl) rfl rfl rfl rfl rfl rfl dL_meanHazard_3) rfl rfl (fun ce q H locs M hq hv hcl => ?_)
    by_cases hc : n = 5
    · have hf := it_p hc hf
      subst hc
      refine vx_catch (E := "java/lang/ArithmeticException") (name := "java/lang/ArithmeticException") S.2.2.2.1 [] ⟨0, 7, 10, 118⟩ [] htab gp_n rfl (by decide) (S.2.2.2.2 _ tw_5_95) (va_any rfl (C0.2.1 _ (by decide +kernel))) hq hv hcl ?_
      refine lv_astore_n (lv' := [(2, .ref q), (0, .ref (G.1 0)), (1, .ref (G.1 229))]) hx hb dL_meanHazard_10 rfl hl (by decide) rfl (fun ls hl => ?_)
      refine lv_iconst (v := 1) hx hb dL_meanHazard_11 (by decide) ?_
      cases hf
      exact g_iret S M hr hlk (by decide) (by decide) dL_meanHazard_12 rfl
    · have hf := it_n hc hf
      cases hf
set_option maxHeartbeats 400000 in
set_option maxRecDepth 100000 in
theorem c_L_deliveredShare (l : Launch) (hfl : l.stackTraces = false) (G : gT) (sz : Nat) (lo : Int64) (dd : UInt64) (σ : gM) {r2 : Int32} {o : gM} {lo2 : Int64} {dd2 : UInt64} (hf : f_L_deliveredShare σ lo dd = some (r2, o, lo2, dd2)) : gCW l yL_deliveredShare cL_deliveredShare 3 (some .int) [(0, 8, 11, 118)] { frames := 8, cells := 1, slots := 6, locals := 124 } 1 6 G sz [.ref (G.1 0), .ref (G.1 229)] lo dd σ (.inl (mkI r2, o, lo2, dd2)) := by
  refine gCW_of (by decide) tw_5_122 (Nat.le_of_ble_eq_true rfl) (fun p e s m args below meth c ls S hr hlk htab hsz C0 hl H locs M => ?_)
  subst hsz
  have hx := S.1
  have hb := S.2.1
  unfold f_L_deliveredShare at hf
  refine lv_aload_n hx hb dL_deliveredShare_0 rfl (lv_at hl 1 rfl) ?_
  refine lv_iconst (v := 0) hx hb dL_deliveredShare_1 (by decide) ?_
  refine lv_aload_n hx hb dL_deliveredShare_2 rfl (lv_at hl 0 rfl) ?_
  rcases bt_x hf with ⟨r, h, hf⟩ | ⟨n, h, hf⟩
  · refine g_callR (st1 := [.float r, .int 0, .ref (G.1 229)]) (cells' := 1) (slots' := 6) M (g_invV (index := 120) S M C0 hl (c_X12_deliveredShare l hfl G H.size lo dd σ h) k_X12_deliveredShare tw_5_124 tw_5_125 tw_5_123 (by decide) (ge_0 rfl) rfl rfl rfl rfl rfl rfl dL_deliveredShare_3) rfl rfl rfl (fun H locs M => ?_)
    obtain ⟨z1, hf⟩ := gnn64_x hf
    refine lv_f2d hx hb dL_deliveredShare_6 z1 ?_
    refine g_dast S M dL_deliveredShare_7 (fun H locs M => ?_)
    refine lv_goto (tgt := 14) hx hb dL_deliveredShare_8 (by decide) ?_
    refine lv_iconst (v := 0) hx hb dL_deliveredShare_14 (by decide) ?_
    cases hf
    exact g_iret S M hr hlk (by decide) (by decide) dL_deliveredShare_15 rfl
  · refine g_runX (cells' := 1) (slots' := 6) M (g_invV (index := 120) S M C0 hl (c_X12_deliveredShare l hfl G H.size lo dd σ h) k_X12_deliveredShare tw_5_124 tw_5_125 tw_5_123 (by decide) (ge_0 rfl) rfl rfl rfl rfl rfl rfl dL_deliveredShare_3) rfl rfl (fun ce q H locs M hq hv hcl => ?_)
    by_cases hc : n = 5
    · have hf := it_p hc hf
      subst hc
      refine vx_catch (E := "java/lang/ArithmeticException") (name := "java/lang/ArithmeticException") S.2.2.2.1 [] ⟨0, 8, 11, 118⟩ [] htab gp_n rfl (by decide) (S.2.2.2.2 _ tw_5_95) (va_any rfl (C0.2.1 _ (by decide +kernel))) hq hv hcl ?_
      refine lv_astore_n (lv' := [(2, .ref q), (0, .ref (G.1 0)), (1, .ref (G.1 229))]) hx hb dL_deliveredShare_11 rfl hl (by decide) rfl (fun ls hl => ?_)
      refine lv_iconst (v := 1) hx hb dL_deliveredShare_12 (by decide) ?_
      cases hf
      exact g_iret S M hr hlk (by decide) (by decide) dL_deliveredShare_13 rfl
    · have hf := it_n hc hf
      cases hf
set_option maxHeartbeats 400000 in
set_option maxRecDepth 100000 in
theorem c_L_feed (l : Launch) (hfl : l.stackTraces = false) (G : gT) (sz : Nat) (lo : Int64) (dd : UInt64) (σ : gM) (a1 : Int32) {r2 : Int32} {o : gM} {lo2 : Int64} {dd2 : UInt64} (hf : f_L_feed σ lo dd a1 = some (r2, o, lo2, dd2)) : gCW l yL_feed cL_feed 4 (some .int) [(0, 9, 12, 17)] { frames := 9, cells := 1, slots := 6, locals := 144 } 1 6 G sz [.ref (G.1 0), .int a1, .ref (G.1 228)] lo dd σ (.inl (mkI r2, o, lo2, dd2)) := by
  refine gCW_of (by decide) tw_5_129 (Nat.le_of_ble_eq_true rfl) (fun p e s m args below meth c ls S hr hlk htab hsz C0 hl H locs M => ?_)
  subst hsz
  have hx := S.1
  have hb := S.2.1
  unfold f_L_feed at hf
  refine lv_aload_n hx hb dL_feed_0 rfl (lv_at hl 2 rfl) ?_
  refine lv_iconst (v := 0) hx hb dL_feed_1 (by decide) ?_
  refine lv_aload_n hx hb dL_feed_2 rfl (lv_at hl 0 rfl) ?_
  refine lv_iload_n hx hb dL_feed_3 rfl (lv_at hl 1 rfl) ?_
  rcases bt2_x hf with ⟨r, σ1, h, hf⟩ | ⟨n, σ1, h, hf⟩
  · refine g_callR (st1 := [.int r, .int 0, .ref (G.1 228)]) (cells' := 1) (slots' := 6) M (g_invV (index := 124) S M C0 hl (c_X12_feed l hfl G H.size lo dd σ a1 h) k_X12_feed tw_5_131 tw_5_132 tw_5_130 (by decide) (ge_0 rfl) rfl rfl rfl rfl rfl rfl dL_feed_4) rfl rfl rfl (fun H locs M => ?_)
    refine lv_i2l hx hb dL_feed_7 rfl ?_
    refine g_last S M dL_feed_8 (fun H locs M => ?_)
    refine lv_goto (tgt := 15) hx hb dL_feed_9 (by decide) ?_
    refine lv_iconst (v := 0) hx hb dL_feed_15 (by decide) ?_
    cases hf
    exact g_iret S M hr hlk (by decide) (by decide) dL_feed_16 rfl
  · refine g_runX (cells' := 1) (slots' := 6) M (g_invV (index := 124) S M C0 hl (c_X12_feed l hfl G H.size lo dd σ a1 h) k_X12_feed tw_5_131 tw_5_132 tw_5_130 (by decide) (ge_0 rfl) rfl rfl rfl rfl rfl rfl dL_feed_4) rfl rfl (fun ce q H locs M hq hv hcl => ?_)
    by_cases hc : n = 2
    · have hf := it_p hc hf
      subst hc
      refine vx_catch (E := "java/lang/IllegalStateException") (name := "java/lang/IllegalStateException") S.2.2.2.1 [] ⟨0, 9, 12, 17⟩ [] htab gp_n rfl (by decide) (S.2.2.2.2 _ tw_3_88) (va_any rfl (C0.2.1 _ (by decide +kernel))) hq hv hcl ?_
      refine lv_astore_n (lv' := [(3, .ref q), (0, .ref (G.1 0)), (1, .int a1), (2, .ref (G.1 228))]) hx hb dL_feed_12 rfl hl (by decide) rfl (fun ls hl => ?_)
      refine lv_iconst (v := 1) hx hb dL_feed_13 (by decide) ?_
      cases hf
      exact g_iret S M hr hlk (by decide) (by decide) dL_feed_14 rfl
    · have hf := it_n hc hf
      cases hf
set_option maxHeartbeats 400000 in
set_option maxRecDepth 100000 in
theorem c_L_runCommands (l : Launch) (hfl : l.stackTraces = false) (G : gT) (sz : Nat) (lo : Int64) (dd : UInt64) (σ : gM) {r2 : Int32} {o : gM} {lo2 : Int64} {dd2 : UInt64} (hf : f_L_runCommands σ lo dd = some (r2, o, lo2, dd2)) : gCW l yL_runCommands cL_runCommands 3 (some .int) [(0, 8, 11, 15), (0, 8, 14, 33)] { frames := 10, cells := 1, slots := 6, locals := 294 } 1 6 G sz [.ref (G.1 0), .ref (G.1 228)] lo dd σ (.inl (mkI r2, o, lo2, dd2)) := by
  refine gCW_of (by decide) tw_5_144 (Nat.le_of_ble_eq_true rfl) (fun p e s m args below meth c ls S hr hlk htab hsz C0 hl H locs M => ?_)
  subst hsz
  have hx := S.1
  have hb := S.2.1
  unfold f_L_runCommands at hf
  refine lv_aload_n hx hb dL_runCommands_0 rfl (lv_at hl 1 rfl) ?_
  refine lv_iconst (v := 0) hx hb dL_runCommands_1 (by decide) ?_
  refine lv_aload_n hx hb dL_runCommands_2 rfl (lv_at hl 0 rfl) ?_
  rcases bt2_x hf with ⟨r, σ1, h, hf⟩ | ⟨n, σ1, h, hf⟩
  · refine g_callR (st1 := [.int r, .int 0, .ref (G.1 228)]) (cells' := 1) (slots' := 6) M (g_invV (index := 128) S M C0 hl (c_X12_runCommands l hfl G H.size lo dd σ h) k_X12_runCommands tw_5_146 tw_5_147 tw_5_145 (by decide) (ge_0 rfl) rfl rfl rfl rfl rfl rfl dL_runCommands_3) rfl rfl rfl (fun H locs M => ?_)
    refine lv_i2l hx hb dL_runCommands_6 rfl ?_
    refine g_last S M dL_runCommands_7 (fun H locs M => ?_)
    refine lv_goto (tgt := 17) hx hb dL_runCommands_8 (by decide) ?_
    refine lv_iconst (v := 0) hx hb dL_runCommands_17 (by decide) ?_
    cases hf
    exact g_iret S M hr hlk (by decide) (by decide) dL_runCommands_18 rfl
  · refine g_runX (cells' := 1) (slots' := 6) M (g_invV (index := 128) S M C0 hl (c_X12_runCommands l hfl G H.size lo dd σ h) k_X12_runCommands tw_5_146 tw_5_147 tw_5_145 (by decide) (ge_0 rfl) rfl rfl rfl rfl rfl rfl dL_runCommands_3) rfl rfl (fun ce q H locs M hq hv hcl => ?_)
    by_cases hc : n = 1
    · have hf := it_p hc hf
      subst hc
      refine vx_catch (E := "java/lang/IllegalArgumentException") (name := "java/lang/IllegalArgumentException") S.2.2.2.1 [] ⟨0, 8, 11, 15⟩ [⟨0, 8, 14, 33⟩] htab gp_n rfl (by decide) (S.2.2.2.2 _ tw_3_87) (va_any rfl (C0.2.1 _ (by decide +kernel))) hq hv hcl ?_
      refine lv_astore_n (lv' := [(2, .ref q), (0, .ref (G.1 0)), (1, .ref (G.1 228))]) hx hb dL_runCommands_11 rfl hl (by decide) rfl (fun ls hl => ?_)
      refine lv_iconst (v := 1) hx hb dL_runCommands_12 (by decide) ?_
      cases hf
      exact g_iret S M hr hlk (by decide) (by decide) dL_runCommands_13 rfl
    · have hf := it_n hc hf
      by_cases hc : n = 3
      · have hf := it_p hc hf
        subst hc
        refine vx_catch (E := "java/lang/UnsupportedOperationException") (name := "java/lang/UnsupportedOperationException") S.2.2.2.1 [⟨0, 8, 11, 15⟩] ⟨0, 8, 14, 33⟩ [] htab (gp_c (Or.inr ⟨by decide, "java/lang/IllegalArgumentException", S.2.2.2.2 _ tw_3_87, C0.2.2.2.1 ("java/lang/UnsupportedOperationException", "java/lang/IllegalArgumentException") (by decide +kernel)⟩) gp_n) rfl (by decide) (S.2.2.2.2 _ tw_4_16) (va_any rfl (C0.2.1 _ (by decide +kernel))) hq hv hcl ?_
        refine lv_astore_n (lv' := [(2, .ref q), (0, .ref (G.1 0)), (1, .ref (G.1 228))]) hx hb dL_runCommands_14 rfl hl (by decide) rfl (fun ls hl => ?_)
        refine lv_iconst (v := 2) hx hb dL_runCommands_15 (by decide) ?_
        cases hf
        exact g_iret S M hr hlk (by decide) (by decide) dL_runCommands_16 rfl
      · have hf := it_n hc hf
        cases hf
set_option maxHeartbeats 400000 in
set_option maxRecDepth 100000 in
theorem c_L_errorPosition (l : Launch) (hfl : l.stackTraces = false) (G : gT) (sz : Nat) (lo : Int64) (dd : UInt64) (σ : gM) {r2 : Int32} {o : gM} {lo2 : Int64} {dd2 : UInt64} (hf : f_L_errorPosition σ lo dd = some (r2, o, lo2, dd2)) : gCW l yL_errorPosition cL_errorPosition 3 (some .int) [(0, 8, 11, 35)] { frames := 10, cells := 1, slots := 6, locals := 163 } 1 6 G sz [.ref (G.1 0), .ref (G.1 228)] lo dd σ (.inl (mkI r2, o, lo2, dd2)) := by
  refine gCW_of (by decide) tw_6_21 (Nat.le_of_ble_eq_true rfl) (fun p e s m args below meth c ls S hr hlk htab hsz C0 hl H locs M => ?_)
  subst hsz
  have hx := S.1
  have hb := S.2.1
  unfold f_L_errorPosition at hf
  refine lv_aload_n hx hb dL_errorPosition_0 rfl (lv_at hl 1 rfl) ?_
  refine lv_iconst (v := 0) hx hb dL_errorPosition_1 (by decide) ?_
  refine lv_aload_n hx hb dL_errorPosition_2 rfl (lv_at hl 0 rfl) ?_
  rcases bt_x hf with ⟨r, h, hf⟩ | ⟨n, h, hf⟩
  · refine g_callR (st1 := [.int r, .int 0, .ref (G.1 228)]) (cells' := 1) (slots' := 6) M (g_invV (index := 132) S M C0 hl (c_X12_errorPosition l hfl G H.size lo dd σ h) k_X12_errorPosition tw_6_23 tw_6_24 tw_6_22 (by decide) (ge_0 rfl) rfl rfl rfl rfl rfl rfl dL_errorPosition_3) rfl rfl rfl (fun H locs M => ?_)
    refine lv_i2l hx hb dL_errorPosition_6 rfl ?_
    refine g_last S M dL_errorPosition_7 (fun H locs M => ?_)
    refine lv_goto (tgt := 14) hx hb dL_errorPosition_8 (by decide) ?_
    refine lv_iconst (v := 0) hx hb dL_errorPosition_14 (by decide) ?_
    cases hf
    exact g_iret S M hr hlk (by decide) (by decide) dL_errorPosition_15 rfl
  · refine g_runX (cells' := 1) (slots' := 6) M (g_invV (index := 132) S M C0 hl (c_X12_errorPosition l hfl G H.size lo dd σ h) k_X12_errorPosition tw_6_23 tw_6_24 tw_6_22 (by decide) (ge_0 rfl) rfl rfl rfl rfl rfl rfl dL_errorPosition_3) rfl rfl (fun ce q H locs M hq hv hcl => ?_)
    by_cases hc : n = 4
    · have hf := it_p hc hf
      subst hc
      refine vx_catch (E := "java/util/NoSuchElementException") (name := "java/util/NoSuchElementException") S.2.2.2.1 [] ⟨0, 8, 11, 35⟩ [] htab gp_n rfl (by decide) (S.2.2.2.2 _ tw_4_17) (va_any rfl (C0.2.1 _ (by decide +kernel))) hq hv hcl ?_
      refine lv_astore_n (lv' := [(2, .ref q), (0, .ref (G.1 0)), (1, .ref (G.1 228))]) hx hb dL_errorPosition_11 rfl hl (by decide) rfl (fun ls hl => ?_)
      refine lv_iconst (v := 1) hx hb dL_errorPosition_12 (by decide) ?_
      cases hf
      exact g_iret S M hr hlk (by decide) (by decide) dL_errorPosition_13 rfl
    · have hf := it_n hc hf
      cases hf
set_option maxHeartbeats 400000 in
set_option maxRecDepth 100000 in
theorem c_L_failedCommand (l : Launch) (hfl : l.stackTraces = false) (G : gT) (sz : Nat) (lo : Int64) (dd : UInt64) (σ : gM) {r2 : Int32} {o : gM} {lo2 : Int64} {dd2 : UInt64} (hf : f_L_failedCommand σ lo dd = some (r2, o, lo2, dd2)) : gCW l yL_failedCommand cL_failedCommand 3 (some .int) [(0, 8, 11, 35)] { frames := 10, cells := 1, slots := 6, locals := 163 } 1 6 G sz [.ref (G.1 0), .ref (G.1 228)] lo dd σ (.inl (mkI r2, o, lo2, dd2)) := by
  refine gCW_of (by decide) tw_6_28 (Nat.le_of_ble_eq_true rfl) (fun p e s m args below meth c ls S hr hlk htab hsz C0 hl H locs M => ?_)
  subst hsz
  have hx := S.1
  have hb := S.2.1
  unfold f_L_failedCommand at hf
  refine lv_aload_n hx hb dL_failedCommand_0 rfl (lv_at hl 1 rfl) ?_
  refine lv_iconst (v := 0) hx hb dL_failedCommand_1 (by decide) ?_
  refine lv_aload_n hx hb dL_failedCommand_2 rfl (lv_at hl 0 rfl) ?_
  rcases bt_x hf with ⟨r, h, hf⟩ | ⟨n, h, hf⟩
  · refine g_callR (st1 := [.int r, .int 0, .ref (G.1 228)]) (cells' := 1) (slots' := 6) M (g_invV (index := 135) S M C0 hl (c_X12_failedCommand l hfl G H.size lo dd σ h) k_X12_failedCommand tw_6_30 tw_6_31 tw_6_29 (by decide) (ge_0 rfl) rfl rfl rfl rfl rfl rfl dL_failedCommand_3) rfl rfl rfl (fun H locs M => ?_)
    refine lv_i2l hx hb dL_failedCommand_6 rfl ?_
    refine g_last S M dL_failedCommand_7 (fun H locs M => ?_)
    refine lv_goto (tgt := 14) hx hb dL_failedCommand_8 (by decide) ?_
    refine lv_iconst (v := 0) hx hb dL_failedCommand_14 (by decide) ?_
    cases hf
    exact g_iret S M hr hlk (by decide) (by decide) dL_failedCommand_15 rfl
  · refine g_runX (cells' := 1) (slots' := 6) M (g_invV (index := 135) S M C0 hl (c_X12_failedCommand l hfl G H.size lo dd σ h) k_X12_failedCommand tw_6_30 tw_6_31 tw_6_29 (by decide) (ge_0 rfl) rfl rfl rfl rfl rfl rfl dL_failedCommand_3) rfl rfl (fun ce q H locs M hq hv hcl => ?_)
    by_cases hc : n = 4
    · have hf := it_p hc hf
      subst hc
      refine vx_catch (E := "java/util/NoSuchElementException") (name := "java/util/NoSuchElementException") S.2.2.2.1 [] ⟨0, 8, 11, 35⟩ [] htab gp_n rfl (by decide) (S.2.2.2.2 _ tw_4_17) (va_any rfl (C0.2.1 _ (by decide +kernel))) hq hv hcl ?_
      refine lv_astore_n (lv' := [(2, .ref q), (0, .ref (G.1 0)), (1, .ref (G.1 228))]) hx hb dL_failedCommand_11 rfl hl (by decide) rfl (fun ls hl => ?_)
      refine lv_iconst (v := 1) hx hb dL_failedCommand_12 (by decide) ?_
      cases hf
      exact g_iret S M hr hlk (by decide) (by decide) dL_failedCommand_13 rfl
    · have hf := it_n hc hf
      cases hf
set_option maxHeartbeats 400000 in
set_option maxRecDepth 100000 in
theorem c_L_writeSack (l : Launch) (hfl : l.stackTraces = false) (G : gT) (sz : Nat) (lo : Int64) (dd : UInt64) (σ : gM) (a1 : Int32) {r2 : Int32} {o : gM} {lo2 : Int64} {dd2 : UInt64} (hf : f_L_writeSack σ lo dd a1 = some (r2, o, lo2, dd2)) : gCW l yL_writeSack cL_writeSack 4 (some .int) [(0, 9, 12, 13)] { frames := 9, cells := 1, slots := 6, locals := 145 } 1 6 G sz [.ref (G.1 0), .int a1, .ref (G.1 228)] lo dd σ (.inl (mkI r2, o, lo2, dd2)) := by
  refine gCW_of (by decide) tw_6_35 (Nat.le_of_ble_eq_true rfl) (fun p e s m args below meth c ls S hr hlk htab hsz C0 hl H locs M => ?_)
  subst hsz
  have hx := S.1
  have hb := S.2.1
  unfold f_L_writeSack at hf
  refine lv_aload_n hx hb dL_writeSack_0 rfl (lv_at hl 2 rfl) ?_
  refine lv_iconst (v := 0) hx hb dL_writeSack_1 (by decide) ?_
  refine lv_aload_n hx hb dL_writeSack_2 rfl (lv_at hl 0 rfl) ?_
  refine lv_iload_n hx hb dL_writeSack_3 rfl (lv_at hl 1 rfl) ?_
  rcases bt2_x hf with ⟨r, σ1, h, hf⟩ | ⟨n, σ1, h, hf⟩
  · refine g_callR (st1 := [.int r, .int 0, .ref (G.1 228)]) (cells' := 1) (slots' := 6) M (g_invV (index := 138) S M C0 hl (c_X12_writeSack l hfl G H.size lo dd σ a1 h) k_X12_writeSack tw_6_37 tw_6_38 tw_6_36 (by decide) (ge_0 rfl) rfl rfl rfl rfl rfl rfl dL_writeSack_4) rfl rfl rfl (fun H locs M => ?_)
    refine lv_i2l hx hb dL_writeSack_7 rfl ?_
    refine g_last S M dL_writeSack_8 (fun H locs M => ?_)
    refine lv_goto (tgt := 15) hx hb dL_writeSack_9 (by decide) ?_
    refine lv_iconst (v := 0) hx hb dL_writeSack_15 (by decide) ?_
    cases hf
    exact g_iret S M hr hlk (by decide) (by decide) dL_writeSack_16 rfl
  · refine g_runX (cells' := 1) (slots' := 6) M (g_invV (index := 138) S M C0 hl (c_X12_writeSack l hfl G H.size lo dd σ a1 h) k_X12_writeSack tw_6_37 tw_6_38 tw_6_36 (by decide) (ge_0 rfl) rfl rfl rfl rfl rfl rfl dL_writeSack_4) rfl rfl (fun ce q H locs M hq hv hcl => ?_)
    by_cases hc : n = 0
    · have hf := it_p hc hf
      subst hc
      refine vx_catch (E := "java/lang/IndexOutOfBoundsException") (name := "java/lang/IndexOutOfBoundsException") S.2.2.2.1 [] ⟨0, 9, 12, 13⟩ [] htab gp_n rfl (by decide) (S.2.2.2.2 _ tw_3_7) (va_any rfl (C0.2.1 _ (by decide +kernel))) hq hv hcl ?_
      refine lv_astore_n (lv' := [(3, .ref q), (0, .ref (G.1 0)), (1, .int a1), (2, .ref (G.1 228))]) hx hb dL_writeSack_12 rfl hl (by decide) rfl (fun ls hl => ?_)
      refine lv_iconst (v := 1) hx hb dL_writeSack_13 (by decide) ?_
      cases hf
      exact g_iret S M hr hlk (by decide) (by decide) dL_writeSack_14 rfl
    · have hf := it_n hc hf
      cases hf
set_option maxHeartbeats 400000 in
set_option maxRecDepth 100000 in
theorem c_L_outputChar (l : Launch) (hfl : l.stackTraces = false) (G : gT) (sz : Nat) (lo : Int64) (dd : UInt64) (σ : gM) (a1 : Int32) {r2 : Int32} {o : gM} {lo2 : Int64} {dd2 : UInt64} (hf : f_L_outputChar σ lo dd a1 = some (r2, o, lo2, dd2)) : gCW l yL_outputChar cL_outputChar 4 (some .int) [(0, 9, 12, 13)] { frames := 9, cells := 1, slots := 6, locals := 145 } 1 6 G sz [.ref (G.1 0), .int a1, .ref (G.1 228)] lo dd σ (.inl (mkI r2, o, lo2, dd2)) := by
  refine gCW_of (by decide) tw_6_64 (Nat.le_of_ble_eq_true rfl) (fun p e s m args below meth c ls S hr hlk htab hsz C0 hl H locs M => ?_)
  subst hsz
  have hx := S.1
  have hb := S.2.1
  unfold f_L_outputChar at hf
  refine lv_aload_n hx hb dL_outputChar_0 rfl (lv_at hl 2 rfl) ?_
  refine lv_iconst (v := 0) hx hb dL_outputChar_1 (by decide) ?_
  refine lv_aload_n hx hb dL_outputChar_2 rfl (lv_at hl 0 rfl) ?_
  refine lv_iload_n hx hb dL_outputChar_3 rfl (lv_at hl 1 rfl) ?_
  rcases bt_x hf with ⟨r, h, hf⟩ | ⟨n, h, hf⟩
  · refine g_callR (st1 := [.int r, .int 0, .ref (G.1 228)]) (cells' := 1) (slots' := 6) M (g_invV (index := 141) S M C0 hl (c_X12_outputChar l hfl G H.size lo dd σ a1 h) k_X12_outputChar tw_6_66 tw_6_67 tw_6_65 (by decide) (ge_0 rfl) rfl rfl rfl rfl rfl rfl dL_outputChar_4) rfl rfl rfl (fun H locs M => ?_)
    refine lv_i2l hx hb dL_outputChar_7 rfl ?_
    refine g_last S M dL_outputChar_8 (fun H locs M => ?_)
    refine lv_goto (tgt := 15) hx hb dL_outputChar_9 (by decide) ?_
    refine lv_iconst (v := 0) hx hb dL_outputChar_15 (by decide) ?_
    cases hf
    exact g_iret S M hr hlk (by decide) (by decide) dL_outputChar_16 rfl
  · refine g_runX (cells' := 1) (slots' := 6) M (g_invV (index := 141) S M C0 hl (c_X12_outputChar l hfl G H.size lo dd σ a1 h) k_X12_outputChar tw_6_66 tw_6_67 tw_6_65 (by decide) (ge_0 rfl) rfl rfl rfl rfl rfl rfl dL_outputChar_4) rfl rfl (fun ce q H locs M hq hv hcl => ?_)
    by_cases hc : n = 0
    · have hf := it_p hc hf
      subst hc
      refine vx_catch (E := "java/lang/IndexOutOfBoundsException") (name := "java/lang/IndexOutOfBoundsException") S.2.2.2.1 [] ⟨0, 9, 12, 13⟩ [] htab gp_n rfl (by decide) (S.2.2.2.2 _ tw_3_7) (va_any rfl (C0.2.1 _ (by decide +kernel))) hq hv hcl ?_
      refine lv_astore_n (lv' := [(3, .ref q), (0, .ref (G.1 0)), (1, .int a1), (2, .ref (G.1 228))]) hx hb dL_outputChar_12 rfl hl (by decide) rfl (fun ls hl => ?_)
      refine lv_iconst (v := 1) hx hb dL_outputChar_13 (by decide) ?_
      cases hf
      exact g_iret S M hr hlk (by decide) (by decide) dL_outputChar_14 rfl
    · have hf := it_n hc hf
      cases hf
set_option maxHeartbeats 400000 in
set_option maxRecDepth 100000 in
theorem c_L_undo (l : Launch) (hfl : l.stackTraces = false) (G : gT) (sz : Nat) (lo : Int64) (dd : UInt64) (σ : gM) {r2 : Int32} {o : gM} {lo2 : Int64} {dd2 : UInt64} (hf : f_L_undo σ lo dd = some (r2, o, lo2, dd2)) : gCW l yL_undo cL_undo 3 (some .int) [(0, 8, 11, 17)] { frames := 9, cells := 1, slots := 6, locals := 169 } 1 6 G sz [.ref (G.1 0), .ref (G.1 228)] lo dd σ (.inl (mkI r2, o, lo2, dd2)) := by
  refine gCW_of (by decide) tw_6_79 (Nat.le_of_ble_eq_true rfl) (fun p e s m args below meth c ls S hr hlk htab hsz C0 hl H locs M => ?_)
  subst hsz
  have hx := S.1
  have hb := S.2.1
  unfold f_L_undo at hf
  refine lv_aload_n hx hb dL_undo_0 rfl (lv_at hl 1 rfl) ?_
  refine lv_iconst (v := 0) hx hb dL_undo_1 (by decide) ?_
  refine lv_aload_n hx hb dL_undo_2 rfl (lv_at hl 0 rfl) ?_
  rcases bt2_x hf with ⟨r, σ1, h, hf⟩ | ⟨n, σ1, h, hf⟩
  · refine g_callR (st1 := [.int r, .int 0, .ref (G.1 228)]) (cells' := 1) (slots' := 6) M (g_invV (index := 144) S M C0 hl (c_X12_undo l hfl G H.size lo dd σ h) k_X12_undo tw_6_81 tw_6_82 tw_6_80 (by decide) (ge_0 rfl) rfl rfl rfl rfl rfl rfl dL_undo_3) rfl rfl rfl (fun H locs M => ?_)
    refine lv_i2l hx hb dL_undo_6 rfl ?_
    refine g_last S M dL_undo_7 (fun H locs M => ?_)
    refine lv_goto (tgt := 14) hx hb dL_undo_8 (by decide) ?_
    refine lv_iconst (v := 0) hx hb dL_undo_14 (by decide) ?_
    cases hf
    exact g_iret S M hr hlk (by decide) (by decide) dL_undo_15 rfl
  · refine g_runX (cells' := 1) (slots' := 6) M (g_invV (index := 144) S M C0 hl (c_X12_undo l hfl G H.size lo dd σ h) k_X12_undo tw_6_81 tw_6_82 tw_6_80 (by decide) (ge_0 rfl) rfl rfl rfl rfl rfl rfl dL_undo_3) rfl rfl (fun ce q H locs M hq hv hcl => ?_)
    by_cases hc : n = 2
    · have hf := it_p hc hf
      subst hc
      refine vx_catch (E := "java/lang/IllegalStateException") (name := "java/lang/IllegalStateException") S.2.2.2.1 [] ⟨0, 8, 11, 17⟩ [] htab gp_n rfl (by decide) (S.2.2.2.2 _ tw_3_88) (va_any rfl (C0.2.1 _ (by decide +kernel))) hq hv hcl ?_
      refine lv_astore_n (lv' := [(2, .ref q), (0, .ref (G.1 0)), (1, .ref (G.1 228))]) hx hb dL_undo_11 rfl hl (by decide) rfl (fun ls hl => ?_)
      refine lv_iconst (v := 1) hx hb dL_undo_12 (by decide) ?_
      cases hf
      exact g_iret S M hr hlk (by decide) (by decide) dL_undo_13 rfl
    · have hf := it_n hc hf
      cases hf
set_option maxHeartbeats 400000 in
set_option maxRecDepth 100000 in
theorem c_L_restore (l : Launch) (hfl : l.stackTraces = false) (G : gT) (sz : Nat) (lo : Int64) (dd : UInt64) (σ : gM) {r2 : Int32} {o : gM} {lo2 : Int64} {dd2 : UInt64} (hf : f_L_restore σ lo dd = some (r2, o, lo2, dd2)) : gCW l yL_restore cL_restore 3 (some .int) [(0, 8, 11, 17)] { frames := 8, cells := 1, slots := 6, locals := 126 } 1 6 G sz [.ref (G.1 0), .ref (G.1 228)] lo dd σ (.inl (mkI r2, o, lo2, dd2)) := by
  refine gCW_of (by decide) tw_6_91 (Nat.le_of_ble_eq_true rfl) (fun p e s m args below meth c ls S hr hlk htab hsz C0 hl H locs M => ?_)
  subst hsz
  have hx := S.1
  have hb := S.2.1
  unfold f_L_restore at hf
  refine lv_aload_n hx hb dL_restore_0 rfl (lv_at hl 1 rfl) ?_
  refine lv_iconst (v := 0) hx hb dL_restore_1 (by decide) ?_
  refine lv_aload_n hx hb dL_restore_2 rfl (lv_at hl 0 rfl) ?_
  rcases bt2_x hf with ⟨r, σ1, h, hf⟩ | ⟨n, σ1, h, hf⟩
  · refine g_callR (st1 := [.int r, .int 0, .ref (G.1 228)]) (cells' := 1) (slots' := 6) M (g_invV (index := 147) S M C0 hl (c_X12_restore l hfl G H.size lo dd σ h) k_X12_restore tw_6_93 tw_6_94 tw_6_92 (by decide) (ge_0 rfl) rfl rfl rfl rfl rfl rfl dL_restore_3) rfl rfl rfl (fun H locs M => ?_)
    refine lv_i2l hx hb dL_restore_6 rfl ?_
    refine g_last S M dL_restore_7 (fun H locs M => ?_)
    refine lv_goto (tgt := 14) hx hb dL_restore_8 (by decide) ?_
    refine lv_iconst (v := 0) hx hb dL_restore_14 (by decide) ?_
    cases hf
    exact g_iret S M hr hlk (by decide) (by decide) dL_restore_15 rfl
  · refine g_runX (cells' := 1) (slots' := 6) M (g_invV (index := 147) S M C0 hl (c_X12_restore l hfl G H.size lo dd σ h) k_X12_restore tw_6_93 tw_6_94 tw_6_92 (by decide) (ge_0 rfl) rfl rfl rfl rfl rfl rfl dL_restore_3) rfl rfl (fun ce q H locs M hq hv hcl => ?_)
    by_cases hc : n = 2
    · have hf := it_p hc hf
      subst hc
      refine vx_catch (E := "java/lang/IllegalStateException") (name := "java/lang/IllegalStateException") S.2.2.2.1 [] ⟨0, 8, 11, 17⟩ [] htab gp_n rfl (by decide) (S.2.2.2.2 _ tw_3_88) (va_any rfl (C0.2.1 _ (by decide +kernel))) hq hv hcl ?_
      refine lv_astore_n (lv' := [(2, .ref q), (0, .ref (G.1 0)), (1, .ref (G.1 228))]) hx hb dL_restore_11 rfl hl (by decide) rfl (fun ls hl => ?_)
      refine lv_iconst (v := 1) hx hb dL_restore_12 (by decide) ?_
      cases hf
      exact g_iret S M hr hlk (by decide) (by decide) dL_restore_13 rfl
    · have hf := it_n hc hf
      cases hf
