/-! the constructors: the addresses follow the order of creation -/
def gpi (i : Nat) : Nat := if i < 37 then i else if i < 199 then i + 2 else if i < 201 then i - 162 else i
def gCap : Nat → Int32 := upd (upd (upd (fun _ => 0) 0 30) 1 30) 2 30
def σ0 : gM := fun i => if i = 0 then upd (upd (fun _ => 0) 7 (-1)) 8 (-1) else if i < 199 ∧ (i - 1) % 18 = 17 then gCap else fun _ => 0
theorem σ0_ds {k j : Nat} (hk : k < 11) (hj : j < 17) : σ0 (1 + 18 * k + j) = fun _ => 0 := by
  unfold σ0
  rw [if_neg (by omega), if_neg (by omega)]
theorem σ0_cap {k : Nat} (hk : k < 11) : σ0 (1 + 18 * k + 17) = gCap := by
  unfold σ0
  rw [if_neg (by omega), if_pos (by omega)]
def nG (b0 : Nat) (G : gT) : Prop := ∀ i, i < 219 → G.1 i = b0 + gpi i
theorem nG_inj {b0 : Nat} {G : gT} (h : nG b0 G) {i j : Nat} (hi : i < 219) (hj : j < 219) (e : G.1 i = G.1 j) : i = j := by
  rw [h i hi, h j hj] at e
  unfold gpi at e
  split at e <;> split at e <;> (try split at e) <;> (try split at e) <;> (try split at e) <;> (try split at e) <;> omega
def nF (G : gT) (i : Nat) (H : Heap) : Prop := va_at (gtD G) vwCl (G.1 i, gent G i 0 0 (σ0 i) (gkd i)) H
def nM (G : gT) (a : Nat) (s : State) (n : Nat) (T : List (Nat × va_E)) (H : Heap) (locs : List Loc) : Prop :=
  H.size = n ∧ a ≤ n ∧ s.heap.size ≤ n ∧ (∀ q, q < a → H[q]? = s.heap[q]?) ∧ (∀ l ∈ locs, a ≤ l.base) ∧ (∀ i, i < 219 → a ≤ G.1 i → G.1 i < n → (∀ x ∈ T, x.1 ≠ i) → nF G i H) ∧ (∀ x ∈ T, x.1 < 219 ∧ a ≤ G.1 x.1 ∧ G.1 x.1 < n ∧ va_at (gtD G) vwCl (G.1 x.1, x.2) H) ∧ (T.map Prod.fst).Nodup
theorem nM.grow {b0 : Nat} {G : gT} (hG : nG b0 G) {a n : Nat} {s : State} {T : List (Nat × va_E)} {H H1 : Heap} {locs : List Loc} (M : nM G a s n T H locs) {j : Nat} {e : va_E} (hj : j < 219) (hn : G.1 j = n) (z : H1.size = n + 1) (o : ∀ q, q < n → H1[q]? = H[q]?) (he : va_at (gtD G) vwCl (G.1 j, e) H1) : nM G a s (n + 1) ((j, e) :: T) H1 locs := by
  obtain ⟨h1, h2, h3, h4, h5, h6, h7, h8⟩ := M
  refine ⟨z, by omega, by omega, fun q hq => (o q (by omega)).trans (h4 q hq), h5, fun i hi ha hlt hx => ?_, fun x hx => ?_, ?_⟩
  · have hne : j ≠ i := hx (j, e) List.mem_cons_self
    have hlt2 : G.1 i < n := by
      rcases Nat.lt_or_ge (G.1 i) n with q | q
      · exact q
      · exact absurd (nG_inj hG hj hi (by omega)) hne
    exact va_at.kept (h6 i hi ha hlt2 (fun x hx2 => hx x (List.mem_cons_of_mem _ hx2))) (o _ hlt2)
  · rcases List.mem_cons.mp hx with rfl | hx
    · exact ⟨hj, by rw [hn]; exact h2, by show G.1 j < n + 1; omega, he⟩
    · obtain ⟨g1, g2, g3, g4⟩ := h7 x hx
      exact ⟨g1, g2, by omega, va_at.kept g4 (o _ g3)⟩
  · rw [List.map_cons, List.nodup_cons]
    refine ⟨fun hm => ?_, h8⟩
    obtain ⟨x, hx, e1⟩ := List.mem_map.mp hm
    have h9 : G.1 x.1 < n := (h7 x hx).2.2.1
    have e1 : x.1 = j := e1
    rw [e1] at h9
    omega
theorem nM.store {b0 : Nat} {G : gT} (hG : nG b0 G) {a n : Nat} {s : State} {T : List (Nat × va_E)} {H H1 : Heap} {locs : List Loc} {j : Nat} {e e1 : va_E} (M : nM G a s n ((j, e) :: T) H locs) (z : H1.size = H.size) (o : ∀ q, q ≠ G.1 j → H1[q]? = H[q]?) (he : va_at (gtD G) vwCl (G.1 j, e1) H1) {k : Nat} : nM G a s n ((j, e1) :: T) H1 (locs ++ [⟨G.1 j, k⟩]) := by
  obtain ⟨h1, h2, h3, h4, h5, h6, h7, h8⟩ := M
  have hj : j < 219 ∧ a ≤ G.1 j ∧ G.1 j < n ∧ va_at (gtD G) vwCl (G.1 j, e) H := h7 _ List.mem_cons_self
  refine ⟨z.trans h1, h2, h3, fun q hq => (o q (by have := hj.2.1; omega)).trans (h4 q hq), fun x hx => ?_, fun i hi ha hlt hx => ?_, fun x hx => ?_, h8⟩
  · rcases List.mem_append.mp hx with h | h
    · exact h5 x h
    · cases List.mem_singleton.mp h
      exact hj.2.1
  · have hne : j ≠ i := hx (j, e1) List.mem_cons_self
    refine va_at.kept (h6 i hi ha hlt (fun x hx2 => ?_)) (o _ (fun q => hne (nG_inj hG hj.1 hi q.symm)))
    rcases List.mem_cons.mp hx2 with rfl | h
    · exact hne
    · exact hx x (List.mem_cons_of_mem _ h)
  · rcases List.mem_cons.mp hx with rfl | hx
    · exact ⟨hj.1, hj.2.1, hj.2.2.1, he⟩
    · obtain ⟨g1, g2, g3, g4⟩ := h7 x (List.mem_cons_of_mem _ hx)
      refine ⟨g1, g2, g3, va_at.kept g4 (o _ (fun q => ?_))⟩
      have e2 := nG_inj hG g1 hj.1 q
      rw [List.map_cons, List.nodup_cons] at h8
      exact h8.1 (List.mem_map.mpr ⟨x, hx, e2⟩)
theorem nM.fin {G : gT} {a n : Nat} {s : State} {T : List (Nat × va_E)} {H : Heap} {locs : List Loc} {j : Nat} {e : va_E} (M : nM G a s n ((j, e) :: T) H locs) (he : gent G j 0 0 (σ0 j) (gkd j) = e) : nM G a s n T H locs := by
  obtain ⟨h1, h2, h3, h4, h5, h6, h7, h8⟩ := M
  refine ⟨h1, h2, h3, h4, h5, fun i hi ha hlt hx => ?_, fun x hx => h7 x (List.mem_cons_of_mem _ hx), (List.nodup_cons.mp h8).2⟩
  by_cases hij : j = i
  · subst hij
    unfold nF
    rw [he]
    exact (h7 _ List.mem_cons_self).2.2.2
  · refine h6 i hi ha hlt (fun x hx2 => ?_)
    rcases List.mem_cons.mp hx2 with rfl | h
    · exact hij
    · exact hx x h
theorem nM.swap {G : gT} {a n : Nat} {s : State} {T : List (Nat × va_E)} {H : Heap} {locs : List Loc} {x y : Nat × va_E} (M : nM G a s n (x :: y :: T) H locs) : nM G a s n (y :: x :: T) H locs := by
  obtain ⟨h1, h2, h3, h4, h5, h6, h7, h8⟩ := M
  have hm : ∀ z, z ∈ x :: y :: T ↔ z ∈ y :: x :: T := fun z => by simp only [List.mem_cons]; constructor <;> (intro h; rcases h with h | h | h <;> simp [h])
  refine ⟨h1, h2, h3, h4, h5, fun i hi ha hlt hx => h6 i hi ha hlt (fun z hz => hx z ((hm z).mp hz)), fun z hz => h7 z ((hm z).mpr hz), ?_⟩
  simp only [List.map_cons, List.nodup_cons, List.mem_cons, not_or] at h8 ⊢
  exact ⟨⟨fun q => h8.1.1 q.symm, h8.2.1⟩, h8.1.2, h8.2.2⟩
/-- the child's constructor has run -/
theorem nM.call {b0 : Nat} {G : gT} (hG : nG b0 G) {a n n1 : Nat} {s : State} {T : List (Nat × va_E)} {H H1 : Heap} {locs L : List Loc} {j : Nat} {e : va_E} (M : nM G a s n ((j, e) :: T) H locs) (hn : G.1 j + 1 = n) (z : H1.size = n1) (hz : H.size ≤ H1.size) (o : ∀ q, q < H.size → ¬ G.1 j ≤ q → H1[q]? = H[q]?) (hL : ∀ q ∈ L, G.1 j ≤ q.base) (hF : ∀ i, i < 219 → G.1 j ≤ G.1 i → G.1 i < n1 → nF G i H1) : nM G a s n1 T H1 (locs ++ L) := by
  obtain ⟨h1, h2, h3, h4, h5, h6, h7, h8⟩ := M
  have hj : j < 219 ∧ a ≤ G.1 j ∧ G.1 j < n ∧ va_at (gtD G) vwCl (G.1 j, e) H := h7 _ List.mem_cons_self
  refine ⟨z, by omega, by omega, fun q hq => (o q (by have := hj.2.1; omega) (by have := hj.2.1; omega)).trans (h4 q hq), fun x hx => ?_, fun i hi ha hlt hx => ?_, fun x hx => ?_, (List.nodup_cons.mp h8).2⟩
  · rcases List.mem_append.mp hx with h | h
    · exact h5 x h
    · exact Nat.le_trans hj.2.1 (hL x h)
  · rcases Nat.lt_or_ge (G.1 i) (G.1 j) with q | q
    · refine va_at.kept (h6 i hi ha (by omega) (fun x hx2 => ?_)) (o _ (by show G.1 i < H.size; omega) (by show ¬ G.1 j ≤ G.1 i; omega))
      rcases List.mem_cons.mp hx2 with rfl | h
      · intro e2
        dsimp only at e2
        subst e2
        omega
      · exact hx x h
    · exact hF i hi q hlt
  · obtain ⟨g1, g2, g3, g4⟩ := h7 x (List.mem_cons_of_mem _ hx)
    have hne : G.1 x.1 ≠ G.1 j := fun q => by
      have e2 := nG_inj hG g1 hj.1 q
      exact (List.nodup_cons.mp h8).1 (List.mem_map.mpr ⟨x, hx, e2⟩)
    exact ⟨g1, g2, by omega, va_at.kept g4 (o _ (by show G.1 x.1 < H.size; omega) (by show ¬ G.1 j ≤ G.1 x.1; omega))⟩
theorem n_new {p : Program} {l : Launch} {e : Env} {R : Room} {s : State} {m : MethodId} {args : Array Value} {below : List Frame} {meth : Method} {c : Code} {H : Heap} {locs : List Loc} {cells slots : Nat} {Q : State → Prop} {cc : ByteArray} {nL : Nat} {own : String} {pc : Nat} {ls : Array Slot} {rest : List Value} {G : gT} {b0 a n : Nat} {T : List (Nat × va_E)} (S : CallFix p m c cc nL s args gTs own) (hK : va_K (gtD G) vwCl (gtys G) s) (hG : nG b0 G) (M : nM G a s n T H locs) {C : String} {TT : u_T} {N ci index : Nat} (hin : ∀ w ∈ u_ws C TT N, w ∈ gTs) (ty : Nat → FieldType) (hty : ∀ k, k < N → parseFieldDescriptor (TT k).2.2.1 = some (ty k)) (hcl : Cond.classLink own index C ∈ gTs) (hinst : Cond.instantiable C N ∈ gTs) (hini : Cond.initialized C ∈ gTs) (hc : vwCl[ci]? = some (C, TT, N)) {fs : List Value} (hfs : ∀ j, j < N → defaultValue (ty j) = vp_V fs j) (j : Nat) (hj : j < 219) (hn : G.1 j = n) (hcells : cells + 1 ≤ R.cells) (hslots : slots + N ≤ R.slots) {cells' slots' : Nat} (e1' : cells + 1 = cells') (e2' : slots + N = slots') (hdg : decode cc pc = .ok (.new index, 3))
    (kk : ∀ H1 : Heap, nM G a s (n + 1) ((j, .inr (ci, fs)) :: T) H1 locs → W p l e R s m args below meth c H1 locs cells' slots' Q (F0 m (pc + 3) ls (.ref (G.1 j) :: rest))) : W p l e R s m args below meth c H locs cells slots Q (F0 m pc ls rest) := by
  subst e1'; subst e2'
  have hts := S.2.2.2.2
  have hKn := hK.1 ci _ hc
  refine W.newcK S.1 S.2.1 S.2.2.2.1 (hts _ hcl) (hts _ hinst) (hts _ hini) rfl hdg hcells hslots hKn.2.1 M.1 fun H1 kC hkC e1 z1 o1 => ?_
  rw [← hn]
  refine kk H1 (M.grow hG hj hn z1 o1 ?_)
  rw [hn]
  exact ⟨_, hc, (u_born ty hts hin hKn hkC e1 hty).to hfs⟩
theorem n_newa {p : Program} {l : Launch} {e : Env} {R : Room} {s : State} {m : MethodId} {args : Array Value} {below : List Frame} {meth : Method} {c : Code} {H : Heap} {locs : List Loc} {cells slots : Nat} {Q : State → Prop} {cc : ByteArray} {nL : Nat} {own : String} {pc : Nat} {ls : Array Slot} {rest : List Value} {G : gT} {b0 a n : Nat} {T : List (Nat × va_E)} (S : CallFix p m c cc nL s args gTs own) (hK : va_K (gtD G) vwCl (gtys G) s) (hG : nG b0 G) (M : nM G a s n T H locs) {atype : ArrayType} (harr : Cond.arrayClass (newarray.typeOf atype) ∈ gTs) (t : Nat) {cA : ClassId} (ht : (gtys G)[t]? = some (cA, newarray.typeOf atype)) {x : Int32} {N' : Nat} {a0 : vp_A} (ha : ∀ cA : ClassId, vp_cell cA a0 = arrV cA N' (fun _ => defaultValue (newarray.typeOf atype))) (hx : ¬ x < 0) (hN : x.toNatClampNeg = N') (hbytes : N' * componentBytes (newarray.typeOf atype) ≤ 536870912) (j : Nat) (hj : j < 219) (hn : G.1 j = n) (hcells : cells + 1 ≤ R.cells) (hslots : slots + N' ≤ R.slots) {cells' slots' : Nat} (e1' : cells + 1 = cells') (e2' : slots + N' = slots') (hdg : decode cc pc = .ok (.newarray atype, 2))
    (kk : ∀ H1 : Heap, nM G a s (n + 1) ((j, .inl (cA, a0)) :: T) H1 locs → W p l e R s m args below meth c H1 locs cells' slots' Q (F0 m (pc + 2) ls (.ref (G.1 j) :: rest))) : W p l e R s m args below meth c H locs cells slots Q (F0 m pc ls (.int x :: rest)) := by
  subst e1'; subst e2'
  have hts := S.2.2.2.2
  refine va_newaK S.1 S.2.1 (hts _ harr) rfl hdg rfl hx hN hbytes hcells hslots M.1 fun H1 cA1 e1 z1 o1 hAr hNm => ?_
  have hcA : cA1 = cA := by
    have h2 := (hK.2 t _ ht).2
    have h3 : s.vm.findClass ("[" ++ (newarray.typeOf atype).toString) = some cA := by cases atype <;> exact h2
    exact Option.some.inj (hNm.symm.trans h3)
  subst hcA
  rw [← hn]
  refine kk H1 (M.grow hG hj hn z1 o1 ?_)
  rw [hn]
  show H1[n]? = some (vp_cell _ _)
  rw [ha]
  exact e1
theorem n_newq {p : Program} {l : Launch} {e : Env} {R : Room} {s : State} {m : MethodId} {args : Array Value} {below : List Frame} {meth : Method} {c : Code} {H : Heap} {locs : List Loc} {cells slots : Nat} {Q : State → Prop} {cc : ByteArray} {nL : Nat} {own : String} {pc : Nat} {ls : Array Slot} {rest : List Value} {G : gT} {b0 a n : Nat} {T : List (Nat × va_E)} (S : CallFix p m c cc nL s args gTs own) (hK : va_K (gtD G) vwCl (gtys G) s) (hG : nG b0 G) (M : nM G a s n T H locs) {C : String} {index : Nat} (hcl : Cond.classLink own index C ∈ gTs) (hover : va_AO C s) (t : Nat) {cA : ClassId} (ht : (gtys G)[t]? = some (cA, .object C)) {x : Int32} {N' : Nat} (hx : ¬ x < 0) (hN : x.toNatClampNeg = N') (hbytes : N' * 4 ≤ 536870912) (j : Nat) (hj : j < 219) (hn : G.1 j = n) (hcells : cells + 1 ≤ R.cells) (hslots : slots + N' ≤ R.slots) {cells' slots' : Nat} (e1' : cells + 1 = cells') (e2' : slots + N' = slots') (hdg : decode cc pc = .ok (.anewarray index, 3))
    (kk : ∀ H1 : Heap, nM G a s (n + 1) ((j, .inl (cA, N', .inr (.inr (.inr (.inr (fun _ => none)))))) :: T) H1 locs → W p l e R s m args below meth c H1 locs cells' slots' Q (F0 m (pc + 3) ls (.ref (G.1 j) :: rest))) : W p l e R s m args below meth c H locs cells slots Q (F0 m pc ls (.int x :: rest)) := by
  subst e1'; subst e2'
  subst hN
  have hts := S.2.2.2.2
  refine W.anew S.1 S.2.1 S.2.2.2.1 (hts _ hcl) (va_AO.use hover) rfl hdg rfl hx hbytes hcells hslots fun cA1 kA comp f1 f2 f3 f4 => ?_
  obtain ⟨kB, cB, -, -, -, g4⟩ := (hK.2 t _ ht).2
  have hcA : cA1 = cA := Option.some.inj (f1.symm.trans g4)
  subst hcA
  have hs := M.1
  rw [hs, ← hn]
  refine kk _ (M.grow hG hj hn (by rw [Array.size_push, hs]) (fun q hq => by rw [Array.getElem?_push, if_neg (by omega)]) ?_)
  rw [hn]
  show (Array.push H _)[n]? = some (vp_cell _ _)
  rw [← hs, Array.getElem?_push_size, vp_cell_q]
  exact congrArg some (arrV_new _ _ _)
theorem n_put {p : Program} {l : Launch} {e : Env} {R : Room} {s : State} {m : MethodId} {args : Array Value} {below : List Frame} {meth : Method} {c : Code} {H : Heap} {locs : List Loc} {cells slots : Nat} {Q : State → Prop} {cc : ByteArray} {nL : Nat} {own : String} {pc : Nat} {ls : Array Slot} {rest : List Value} {G : gT} {b0 a n : Nat} {T : List (Nat × va_E)} (S : CallFix p m c cc nL s args gTs own) (hK : va_K (gtD G) vwCl (gtys G) s) (hG : nG b0 G) {j ci index N : Nat} {fs : List Value} (M : nM G a s n ((j, .inr (ci, fs)) :: T) H locs) (hin0 : meth.name = "<init>") {C : String} {TT : u_T} (hin : ∀ w ∈ u_ws C TT N, w ∈ gTs) (ty0 : Nat → FieldType) (hty : ∀ k, k < N → parseFieldDescriptor (TT k).2.2.1 = some (ty0 k)) (hnm : ∀ a, a < N → ∀ b, b < N → a ≠ b → (TT a).2.1 ≠ (TT b).2.1) (hc : vwCl[ci]? = some (C, TT, N)) (k : Nat) (hk : k < N) (hlink : Cond.fieldLink own index C (TT k).2.1 (TT k).2.2.1 ∈ gTs) (href : C = (TT k).1) (hdecl : (TT k).1 = own) {v : Value} (hn : narrow (ty0 k) v = v) (hfit : fits (ty0 k) v = true) (hl : k < fs.length)
    (hdg : decode cc pc = .ok (.putfield index, 3)) (kk : ∀ (H1 : Heap) (locs1 : List Loc), nM G a s n ((j, .inr (ci, fs.set k v)) :: T) H1 locs1 → W p l e R s m args below meth c H1 locs1 cells slots Q (F0 m (pc + 3) ls rest)) : W p l e R s m args below meth c H locs cells slots Q (F0 m pc ls (v :: .ref (G.1 j) :: rest)) := by
  obtain ⟨hx, hb, -, hown, hts⟩ := S
  have hap := va_apart (own := own) hts hin ty0 hty hnm hK hc
  obtain ⟨r, h1, cell, q1, q2, q3, q4⟩ := (M.2.2.2.2.2.2.1 _ List.mem_cons_self).2.2.2
  have hr : r = (C, TT, N) := Option.some.inj (h1.symm.trans hc)
  subst hr
  obtain ⟨hS, hfc, kC, hkC, hkind⟩ := hK.1 ci _ hc
  obtain ⟨cf, kf, fi, f, hi, hsl⟩ := hS k hk
  have hlay := hts _ (hin _ (u_in_lay hk))
  have hst := (u_facts hfc hkC (u_lays hts hin hk) hi).1
  have hd := hty k hk
  have hi2 : s.fieldFound? C (TT k).2.1 (TT k).2.2.1 = some (cf, kf, fi, f) := by rw [href]; exact hi
  by_cases hfin : (TT k).2.2.2 = true
  · unfold u_lay at hlay
    rw [if_pos hfin] at hlay
    have hcf : m.cls = cf := by
      obtain ⟨_, _, c', _, _, _, -, -, hf', -, -, -, hown2, -⟩ := Cond.laysFinal_spec hlay
      have e1 : c' = cf := by have := hi.symm.trans hf'; simp at this; exact this.1.symm
      rw [hdecl] at hown2
      rw [← e1]; exact Option.some.inj (hown.symm.trans hown2)
    have h6 := u_fits hfc hkC hkind (Or.inr hlay) hi hd hn hfit
    refine W.putFinK hx hb hown (hts _ hlink) hi2 hst hcf hin0 (by rw [q2]; exact h6) q1 q3 (by rw [hsl]; exact k2_hasslot (q4 k hk)) rfl rfl hdg fun H' e1 e2 e3 => ?_
    rw [hsl] at e1
    refine kk H' _ (M.store (e1 := .inr (ci, fs.set k v)) hG e2 e3 ?_)
    exact ⟨_, hc, t_OB.to (V := updV (vp_V fs) k v) ⟨_, e1, q2, q3, t_set q4 hap hk v⟩ (fun j _ => vp_updV_set hl v j)⟩
  · unfold u_lay at hlay
    rw [if_neg hfin] at hlay
    have h6 := u_store hfc hkC hkind hlay hi hd hn hfit
    refine W.putK hx hb (f := f) ⟨hown, hts _ hlink, ⟨_, _, _, hi2⟩, hst⟩ (by rw [q2]; exact h6) q1 q3 (by rw [hsl]; exact k2_hasslot (q4 k hk)) rfl rfl hdg fun H' e1 e2 e3 => ?_
    rw [hsl] at e1
    refine kk H' _ (M.store (e1 := .inr (ci, fs.set k v)) hG e2 e3 ?_)
    exact ⟨_, hc, t_OB.to (V := updV (vp_V fs) k v) ⟨_, e1, q2, q3, t_set q4 hap hk v⟩ (fun j _ => vp_updV_set hl v j)⟩
theorem n_getr {p : Program} {l : Launch} {e : Env} {R : Room} {s : State} {m : MethodId} {args : Array Value} {below : List Frame} {meth : Method} {c : Code} {H : Heap} {locs : List Loc} {cells slots : Nat} {Q : State → Prop} {cc : ByteArray} {nL : Nat} {own : String} {pc : Nat} {ls : Array Slot} {rest : List Value} {G : gT} {a n : Nat} {T : List (Nat × va_E)} (S : CallFix p m c cc nL s args gTs own) (hK : va_K (gtD G) vwCl (gtys G) s) {j ci index N : Nat} {fs : List Value} {x : Nat × va_E} (M : nM G a s n (x :: (j, .inr (ci, fs)) :: T) H locs) {C : String} {TT : u_T} (hin : ∀ w ∈ u_ws C TT N, w ∈ gTs) (hc : vwCl[ci]? = some (C, TT, N)) (k : Nat) (hk : k < N) (hlink : Cond.fieldLink own index C (TT k).2.1 (TT k).2.2.1 ∈ gTs) (href : C = (TT k).1) {v : Value} (hv : fs[k]? = some v) (hdg : decode cc pc = .ok (.getfield index, 3))
    (kk : W p l e R s m args below meth c H locs cells slots Q (F0 m (pc + 3) ls (v :: rest))) : W p l e R s m args below meth c H locs cells slots Q (F0 m pc ls (.ref (G.1 j) :: rest)) := by
  obtain ⟨hx, hb, -, hown, hts⟩ := S
  have hP : va_P (gtD G) vwCl [(G.1 j, .inr (ci, fs))] H := fun i q hq => by
    match i, hq with
    | 0, hq => cases hq; exact (M.2.2.2.2.2.2.1 _ (List.mem_cons_of_mem _ List.mem_cons_self)).2.2.2
  exact va_get hx hb hts hin hown hK hP 0 rfl hc k hk (hts _ hlink) (fun x h => by rw [href]; exact h) hv hdg kk
theorem n_iast {p : Program} {l : Launch} {e : Env} {R : Room} {s : State} {m : MethodId} {args : Array Value} {below : List Frame} {meth : Method} {c : Code} {H : Heap} {locs : List Loc} {cells slots : Nat} {Q : State → Prop} {cc : ByteArray} {nL : Nat} {own : String} {pc : Nat} {ls : Array Slot} {rest : List Value} {G : gT} {b0 a n : Nat} {T : List (Nat × va_E)} (S : CallFix p m c cc nL s args gTs own) (hK : va_K (gtD G) vwCl (gtys G) s) (hG : nG b0 G) {j N : Nat} {f : Nat → Int32} (M : nM G a s n ((j, .inl (G.2.1 0, N, .inl f)) :: T) H locs) {i x : Int32} (hin : vp_in i N) {k : Nat} (hk : i.toNatClampNeg = k) (hdg : decode cc pc = .ok (.iastore, 1))
    (kk : ∀ (H1 : Heap) (locs1 : List Loc), nM G a s n ((j, .inl (G.2.1 0, N, .inl (upd f k x))) :: T) H1 locs1 → W p l e R s m args below meth c H1 locs1 cells slots Q (F0 m (pc + 1) ls rest)) : W p l e R s m args below meth c H locs cells slots Q (F0 m pc ls (.int x :: .int i :: .ref (G.1 j) :: rest)) := by
  subst hk
  refine W.iast S.1 S.2.1 (M.2.2.2.2.2.2.1 _ List.mem_cons_self).2.2.2 ((hK.2 0 _ rfl).1 N (fun j => .int (f j))) (fun q => by cases q) (by show ¬ (i < 0 ∨ (arrV _ _ _).slots.size ≤ _); rw [arrV_size]; exact hin) rfl rfl hdg fun H1 e z oq => ?_
  refine kk H1 _ (M.store hG z oq ?_)
  have e' : H1[G.1 j]? = some ((vp_cell (G.2.1 0) (N, .inl f)).setSlot i.toNatClampNeg (.int x)) := e
  show H1[G.1 j]? = some (vp_cell (G.2.1 0) (N, .inl (upd f i.toNatClampNeg x)))
  rw [e', vp_cell_i, vp_cell_i, arrV_store]
  congr 2
  funext q
  by_cases hq : q = i.toNatClampNeg
  · subst hq
    simp [updV, upd]
  · simp [updV, upd, hq]
theorem n_aast {p : Program} {l : Launch} {e : Env} {R : Room} {s : State} {m : MethodId} {args : Array Value} {below : List Frame} {meth : Method} {c : Code} {H : Heap} {locs : List Loc} {cells slots : Nat} {Q : State → Prop} {cc : ByteArray} {nL : Nat} {own : String} {pc : Nat} {ls : Array Slot} {rest : List Value} {G : gT} {b0 a n : Nat} {T : List (Nat × va_E)} (S : CallFix p m c cc nL s args gTs own) (hK : va_K (gtD G) vwCl (gtys G) s) (hG : nG b0 G) {j N t ci i' : Nat} {r : vw_C} {cA : ClassId} {f : Nat → Option Nat} {fs : List Value} (M : nM G a s n ((j, .inl (cA, N, .inr (.inr (.inr (.inr f))))) :: T) H locs) (ht : (gtys G)[t]? = some (cA, .object r.1)) (hv : va_at (gtD G) vwCl (G.1 i', .inr (ci, fs)) H) (hc : vwCl[ci]? = some r) {i : Int32} (hin : vp_in i N) {k : Nat} (hk : i.toNatClampNeg = k) (hdg : decode cc pc = .ok (.aastore, 1))
    (kk : ∀ (H1 : Heap) (locs1 : List Loc), nM G a s n ((j, .inl (cA, N, .inr (.inr (.inr (.inr (va_up f k (some (G.1 i')))))))) :: T) H1 locs1 → W p l e R s m args below meth c H1 locs1 cells slots Q (F0 m (pc + 1) ls rest)) : W p l e R s m args below meth c H locs cells slots Q (F0 m pc ls (.ref (G.1 i') :: .int i :: .ref (G.1 j) :: rest)) := by
  subst hk
  have hlt : i.toNatClampNeg < N := Nat.not_le.mp fun q => hin (Or.inr q)
  have h0 : ¬ i < 0 := fun q => hin (Or.inl q)
  obtain ⟨r', hr', cellV, g1, g2, g3, -⟩ := hv
  have hcls := (hK.1 ci r hc).2
  obtain ⟨kA, comp, k1, k2, k3, -⟩ := (hK.2 t _ ht).2
  have hcomp : comp = (gtD G).1 ci := Option.some.inj (k3.symm.trans hcls.1)
  subst hcomp
  obtain ⟨kC, hkC, -⟩ := hcls.2
  refine W.aast S.1 S.2.1 (M.2.2.2.2.2.2.1 _ List.mem_cons_self).2.2.2 (fun q h => by cases h) (fun h => by cases h) k1 k2 rfl hkC ⟨h0, by show _ < (arrV _ _ _).slots.size; rw [arrV_size]; exact hlt⟩ g1 (fun q h => by rw [g3] at h; cases h) (by rw [g2]; exact hkC) (by rw [g2]; exact va_assign hcls) rfl rfl hdg fun H1 e z oq => ?_
  refine kk H1 _ (M.store hG z oq ?_)
  show H1[G.1 j]? = some (vp_cell _ _)
  rw [e]
  rw [vp_cell_q, vp_cell_q, arrV_store]
  congr 2
  funext q
  by_cases hq : q = i.toNatClampNeg
  · subst hq
    simp [updV, va_up, va_rf]
  · simp [updV, va_up, hq]
/-! contracts of constructors -/
def nC (U : State) : Prop := (∀ w ∈ gTs, w.before #[] U = true) ∧ (∀ w ∈ gNs, va_Nw w U) ∧ va_AO RX3 U ∧ va_AO RX1 U
def nPc (G : gT) (j : Nat) (e : va_E) : Array Value → State → Prop := va_Pc [.ref (G.1 j)] (fun U => U.heap.size = G.1 j + 1 ∧ va_K (gtD G) vwCl (gtys G) U ∧ va_at (gtD G) vwCl (G.1 j, e) U.heap ∧ nC U)
def nQc (G : gT) (j n : Nat) : Array Value → State → Outcome → State → Prop := fun _ st o t => (o = .returned none ∧ t.heap.size = n ∧ ∀ i, i < 219 → G.1 j ≤ G.1 i → G.1 i < n → nF G i t.heap) ∧ va_F (fun q => G.1 j ≤ q) st t
def nCT (l : Launch) (y : MethodName) (cc : ByteArray) (maxL : Nat) (rm : Room) (mc ms : Nat) (G : gT) (j : Nat) (e : va_E) (n : Nat) : Prop := Met l y [.code y cc maxL none] rm (nPc G j e) (nQc G j n) mc ms (fun q => G.1 j ≤ q)
theorem nC.call {s U : State} (h : nC s) (hW : s.WarmedH U.vm) : nC U := by
  obtain ⟨h1, h2, h3, h4⟩ := h
  exact ⟨fun w hw => word_at hW (good_of_word (List.mem_filter.mp hw).2) (h1 w hw), fun w hw => g_warmN (List.all_eq_true.mp gNs_ok w hw) hW (h2 w hw), h3.moved hW.alike, h4.moved hW.alike⟩
theorem g_callN {w : Cond} {U : State} {g : JFrame} {mk : MethodId} {a : Array Value} (hw : gOkN w = true) (h : va_Nw w U) : va_Nw w (U.calling g mk a) := by
  cases w <;> first
    | exact va_tabs rfl (rfl : U.vm = (U.calling g mk a).vm) h
    | exact h
    | (simp [gOkN] at hw)
theorem nPc_blind {G : gT} {j : Nat} {e : va_E} : FrameBlind (nPc G j e) := by
  rintro a U g mk ⟨h1, h2, hK, h3, h4, h5, h6, h7⟩
  refine ⟨h1, h2, va_K.moved (u := U) (U := U.calling g mk a) (Vm.Alike.refl U.vm) hK, h3, fun w hw => ?_, fun w hw => ?_, va_AO.moved (u := U) (U := U.calling g mk a) (Vm.Alike.refl U.vm) h6, va_AO.moved (u := U) (U := U.calling g mk a) (Vm.Alike.refl U.vm) h7⟩
  · rcases good_of_word (List.mem_filter.mp hw).2 with hg | ⟨ty, rfl⟩
    · simp only [Bool.and_eq_true] at hg
      exact va_tabs hg.1 (rfl : U.vm = (U.calling g mk a).vm) (h4 w hw)
    · exact h4 _ hw
  · exact g_callN (List.all_eq_true.mp gNs_ok w hw) (h5 w hw)
theorem nCT_of {l : Launch} {y : MethodName} {cc : ByteArray} {maxL : Nat} {rm : Room} {mc ms : Nat} {G : gT} {j n : Nat} {e0 : va_E} {b0 : Nat} (hG : nG b0 G) (hj : j < 219) (hy : plainName y.cls = true) (hlen : 1 ≤ maxL)
    (body : ∀ (p : Program) (e : Env) (s : State) (m : MethodId) (args : Array Value) (below : List Frame) (meth : Method) (c : Code) (ls : Array Slot), CallFix p m c cc maxL s args gTs y.cls → meth.sig.returnType = none → meth.locks = false → meth.name = y.name → nC s → va_K (gtD G) vwCl (gtys G) s → lv_has ls maxL [(0, .ref (G.1 j))] → ∀ (H : Heap) (locs : List Loc), nM G (G.1 j) s (G.1 j + 1) [(j, e0)] H locs →
      W p l e rm s m args below meth c H locs 0 0 (MQ below (nQc G j n) args s mc ms (fun q => G.1 j ≤ q)) (F0 m 0 ls [])) : nCT l y cc maxL rm mc ms G j e0 n := by
  refine Met.ofW (cc := cc) (maxL := maxL) (ret := none) hy rfl ?_
  intro p e s m args below meth c s₁ B hml hv
  obtain ⟨rfl, hsz, hK, hE, hC⟩ := hv
  have hl := lv_entry [.ref (G.1 j)] (n := maxL) hlen
  rw [lg_entry_eq]
  refine body p e s m _ below meth c _ ⟨B.exec, B.bytes, hml, findClass_of_methodNamed B.named, fun w hw => g_at hw hC.1⟩ B.returns B.notSynchronized (name_of_methodNamed B.named B.method).1 hC hK hl _ _ ⟨hsz, by omega, by omega, fun q _ => rfl, (fun l hl => nomatch hl), fun i hi h1 h2 hx => ?_, fun x hx => ?_, ?_⟩
  · have hne := hx _ (List.mem_singleton.mpr rfl)
    exact absurd (nG_inj hG hj hi (by omega)) hne
  · cases List.mem_singleton.mp hx
    exact ⟨hj, Nat.le_refl _, Nat.lt_succ_self _, hE⟩
  · simp
theorem n_initN {p : Program} {l : Launch} {e : Env} {R : Room} {s : State} {m : MethodId} {args : Array Value} {below : List Frame} {meth : Method} {c : Code} {H : Heap} {locs : List Loc} {cells slots : Nat} {Q : State → Prop} {cc : ByteArray} {nL : Nat} {own : String} {pc : Nat} {ls : Array Slot} {rest : List Value} {G : gT} {b0 a n : Nat} {T : List (Nat × va_E)} {host : String} {index maxL j n1 : Nat} {y : MethodName} {bytes : ByteArray} {rm : Room} {e0 : va_E} {lv : List (Nat × Value)} (S : CallFix p m c cc nL s args gTs own) (hC : nC s) (hK : va_K (gtD G) vwCl (gtys G) s) (hG : nG b0 G) (hl : lv_has ls nL lv) (M : nM G a s n ((j, e0) :: T) H locs) (hM : nCT l y bytes maxL rm rm.cells rm.slots G j e0 n1) (hn : G.1 j + 1 = n) (hk : gMV y bytes maxL none 0) (hin : Cond.instanceMethod y ∈ gTs) (hlink : Cond.methodLinkNest own index y host ∈ gNs) (hnm : y.name = "<init>") (hW : Nat.ble (0 + (rest.map fun v => v.category).sum) 8 = true) (hR : gRm R rm cells slots maxL = true) {cells' slots' : Nat} (e1' : cells + rm.cells = cells') (e2' : slots + rm.slots = slots') (hdg : decode cc pc = .ok (.invokespecial index, 3))
    (kk : ∀ (H1 : Heap) (locs1 : List Loc), nM G a s n1 T H1 locs1 → W p l e R s m args below meth c H1 locs1 cells' slots' Q (F0 m (pc + 3) ls rest)) : W p l e R s m args below meth c H locs cells slots Q (F0 m pc ls (.ref (G.1 j) :: rest)) := by
  subst e1'; subst e2'
  obtain ⟨k1, k2, k3⟩ := hk
  obtain ⟨r1, r2⟩ := gRm_of hR
  have hts := S.2.2.2.2
  have hr := va_runIN (H := H) (locs := locs) (below := below) (meth := meth) (cells := cells) (slots := slots) (g := F0 m pc ls (.ref (G.1 j) :: rest)) (e := e) (As := []) (rest := rest) (b := G.1 j) S hM ⟨va_cnB 0 hts (gGood k1) rfl rfl rfl (hC.2.1 _ hlink) (hts _ k2) k3 r1, hnm, hts _ hin⟩ ⟨nPc_blind, fun U hU hW => ⟨rfl, by rw [hU, M.1]; exact hn.symm, hK.moved hW.alike, by rw [hU]; exact (M.2.2.2.2.2.2.1 _ List.mem_cons_self).2.2.2, hC.call hW⟩⟩ rfl rfl hl.1 rfl (Nat.le_of_ble_eq_true hW) hdg r2
  intro T1 hT X
  obtain ⟨v, st₀, t, T2, L, h0, X', hL, e1, e2, ⟨⟨ho, hz, hall⟩, hF⟩, st⟩ := hr T1 hT X
  cases ho
  obtain ⟨t2, a1, b1⟩ := kk T2.heap (locs ++ L) (by rw [e1]; exact M.call hG hn hz (by rw [← h0]; exact hF.1) (fun q h1 h2 => (hF.2 q (by rw [h0]; exact h1) h2).trans (by rw [h0])) hL hall) T2 rfl X'
  exact ⟨t2, st t2 a1, b1⟩
theorem n_initS {p : Program} {l : Launch} {e : Env} {R : Room} {s : State} {m : MethodId} {args : Array Value} {below : List Frame} {meth : Method} {c : Code} {H : Heap} {locs : List Loc} {cells slots : Nat} {Q : State → Prop} {cc : ByteArray} {nL : Nat} {own : String} {pc : Nat} {ls : Array Slot} {rest : List Value} {G : gT} {b0 a n : Nat} {T : List (Nat × va_E)} {index maxL j n1 : Nat} {y : MethodName} {bytes : ByteArray} {rm : Room} {e0 : va_E} {lv : List (Nat × Value)} (S : CallFix p m c cc nL s args gTs own) (hC : nC s) (hK : va_K (gtD G) vwCl (gtys G) s) (hG : nG b0 G) (hl : lv_has ls nL lv) (M : nM G a s n ((j, e0) :: T) H locs) (hM : nCT l y bytes maxL rm rm.cells rm.slots G j e0 n1) (hn : G.1 j + 1 = n) (hk : gMV y bytes maxL none 0) (hin : Cond.instanceMethod y ∈ gTs) (hlink : Cond.methodLink own index y ∈ gTs) (hnm : y.name = "<init>") (hW : Nat.ble (0 + (rest.map fun v => v.category).sum) 8 = true) (hR : gRm R rm cells slots maxL = true) {cells' slots' : Nat} (e1' : cells + rm.cells = cells') (e2' : slots + rm.slots = slots') (hdg : decode cc pc = .ok (.invokespecial index, 3))
    (kk : ∀ (H1 : Heap) (locs1 : List Loc), nM G a s n1 T H1 locs1 → W p l e R s m args below meth c H1 locs1 cells' slots' Q (F0 m (pc + 3) ls rest)) : W p l e R s m args below meth c H locs cells slots Q (F0 m pc ls (.ref (G.1 j) :: rest)) := by
  subst e1'; subst e2'
  obtain ⟨k1, k2, k3⟩ := hk
  obtain ⟨r1, r2⟩ := gRm_of hR
  have hts := S.2.2.2.2
  have hr := va_runI (H := H) (locs := locs) (below := below) (meth := meth) (cells := cells) (slots := slots) (g := F0 m pc ls (.ref (G.1 j) :: rest)) (e := e) (As := []) (rest := rest) (b := G.1 j) S hM ⟨callB_of 0 hts (gGood k1) rfl rfl rfl (hts _ k2) (hts _ hlink) k3 r1, hnm, hts _ hin⟩ ⟨nPc_blind, fun U hU hW => ⟨rfl, by rw [hU, M.1]; exact hn.symm, hK.moved hW.alike, by rw [hU]; exact (M.2.2.2.2.2.2.1 _ List.mem_cons_self).2.2.2, hC.call hW⟩⟩ rfl rfl hl.1 rfl (Nat.le_of_ble_eq_true hW) hdg r2
  intro T1 hT X
  obtain ⟨v, st₀, t, T2, L, h0, X', hL, e1, e2, ⟨⟨ho, hz, hall⟩, hF⟩, st⟩ := hr T1 hT X
  cases ho
  obtain ⟨t2, a1, b1⟩ := kk T2.heap (locs ++ L) (by rw [e1]; exact M.call hG hn hz (by rw [← h0]; exact hF.1) (fun q h1 h2 => (hF.2 q (by rw [h0]; exact h1) h2).trans (by rw [h0])) hL hall) T2 rfl X'
  exact ⟨t2, st t2 a1, b1⟩
theorem n_obj {p : Program} {l : Launch} {e : Env} {R : Room} {s : State} {m : MethodId} {args : Array Value} {below : List Frame} {meth : Method} {c : Code} {H : Heap} {locs : List Loc} {cells slots : Nat} {Q : State → Prop} {cc : ByteArray} {nL : Nat} {own : String} {pc : Nat} {ls : Array Slot} {lv : List (Nat × Value)} {idx : Nat} {x : Nat} (S : CallFix p m c cc nL s args gTs own) (hl : lv_has ls nL lv) (hlink : Cond.methodLink own idx objectInit ∈ gTs) (hin : Cond.instanceMethod objectInit ∈ gTs) (hcode : Cond.code objectInit ⟨#[0xb1]⟩ 1 none ∈ gTs) (hf : Nat.ble 1 R.frames = true) (hL : Nat.ble 12 R.locals = true) (hdg : decode cc pc = .ok (.invokespecial idx, 3))
    (kk : W p l e R s m args below meth c H locs cells slots Q (F0 m (pc + 3) ls [])) : W p l e R s m args below meth c H locs cells slots Q (F0 m pc ls [.ref x]) := by
  have hts := S.2.2.2.2
  exact W.objInit S.1 S.2.1 S.2.2.2.1 (hts _ hlink) (hts _ hin) (hts _ hcode) rfl (hl.1.trans S.2.2.1.symm) rfl hdg (Nat.le_of_ble_eq_true hf) (Nat.le_of_ble_eq_true hL) kk
theorem n_ret {p : Program} {l : Launch} {e : Env} {R : Room} {s : State} {m : MethodId} {args : Array Value} {below : List Frame} {meth : Method} {c : Code} {H : Heap} {locs : List Loc} {cells slots : Nat} {cc : ByteArray} {nL : Nat} {own : String} {pc : Nat} {ls : Array Slot} {G : gT} {j n1 mc ms : Nat} (S : CallFix p m c cc nL s args gTs own) (hr : meth.sig.returnType = none) (hlk : meth.locks = false) (M : nM G (G.1 j) s n1 [] H locs) (hc : cells ≤ mc) (hs : slots ≤ ms) (hdg : decode cc pc = .ok (.return_, 1)) : W p l e R s m args below meth c H locs cells slots (MQ below (nQc G j n1) args s mc ms (fun q => G.1 j ≤ q)) (F0 m pc ls []) := by
  obtain ⟨h1, h2, h3, h4, h5, h6, h7, h8⟩ := M
  exact W.widen hc hs ((W.vret S.1 S.2.1 hr (fun t ht hW => ⟨⟨rfl, by rw [ht]; exact h1, fun i hi ha hlt => by rw [ht]; exact h6 i hi ha hlt (fun x hx => nomatch hx)⟩, by rw [ht, h1]; exact h3, fun q hq hn => by rw [ht]; exact h4 q (by omega)⟩) h5 hdg hlk))
theorem nG_ds {b0 : Nat} {G : gT} (hG : nG b0 G) {k j : Nat} (hk : k < 11) (hj : j < 18) : G.1 (1 + 18 * k + j) = G.1 (1 + 18 * k) + j := by
  rw [hG _ (by omega), hG _ (by omega)]
  unfold gpi
  split <;> split <;> (try split) <;> (try split) <;> (try split) <;> (try split) <;> omega
theorem nG_c {b0 : Nat} {G : gT} (hG : nG b0 G) (i : Nat) (hi : i < 219) : G.1 i = b0 + gpi i := hG i hi
