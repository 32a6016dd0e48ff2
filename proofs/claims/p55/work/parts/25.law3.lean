/-! THE LAW: several depots side by side. B: all of a bundle but the addresses; Ds: addresses and memory of each depot -/
abbrev gB : Type := (Nat → ClassId) × va_G × (Nat → Nat) × (Nat → Nat) × (Nat → Nat) × (Nat → Nat) × (Nat → Int32) × List (Nat × Nat × List Int32)
def lz (B : gB) : gT := (fun _ => 0, B)
abbrev lDs : Type := List ((Nat → Nat) × gM)
def lA (Ds : lDs) (n : Nat) : Nat → Prop := fun q => (∃ (a : Nat) (D : (Nat → Nat) × gM), Ds[a]? = some D ∧ ∃ i : Nat, i < 219 ∧ q = D.1 i) ∨ n ≤ q
/-- constants of the heap -/
def lCh (B : gB) (A : Nat → Prop) (s : State) (H : Heap) : Prop :=
  va_T .int (gtX (lz B) 2) (gtX (lz B) 3) (fun j => .int (gtI (lz B) j)) A s H ∧ (∀ x ∈ gtS (lz B), vk_S 1 [x.2.2.length] [x.2.2] (fun _ => x.1) (fun _ => x.2.1) A s H) ∧ (∀ k, 16 ≤ k → k < 34 → vk_S 1 [gLen.getD k 0] [gByt.getD k []] (fun _ => gtK (lz B) k) (fun _ => gtV (lz B) k) A s H) ∧ gKS (lz B) A s H
theorem lCh.kept {B : gB} {A : Nat → Prop} {s : State} {H H1 : Heap} (h : lCh B A s H) (hq : ∀ a : Nat, a < H.size → ¬ A a → H1[a]? = H[a]?) : lCh B A s H1 := ⟨h.1.kept hq, fun x hx => (h.2.1 x hx).kept hq, fun k h1 h2 => (h.2.2.1 k h1 h2).kept hq, h.2.2.2.kept hq⟩
theorem lCh.narrow {B : gB} {A A' : Nat → Prop} {s : State} {H : Heap} (h : lCh B A s H) (hq : ∀ q, A' q → A q) : lCh B A' s H := ⟨h.1.narrow hq, fun x hx => (h.2.1 x hx).narrow hq, fun k h1 h2 => (h.2.2.1 k h1 h2).narrow hq, h.2.2.2.narrow hq⟩
/-- what the tables say -/
def lCs (B : gB) (s : State) : Prop := (∀ w ∈ gTs, w.before #[] s = true) ∧ (∀ w ∈ gNs, va_Nw w s) ∧ (∀ i, i < 34 → vk_R (gTx.getD i ("", 0, "")).1 (gTx.getD i ("", 0, "")).2.1 (gTx.getD i ("", 0, "")).2.2 (gtK (lz B) i) s) ∧ (∀ q ∈ gNc, va_Nc q.1 q.2 s) ∧ nC s
def lM (B : gB) (Ds : lDs) (s : State) (H : Heap) (locs : List Loc) : Prop :=
  va_K (gtD (lz B)) vwCl (gtys (lz B)) s ∧
  (∀ (a : Nat) (D : (Nat → Nat) × gM), Ds[a]? = some D → va_P (gtD (lz B)) vwCl (gWS (D.1, B) 0 0 D.2) H ∧ (∀ i j : Nat, i < 219 → j < 219 → D.1 i = D.1 j → i = j) ∧ ∀ i : Nat, i < 219 → s.heap.size ≤ D.1 i) ∧
  (∀ (a b : Nat) (D E : (Nat → Nat) × gM), Ds[a]? = some D → Ds[b]? = some E → a ≠ b → ∀ i j : Nat, i < 219 → j < 219 → D.1 i ≠ E.1 j) ∧
  lCh B (lA Ds H.size) s H ∧ va_S (fun q => s.heap.size ≤ q) s.heap H locs
theorem l_ix {G : gT} {lo : Int64} {dd : UInt64} {σ : gM} {k : Nat} {q : Nat × va_E} (h : (gWS G lo dd σ)[k]? = some q) : k < 219 ∧ q = (G.1 k, gent G k lo dd (σ k) (gkd k)) := by
  have hk : k < 219 := by
    have := (List.getElem?_eq_some_iff.mp h).1
    rw [gWS, List.length_map, List.length_range] at this
    exact this
  rw [gWS_at G lo dd σ hk] at h
  exact ⟨hk, (Option.some.inj h).symm⟩
theorem lM_lt {B : gB} {Ds : lDs} {s : State} {H : Heap} {locs : List Loc} (M : lM B Ds s H locs) {a : Nat} {D : (Nat → Nat) × gM} (h : Ds[a]? = some D) {i : Nat} (hi : i < 219) : D.1 i < H.size :=
  ((M.2.1 a D h).1 i _ (gWS_at (D.1, B) 0 0 D.2 hi)).lt
theorem l_D {B : gB} {Ds : lDs} {s : State} {H : Heap} {locs : List Loc} (M : lM B Ds s H locs) {a : Nat} {ad : Nat → Nat} {σ : gM} (h : Ds[a]? = some (ad, σ)) (σ' : gM) (n : Nat) : va_D (gAA (ad, B) n) (gWS (ad, B) 0 0 σ') := by
  refine ⟨fun i j p q hp hq e => ?_, fun k q hq => ?_⟩
  · obtain ⟨hi, rfl⟩ := l_ix hp
    obtain ⟨hj, rfl⟩ := l_ix hq
    exact (M.2.1 a _ h).2.1 i j hi hj e
  · obtain ⟨hk, rfl⟩ := l_ix hq
    exact Or.inl ⟨k, hk, rfl⟩
theorem l_cst {B : gB} {A A' : Nat → Prop} {s U : State} {H : Heap} (ad : Nat → Nat) (Cs : lCs B s) (C : lCh B A s H) (hA : ∀ q, A' q → A q) (hU : U.heap = H) (hW : s.WarmedH U.vm) : gCST (ad, B) A' U := by
  obtain ⟨h1, h2, h3, h4, -⟩ := Cs
  obtain ⟨c1, c2, c3, c4⟩ := C
  refine ⟨fun w hw => word_at hW (good_of_word (List.mem_filter.mp hw).2) (h1 w hw), fun w hw => g_warmN (List.all_eq_true.mp gNs_ok w hw) hW (h2 w hw), fun i hi => (h3 i hi).warm hW, ⟨fun q hq => (h4 q hq).moved hW.alike, ?_, fun x hx => ?_, fun k k1 k2 => ?_⟩, ?_⟩
  · rw [hU]; exact (va_T.moved hW.alike c1).narrow hA
  · rw [hU]; exact (vk_S.moved hW.alike (c2 x hx)).narrow hA
  · rw [hU]; exact (vk_S.moved hW.alike (c3 k k1 k2)).narrow hA
  · rw [hU]; exact (c4.moved hW.alike).narrow hA
theorem l_AA {B : gB} {Ds : lDs} {n a : Nat} {ad : Nat → Nat} {σ : gM} (h : Ds[a]? = some (ad, σ)) : ∀ q, gAA (ad, B) n q → lA Ds n q := by
  rintro q (⟨i, hi, e⟩ | h1)
  · exact Or.inl ⟨a, _, h, i, hi, e⟩
  · exact Or.inr h1
theorem l_pre {B : gB} {Ds : lDs} {s : State} {H : Heap} {locs : List Loc} {As : List Value} {a : Nat} {ad : Nat → Nat} {σ : gM} (M : lM B Ds s H locs) (Cs : lCs B s) (h : Ds[a]? = some (ad, σ)) : FrameBlind (gPc (ad, B) H.size As 0 0 σ) ∧ ∀ U : State, U.heap = H → s.WarmedH U.vm → gPc (ad, B) H.size As 0 0 σ As.toArray U :=
  ⟨gPc_blind, fun U hU hW => ⟨rfl, by rw [hU], ⟨M.1.moved hW.alike, by rw [hU]; exact (M.2.1 a _ h).1, l_D M h σ _⟩, l_cst ad Cs M.2.2.2.1 (l_AA h) hU hW⟩⟩
theorem l_getset {Ds : lDs} {k a : Nat} {ad : Nat → Nat} {σ σ' : gM} {D : (Nat → Nat) × gM} (h : Ds[k]? = some (ad, σ)) (ha : (Ds.set k (ad, σ'))[a]? = some D) : (a = k ∧ D = (ad, σ')) ∨ (a ≠ k ∧ Ds[a]? = some D) := by
  have hk : k < Ds.length := (List.getElem?_eq_some_iff.mp h).1
  rw [List.getElem?_set] at ha
  by_cases e : k = a
  · rw [if_pos e, if_pos (by omega)] at ha
    exact Or.inl ⟨e.symm, (Option.some.inj ha).symm⟩
  · rw [if_neg e] at ha
    exact Or.inr ⟨fun z => e z.symm, ha⟩
theorem l_A_set {Ds : lDs} {k n : Nat} {ad : Nat → Nat} {σ σ' : gM} (h : Ds[k]? = some (ad, σ)) {q : Nat} (hq : lA (Ds.set k (ad, σ')) n q) : lA Ds n q := by
  rcases hq with ⟨a, D, ha, i, hi, e⟩ | hq
  · rcases l_getset h ha with ⟨rfl, rfl⟩ | ⟨hne, ha⟩
    · exact Or.inl ⟨_, _, h, i, hi, e⟩
    · exact Or.inl ⟨_, _, ha, i, hi, e⟩
  · exact Or.inr hq
theorem l_after {B : gB} {Ds : lDs} {s : State} {H H1 : Heap} {locs L : List Loc} {k : Nat} {ad : Nat → Nat} {σ σ' : gM} (M : lM B Ds s H locs) (h : Ds[k]? = some (ad, σ)) (hP : va_P (gtD (lz B)) vwCl (gWS (ad, B) 0 0 σ') H1) (hz : H.size ≤ H1.size) (hk : ∀ q, q < H.size → ¬ gAA (ad, B) H.size q → H1[q]? = H[q]?) (hL : ∀ w ∈ L, gAA (ad, B) H.size w.base) : lM B (Ds.set k (ad, σ')) s H1 (locs ++ L) := by
  have M0 := M
  obtain ⟨hK, hD, hJ, hC, hS⟩ := M
  refine ⟨hK, fun a D ha => ?_, fun a b D E ha hb hn i j hi hj => ?_, ?_, ?_⟩
  · rcases l_getset h ha with ⟨rfl, rfl⟩ | ⟨hne, ha⟩
    · exact ⟨hP, (hD _ _ h).2⟩
    · refine ⟨(hD a D ha).1.kept (fun i q hq => hk q.1 ((hD a D ha).1 i q hq).lt (fun z => ?_)), (hD a D ha).2⟩
      have hlt := ((hD a D ha).1 i q hq).lt
      obtain ⟨hi, rfl⟩ := l_ix hq
      rcases z with ⟨j, hj, e⟩ | z
      · exact hJ a k D _ ha h hne i j hi hj e
      · omega
  · rcases l_getset h ha with ⟨a1, a2⟩ | ⟨hna, ha'⟩ <;> rcases l_getset h hb with ⟨b1, b2⟩ | ⟨hnb, hb'⟩
    · exact absurd (a1.trans b1.symm) hn
    · subst a2; rw [a1] at hn; exact hJ k b _ E h hb' hn i j hi hj
    · subst b2; rw [b1] at hn; exact hJ a k D _ ha' h hn i j hi hj
    · exact hJ a b D E ha' hb' hn i j hi hj
  · refine (hC.kept (fun q h1 h2 => hk q h1 (fun z => h2 (l_AA h q z)))).narrow (fun q hq => ?_)
    rcases l_A_set h hq with h1 | h1
    · exact Or.inl h1
    · exact Or.inr (by omega)
  · refine ⟨Nat.le_trans hS.1 hz, fun q h1 h2 => ?_, fun w hw => ?_⟩
    · rw [hk q (Nat.lt_of_lt_of_le h1 hS.1) (fun z => ?_)]
      · exact hS.2.1 q h1 h2
      · rcases z with ⟨i, hi, e⟩ | z
        · have t1 : s.heap.size ≤ ad i := (hD k _ h).2.2 i hi
          have t2 : q = ad i := e
          exact h2 (by show s.heap.size ≤ q; rw [t2]; exact t1)
        · have := hS.1
          omega
    · rcases List.mem_append.mp hw with h1 | h1
      · exact hS.2.2 w h1
      · rcases hL w h1 with ⟨i, hi, e⟩ | z
        · have t1 : s.heap.size ≤ ad i := (hD k _ h).2.2 i hi
          have t2 : w.base = ad i := e
          show s.heap.size ≤ w.base
          rw [t2]; exact t1
        · exact Nat.le_trans hS.1 z
section LROWS
variable {p : Program} {l : Launch} {e : Env} {R : Room} {s : State} {m : MethodId} {args : Array Value} {below : List Frame} {meth : Method} {c : Code} {H : Heap} {locs : List Loc} {cells slots : Nat} {Q : State → Prop}
variable {cc : ByteArray} {nL : Nat} {own : String} {pc : Nat} {ls : Array Slot} {rest As : List Value} {B : gB} {Ds : lDs} {lv : List (Nat × Value)}
variable {y : MethodName} {bytes : ByteArray} {maxL n mc ms index k : Nat} {ret : Option FieldType} {rm : Room} {out : gO} {ad : Nat → Nat} {σ σ' : gM}
/-- behind a call on one of them that has returned -/
theorem l_runR {v : Option Value} {st0 st1 : List Value} {a : Array Value} (M : lM B Ds s H locs) (h : Ds[k]? = some (ad, σ)) (hr : vx_Run p l e R s m args below meth c H locs cells slots mc ms (F0 m pc ls st0) rest (gQc (ad, B) H.size (.inl (v, σ', 0, 0)) a) (gXC (ad, B) H.size (.inl (v, σ', 0, 0))) (gAA (ad, B) H.size)) {cells' slots' : Nat} (hst : v.toList ++ rest = st1) (hc : cells + mc = cells') (hs : slots + ms = slots') {Ds' : lDs} (hDs : Ds.set k (ad, σ') = Ds')
    (kk : ∀ (H : Heap) (locs : List Loc), lM B Ds' s H locs → W p l e R s m args below meth c H locs cells' slots' Q (F0 m (pc + 3) ls st1)) : W p l e R s m args below meth c H locs cells slots Q (F0 m pc ls st0) := by
  subst hst; subst hc; subst hs; subst hDs
  intro T hT X
  rcases hr T hT X with ⟨v1, st₀, t, T', L, h0, X', hL, e1, e2, ⟨⟨v2, σ2, lo2, dd2, ho, hv, hK, hP, hD⟩, hz, hk⟩, st⟩ | ⟨q, st₀, t, T', L, E, ce, h0, X', hL, e1, e2, ⟨⟨σ2, lo2, dd2, ho, -⟩, -⟩, -⟩
  · cases ho
    cases hv
    rw [h0] at hz hk
    have hM : lM B (Ds.set k (ad, σ')) s T'.heap (locs ++ L) := l_after M h (by rw [e1]; exact hP) (by rw [e1]; exact hz) (fun q h1 h2 => by rw [e1]; exact hk q h1 h2) hL
    obtain ⟨t2, a1, b1⟩ := kk T'.heap (locs ++ L) hM T' rfl X'
    exact ⟨t2, st t2 a1, b1⟩
  · cases ho
theorem l_invV {q : vw_C} (S : CallFix p m c cc nL s args gTs own) (M : lM B Ds s H locs) (Cs : lCs B s) (h : Ds[k]? = some (ad, σ)) (hl : lv_has ls nL lv) (hM : gCT l y bytes maxL ret rm rm.cells rm.slots (ad, B) H.size (.ref (ad 0) :: As) 0 0 σ out) (hk : gMV y bytes maxL ret n) (hin : Cond.instanceMethod y ∈ gTs) (hsel : Cond.selects y.cls y y ∈ gTs) (hlink : Cond.methodLink own index y ∈ gTs)
    (hcl : vwCl[13]? = some q) (hq : q.1 = y.cls) (hn : As.length = n) {st0 : List Value} (hst : st0 = As.reverse ++ .ref (ad 0) :: rest) (hW : Nat.ble (0 + (rest.map fun v => v.category).sum) 8 = true) (hR : gRm R rm cells slots maxL = true) (hdg : decode cc pc = .ok (.invokevirtual index, 3)) :
    vx_Run p l e R s m args below meth c H locs cells slots rm.cells rm.slots (F0 m pc ls st0) rest (gQc (ad, B) H.size out (Value.ref (ad 0) :: As).toArray) (gXC (ad, B) H.size out) (gAA (ad, B) H.size) := by
  obtain ⟨k1, k2, k3⟩ := hk
  obtain ⟨r1, r2⟩ := gRm_of hR
  have hts := S.2.2.2.2
  have hrec : ∃ cell : Cell, H[ad 0]? = some cell ∧ cell.vm.isStatics = false ∧ s.vm.findClass q.1 = some cell.cls := va_recv M.1 (M.2.1 k _ h).1 hcl (q0 := 0) (by rw [gWS_at (ad, B) 0 0 σ (by decide), ge_0 rfl])
  exact vx_runV S hM ⟨callB_of n hts (gGood k1) rfl rfl rfl (hts _ k2) (hts _ hlink) k3 r1, hts _ hin, hts _ hsel⟩ ⟨(l_pre M Cs h).1, by rw [← hq]; exact hrec, (l_pre M Cs h).2⟩ rfl hn hl.1 hst (Nat.le_of_ble_eq_true hW) hdg r2
theorem l_invS (S : CallFix p m c cc nL s args gTs own) (M : lM B Ds s H locs) (Cs : lCs B s) (h : Ds[k]? = some (ad, σ)) (hl : lv_has ls nL lv) (hM : gCT l y bytes maxL ret rm rm.cells rm.slots (ad, B) H.size As 0 0 σ out) (hk : gMV y bytes maxL ret n) (hst1 : Cond.static y ∈ gTs) (hlink : Cond.methodLink own index y ∈ gTs)
    (hn : As.length = n) {st0 : List Value} (hst : st0 = As.reverse ++ rest) (hW : Nat.ble (0 + (rest.map fun v => v.category).sum) 8 = true) (hR : gRm R rm cells slots maxL = true) (hdg : decode cc pc = .ok (.invokestatic index, 3)) :
    vx_Run p l e R s m args below meth c H locs cells slots rm.cells rm.slots (F0 m pc ls st0) rest (gQc (ad, B) H.size out As.toArray) (gXC (ad, B) H.size out) (gAA (ad, B) H.size) := by
  obtain ⟨k1, k2, k3⟩ := hk
  obtain ⟨r1, r2⟩ := gRm_of hR
  have hts := S.2.2.2.2
  exact vx_runS S hM ⟨callB_of n hts (gGood k1) rfl rfl rfl (hts _ k2) (hts _ hlink) k3 r1, hts _ hst1⟩ (l_pre M Cs h) rfl hn hl.1 hst (Nat.le_of_ble_eq_true hW) hdg r2
theorem l_invW {hh : List (Nat × Nat × Nat × Nat)} (S : CallFix p m c cc nL s args gTs own) (M : lM B Ds s H locs) (Cs : lCs B s) (h : Ds[k]? = some (ad, σ)) (hl : lv_has ls nL lv) (hM : gCW l y bytes maxL ret hh rm rm.cells rm.slots (ad, B) H.size As 0 0 σ out) (hk : gMW y bytes maxL ret hh n) (hst1 : Cond.static y ∈ gTs) (hlink : Cond.methodLink own index y ∈ gTs)
    (hn : As.length = n) {st0 : List Value} (hst : st0 = As.reverse ++ rest) (hW : Nat.ble (0 + (rest.map fun v => v.category).sum) 8 = true) (hR : gRm R rm cells slots maxL = true) (hdg : decode cc pc = .ok (.invokestatic index, 3)) :
    vx_Run p l e R s m args below meth c H locs cells slots rm.cells rm.slots (F0 m pc ls st0) rest (gQc (ad, B) H.size out As.toArray) (gXC (ad, B) H.size out) (gAA (ad, B) H.size) := by
  obtain ⟨k1, k2, k3⟩ := hk
  obtain ⟨r1, r2⟩ := gRm_of hR
  have hts := S.2.2.2.2
  refine vx_runSX S hM ⟨⟨rfl, rfl, r1.1, r1.2, fun w hw a' U hW => ?_, List.mem_singleton.mpr rfl⟩, hts _ k1, hts _ k2, ⟨k3.1, k3.2.1⟩, fun sig h => ?_, hts _ hlink, hts _ hst1⟩ (l_pre M Cs h) rfl hn hl.1 hst (Nat.le_of_ble_eq_true hW) hdg r2
  · cases List.mem_singleton.mp hw
    exact word_at hW (good_of_word (List.mem_filter.mp k1).2) (hts _ k1)
  · have h2 := k3.2.2
    rw [h] at h2
    exact (Option.some.inj h2).symm
/-- one more depot, behind the old heap -/
theorem l_more {H1 : Heap} {L : List Loc} (M : lM B Ds s H locs) (had : ∀ i, i < 219 → ad i = H.size + gpi i) (hP : va_P (gtD (lz B)) vwCl (gWS (ad, B) 0 0 σ) H1) (hz : H.size ≤ H1.size) (hk : ∀ q, q < H.size → H1[q]? = H[q]?) (hL : ∀ w ∈ L, H.size ≤ w.base) : lM B (Ds ++ [(ad, σ)]) s H1 (locs ++ L) := by
  have M0 := M
  obtain ⟨hK, hD, hJ, hC, hS⟩ := M
  have hnG : nG H.size (ad, B) := had
  have hge : ∀ i, i < 219 → H.size ≤ ad i := fun i hi => by rw [had i hi]; exact Nat.le_add_right _ _
  have hg : ∀ {a : Nat} {D : (Nat → Nat) × gM}, (Ds ++ [(ad, σ)])[a]? = some D → (Ds[a]? = some D ∧ a < Ds.length) ∨ (a = Ds.length ∧ D = (ad, σ)) := by
    intro a D ha
    rw [List.getElem?_append] at ha
    by_cases hlt : a < Ds.length
    · rw [if_pos hlt] at ha
      exact Or.inl ⟨ha, hlt⟩
    · rw [if_neg hlt] at ha
      have h0 : a - Ds.length = 0 := by
        have := (List.getElem?_eq_some_iff.mp ha).1
        simp at this
        omega
      rw [h0] at ha
      exact Or.inr ⟨by omega, (Option.some.inj ha).symm⟩
  refine ⟨hK, fun a D ha => ?_, fun a b D E ha hb hn i j hi hj => ?_, ?_, ?_⟩
  · rcases hg ha with ⟨ha, -⟩ | ⟨rfl, rfl⟩
    · exact ⟨(hD a D ha).1.kept (fun i q hq => hk q.1 ((hD a D ha).1 i q hq).lt), (hD a D ha).2⟩
    · exact ⟨hP, fun i j hi hj e => nG_inj hnG hi hj e, fun i hi => Nat.le_trans hS.1 (hge i hi)⟩
  · rcases hg ha with ⟨ha, -⟩ | ⟨rfl, rfl⟩ <;> rcases hg hb with ⟨hb, -⟩ | ⟨rfl, rfl⟩
    · exact hJ a b D E ha hb hn i j hi hj
    · have h1 := lM_lt M0 ha hi
      have h2 := hge j hj
      show D.1 i ≠ ad j
      omega
    · have h1 := lM_lt M0 hb hj
      have h2 := hge i hi
      show ad i ≠ E.1 j
      omega
    · exact absurd rfl hn
  · refine (hC.kept (fun q h1 _ => hk q h1)).narrow (fun q hq => ?_)
    rcases hq with ⟨a, D, ha, i, hi, e⟩ | hq
    · rcases hg ha with ⟨ha, -⟩ | ⟨rfl, rfl⟩
      · exact Or.inl ⟨a, D, ha, i, hi, e⟩
      · exact Or.inr (by rw [e]; exact hge i hi)
    · exact Or.inr (Nat.le_trans hz hq)
  · refine ⟨Nat.le_trans hS.1 hz, fun q h1 h2 => ?_, fun w hw => ?_⟩
    · rw [hk q (Nat.lt_of_lt_of_le h1 hS.1)]
      exact hS.2.1 q h1 h2
    · rcases List.mem_append.mp hw with h1 | h1
      · exact hS.2.2 w h1
      · exact Nat.le_trans hS.1 (hL w h1)
/-- build -/
theorem l_build {o : gM} {st0 : List Value} (hfl : l.stackTraces = false) (S : CallFix p m c cc nL s args gTs own) (M : lM B Ds s H locs) (Cs : lCs B s) (hl : lv_has ls nL lv) (hf : f_L_build (gtX (lz B) 3) (gtI (lz B)) = some o) (hst1 : Cond.static yL_build ∈ gTs) (hlink : Cond.methodLink own index yL_build ∈ gTs)
    (hst : st0 = .ref (gtX (lz B) 2) :: rest) (hW : Nat.ble (0 + (rest.map fun v => v.category).sum) 8 = true) (hR : gRm R { frames := 11, cells := 627, slots := 4821, locals := 193 } cells slots 6 = true) (hdg : decode cc pc = .ok (.invokestatic index, 3)) {cells' slots' : Nat} (hc : cells + 627 = cells') (hs : slots + 4821 = slots')
    (kk : ∀ (ad : Nat → Nat) (H : Heap) (locs : List Loc), lM B (Ds ++ [(ad, o)]) s H locs → W p l e R s m args below meth c H locs cells' slots' Q (F0 m (pc + 3) ls (.ref (ad 0) :: rest))) : W p l e R s m args below meth c H locs cells slots Q (F0 m pc ls st0) := by
  subst hc; subst hs
  obtain ⟨k1, k2, k3⟩ := k_L_build
  obtain ⟨r1, r2⟩ := gRm_of hR
  have hts := S.2.2.2.2
  have hAA : ∀ q, gAA ((fun i => H.size + gpi i), B) H.size q → H.size ≤ q := by
    rintro q (⟨i, hi, e⟩ | h1)
    · rw [e]; exact Nat.le_add_right _ _
    · exact h1
  have hpre : FrameBlind (gPb ((fun i => H.size + gpi i), B) H.size [.ref (gtX (lz B) 2)]) ∧ ∀ U : State, U.heap = H → s.WarmedH U.vm → gPb ((fun i => H.size + gpi i), B) H.size [.ref (gtX (lz B) 2)] ([.ref (gtX (lz B) 2)] : List Value).toArray U :=
    ⟨gPb_blind, fun U hU hW => ⟨rfl, by rw [hU], M.1.moved hW.alike, l_cst _ Cs M.2.2.2.1 (fun q hq => Or.inr (hAA q hq)) hU hW, Cs.2.2.2.2.call hW⟩⟩
  have hr := vx_runS (H := H) (locs := locs) (below := below) (meth := meth) (cells := cells) (slots := slots) (g := F0 m pc ls st0) (e := e) (As := [.ref (gtX (lz B) 2)]) (rest := rest) S (c_L_build l hfl ((fun i => H.size + gpi i), B) H.size (fun i _ => rfl) hf) ⟨callB_of 1 hts (gGood k1) rfl rfl rfl (hts _ k2) (hts _ hlink) k3 r1, hts _ hst1⟩ hpre rfl rfl hl.1 hst (Nat.le_of_ble_eq_true hW) hdg r2
  intro T hT X
  rcases hr T hT X with ⟨v1, st₀, t, T', L, h0, X', hL, e1, e2, ⟨⟨v2, σ2, lo2, dd2, ho, hv, hK, hP, hD⟩, hz, hk⟩, st⟩ | ⟨q, st₀, t, T', L, E, ce, h0, X', hL, e1, e2, ⟨⟨σ2, lo2, dd2, ho, -⟩, -⟩, -⟩
  · cases ho
    cases hv
    rw [h0] at hz hk
    have hM := l_more (ad := fun i => H.size + gpi i) (σ := o) (L := L) (H1 := T'.heap) M (fun i _ => rfl) (by rw [e1]; exact hP) (by rw [e1]; exact hz) (fun q h1 => by rw [e1]; exact hk q h1 (fun z => by have := hAA q z; omega)) (fun w hw => hAA _ (hL w hw))
    obtain ⟨t2, a1, b1⟩ := kk _ T'.heap (locs ++ L) hM T' rfl X'
    exact ⟨t2, st t2 a1, b1⟩
  · cases ho
/-- a new depot, in the law itself -/
theorem l_new {i0 i4 : Nat} (S : CallFix p m c cc nL s args gTs RL) (M : lM B Ds s H locs) (Cs : lCs B s) (hl : lv_has ls nL lv) (hcl : Cond.classLink RL i0 RX12 ∈ gTs) (hinst : Cond.instantiable RX12 9 ∈ gTs) (hini : Cond.initialized RX12 ∈ gTs) (hin : Cond.instanceMethod yX12_init ∈ gTs) (hlink : Cond.methodLink RL i4 yX12_init ∈ gTs)
    (hW : Nat.ble (0 + (rest.map fun v => v.category).sum) 7 = true) (hR : gRm R { frames := 4, cells := 218, slots := 2364, locals := 74 } (cells + 1) (slots + 9) 1 = true) (d0 : decode cc pc = .ok (.new i0, 3)) (d3 : decode cc (pc + 3) = .ok (.dup, 1)) (d4 : decode cc (pc + 4) = .ok (.invokespecial i4, 3)) {cells' slots' : Nat} (hc : cells + 219 = cells') (hs : slots + 2373 = slots')
    (kk : ∀ (ad : Nat → Nat) (H : Heap) (locs : List Loc), lM B (Ds ++ [(ad, σ0)]) s H locs → W p l e R s m args below meth c H locs cells' slots' Q (F0 m (pc + 7) ls (.ref (ad 0) :: rest))) : W p l e R s m args below meth c H locs cells slots Q (F0 m pc ls rest) := by
  subst hc; subst hs
  have hts := S.2.2.2.2
  obtain ⟨k1, k2, k3⟩ := k_X12_init
  obtain ⟨r1, r2⟩ := gRm_of hR
  have hKn := M.1.1 13 _ rfl
  have r3 : cells + 1 ≤ R.cells := Nat.le_trans (Nat.le_add_right _ _) r2.1
  have r4 : slots + 9 ≤ R.slots := Nat.le_trans (Nat.le_add_right _ _) r2.2
  refine W.newcK S.1 S.2.1 S.2.2.2.1 (hts _ hcl) (hts _ hinst) (hts _ hini) rfl d0 r3 r4 hKn.2.1 rfl fun H1 kC hkC e1 z1 o1 => ?_
  refine lv_dup S.1 S.2.1 d3 rfl ?_
  have hE : va_at (gtD (lz B)) vwCl (H.size, .inr (13, [.null, .null, .null, .null, .null, .null, .int 0, .int 0, .int 0])) H1 :=
    ⟨_, rfl, (u_born tyX12 hts inX12 hKn hkC e1 tyX12_ok).to (fun j hj => by rcases (show j = 0 ∨ j = 1 ∨ j = 2 ∨ j = 3 ∨ j = 4 ∨ j = 5 ∨ j = 6 ∨ j = 7 ∨ j = 8 by omega) with rfl | rfl | rfl | rfl | rfl | rfl | rfl | rfl | rfl <;> rfl)⟩
  have hG : nG H.size ((fun i => H.size + gpi i), B) := fun i _ => rfl
  have hr := va_runI (H := H1) (locs := locs) (below := below) (meth := meth) (cells := cells + 1) (slots := slots + 9) (g := F0 m (pc + 4) ls (.ref H.size :: .ref H.size :: rest)) (e := e) (As := []) (rest := .ref H.size :: rest) (b := H.size) S (c_X12_init l ((fun i => H.size + gpi i), B) hG) ⟨callB_of 0 hts (gGood k1) rfl rfl rfl (hts _ k2) (hts _ hlink) k3 r1, rfl, hts _ hin⟩ ⟨nPc_blind, fun U hU hW => ⟨rfl, by rw [hU, z1]; rfl, M.1.moved hW.alike, by rw [hU]; exact hE, Cs.2.2.2.2.call hW⟩⟩ rfl rfl hl.1 rfl (by have := Nat.le_of_ble_eq_true hW; show 0 + ((Value.ref H.size :: rest).map fun v => v.category).sum ≤ 8; rw [List.map_cons, List.sum_cons]; show 0 + (1 + _) ≤ 8; omega) d4 r2
  intro T1 hT X
  obtain ⟨v, st₀, t, T2, L, h0, X', hL, e1', e2, ⟨⟨ho, hz, hall⟩, hF⟩, st⟩ := hr T1 hT X
  cases ho
  have hz2 : st₀.heap.size ≤ t.heap.size := hF.1
  rw [h0, z1] at hz2
  have hM := l_more (ad := fun i => H.size + gpi i) (σ := σ0) (L := L) (H1 := T2.heap) M (fun i _ => rfl) (fun i q hq => ?_) (by rw [e1']; omega) (fun q h1 => ?_) hL
  · obtain ⟨t2, a1, b1⟩ := kk _ T2.heap (locs ++ L) hM T2 rfl X'
    exact ⟨t2, st t2 a1, b1⟩
  · obtain ⟨hi, rfl⟩ := l_ix hq
    rw [e1']
    have hpi : gpi i < 219 := by
      unfold gpi
      split <;> (try split) <;> (try split) <;> omega
    exact hall i hi (Nat.le_add_right _ _) (by show H.size + gpi i < H.size + _; omega)
  · rw [e1', hF.2 q (by rw [h0, z1]; omega) (by show ¬ H.size ≤ q; omega), h0]
    exact o1 q h1
end LROWS
