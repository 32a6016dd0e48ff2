/-! THE FORMS, THEIR TEXTS AND THE SWITCH'S ROW -/
section GSPEC
variable {p : Program} {l : Launch} {e : Env} {R : Room} {s : State} {m : MethodId} {args : Array Value} {below : List Frame} {meth : Method} {c : Code} {H : Heap} {locs : List Loc} {cells slots : Nat} {Q : State → Prop} {cc : ByteArray} {nL : Nat} {own : String} {pc : Nat} {ls : Array Slot} {rest : List Value} {G : gT} {lo : Int64} {dd : UInt64} {σ : gM} {lv : List (Nat × Value)}
theorem g_pattern {index kf : Nat} (S : CallFix p m c cc nL s args gTs own) (M : gMS G (gAA G s.heap.size) lo dd σ s H locs) (C0 : gCST G (gAA G s.heap.size) s) (hkf : kf < 7) (hlink : Cond.fieldLink own index "ParcelDepot$Form" "pattern" "Ljava/lang/String;" ∈ gTs) (hdg : decode cc pc = .ok (.getfield index, 3)) (kk : W p l e R s m args below meth c H locs cells slots Q (F0 m (pc + 3) ls (.ref (gtK G kf) :: rest))) : W p l e R s m args below meth c H locs cells slots Q (F0 m pc ls (.ref (gtF G kf) :: rest)) :=
  va_getX S.1 S.2.1 C0.2.2.2.2.2.2.1.1 hkf M.2.2.2 S.2.2.2.1 (S.2.2.2.2 _ hlink) (fun _ h => h) hdg kk
theorem g_forms (S : CallFix p m c cc nL s args gTs RX2) (M : gMS G (gAA G s.heap.size) lo dd σ s H locs) (C0 : gCST G (gAA G s.heap.size) s) (hdg : decode cc pc = .ok (.getstatic 40, 3)) (kk : W p l e R s m args below meth c H locs cells slots Q (F0 m (pc + 3) ls (.ref (gtX G 0) :: rest))) : W p l e R s m args below meth c H locs cells slots Q (F0 m pc ls rest) :=
  va_getsN S.1 S.2.1 C0.2.2.2.2.2.1.1 M.2.2.2 S.2.2.2.1 (va_Nw.use rfl (C0.2.1 (.fieldLinkNest "ParcelDepot$CommandText" 40 "ParcelDepot" "FORMS" "[LParcelDepot$Form;" "ParcelDepot") (by decide +kernel))) (fun _ h => h) hdg kk
theorem g_formLen (S : CallFix p m c cc nL s args gTs own) (M : gMS G (gAA G s.heap.size) lo dd σ s H locs) (C0 : gCST G (gAA G s.heap.size) s) (hdg : decode cc pc = .ok (.arraylength, 1)) (kk : W p l e R s m args below meth c H locs cells slots Q (F0 m (pc + 1) ls (.int 7 :: rest))) : W p l e R s m args below meth c H locs cells slots Q (F0 m pc ls (.ref (gtX G 0) :: rest)) :=
  va_tlen S.1 S.2.1 C0.2.2.2.2.2.1.2 M.2.2.2 (by decide) hdg kk
theorem g_formAt {x : Int32} (S : CallFix p m c cc nL s args gTs own) (M : gMS G (gAA G s.heap.size) lo dd σ s H locs) (C0 : gCST G (gAA G s.heap.size) s) (hin : vp_in x 7) (hdg : decode cc pc = .ok (.aaload, 1)) (kk : W p l e R s m args below meth c H locs cells slots Q (F0 m (pc + 1) ls (.ref (gtF G x.toNatClampNeg) :: rest))) : W p l e R s m args below meth c H locs cells slots Q (F0 m pc ls (.int x :: .ref (gtX G 0) :: rest)) :=
  vb_tq S.1 S.2.1 C0.2.2.2.2.2.1.2 M.2.2.2 hin rfl hdg kk
theorem g_swmap {index : Nat} (S : CallFix p m c cc nL s args gTs own) (M : gMS G (gAA G s.heap.size) lo dd σ s H locs) (C0 : gCST G (gAA G s.heap.size) s) (hlink : Cond.fieldLink own index "ParcelDepot$1" "$SwitchMap$ParcelDepot$Form" "[I" ∈ gTs) (hdg : decode cc pc = .ok (.getstatic index, 3)) (kk : W p l e R s m args below meth c H locs cells slots Q (F0 m (pc + 3) ls (.ref (gtX G 1) :: rest))) : W p l e R s m args below meth c H locs cells slots Q (F0 m pc ls rest) :=
  va_gets S.1 S.2.1 C0.2.2.2.2.2.2.2.1.1 M.2.2.2 S.2.2.2.1 (S.2.2.2.2 _ hlink) (fun _ h => h) hdg kk
theorem g_sw7 {x : Int32} (h : vp_in (x - 1) 7) : ∃ j : Nat, j < 7 ∧ x - 1 = nI j ∧ x = nI (j + 1) := by
  obtain ⟨j, hj, e⟩ := vp_in_of h (by decide)
  refine ⟨j, hj, e, ?_⟩
  have h2 : x = (x - 1) + 1 := by rw [Int32.sub_add_cancel]
  rw [h2, e, nI_1]
theorem g_swAt {x : Int32} (S : CallFix p m c cc nL s args gTs own) (M : gMS G (gAA G s.heap.size) lo dd σ s H locs) (C0 : gCST G (gAA G s.heap.size) s) (hin : vp_in (x - 1) 7) (hdg : decode cc pc = .ok (.iaload, 1)) (kk : W p l e R s m args below meth c H locs cells slots Q (F0 m (pc + 1) ls (.int x :: rest))) : W p l e R s m args below meth c H locs cells slots Q (F0 m pc ls (.int (x - 1) :: .ref (gtX G 1) :: rest)) := by
  refine va_ti S.1 S.2.1 C0.2.2.2.2.2.2.2.1.2 M.2.2.2 hin (v := .int x) ?_ hdg kk
  obtain ⟨j, hj, e1, e2⟩ := g_sw7 hin
  show Value.int (nI ((x - 1).toNatClampNeg + 1)) = .int x
  rw [e1, nI_clamp (by omega), e2]
theorem g_ifnullF {x : Int32} {off : Int} {tgt : Nat} (hx : p.tables.exec = Jvm.exec) (hb : c.code = cc) (hdg : decode cc pc = .ok (.ifnull off, 3)) (ht : (pc : Int) + off = (tgt : Int)) (kt : x = 0 → W p l e R s m args below meth c H locs cells slots Q (F0 m tgt ls rest)) (kf : ¬ x = 0 → W p l e R s m args below meth c H locs cells slots Q (F0 m (pc + 3) ls rest)) : W p l e R s m args below meth c H locs cells slots Q (F0 m pc ls (gfm G x :: rest)) := by
  by_cases h : x = 0
  · subst h
    exact lv_ifnullN hx hb hdg ht (kt rfl)
  · have e9 : gfm G x = .ref (gtF G (x.toNatClampNeg - 1)) := by unfold gfm; rw [if_neg h]; rfl
    rw [e9]
    exact lv_ifnull hx hb hdg (kf h)
theorem g_ifnonnullF {x : Int32} {off : Int} {tgt : Nat} (hx : p.tables.exec = Jvm.exec) (hb : c.code = cc) (hdg : decode cc pc = .ok (.ifnonnull off, 3)) (ht : (pc : Int) + off = (tgt : Int)) (kf : x = 0 → W p l e R s m args below meth c H locs cells slots Q (F0 m (pc + 3) ls rest)) (kt : ¬ x = 0 → W p l e R s m args below meth c H locs cells slots Q (F0 m tgt ls rest)) : W p l e R s m args below meth c H locs cells slots Q (F0 m pc ls (gfm G x :: rest)) := by
  by_cases h : x = 0
  · subst h
    exact lv_ifnonnullN hx hb hdg (kf rfl)
  · have e9 : gfm G x = .ref (gtF G (x.toNatClampNeg - 1)) := by unfold gfm; rw [if_neg h]; rfl
    rw [e9]
    exact lv_ifnonnull hx hb hdg ht (kt h)
theorem g_ord {x : Int32} (S : CallFix p m c cc nL s args gTs RX12) (M : gMS G (gAA G s.heap.size) lo dd σ s H locs) (C0 : gCST G (gAA G s.heap.size) s) (hl : lv_has ls nL lv) (hin : vp_in (x - 1) 7) (hR : (Nat.ble 1 R.frames && Nat.ble (0 + (rest.map fun v => v.category).sum + 12) R.locals) = true) (hdg : decode cc pc = .ok (.invokevirtual 344, 3)) (kk : W p l e R s m args below meth c H locs cells slots Q (F0 m (pc + 3) ls (.int (x - 1) :: rest))) : W p l e R s m args below meth c H locs cells slots Q (F0 m pc ls (gfm G x :: rest)) := by
  obtain ⟨j, hj, e1, e2⟩ := g_sw7 hin
  rw [e2, gfm_F G hj]
  obtain ⟨hx, hb, hml, hown, hts⟩ := S
  simp only [Bool.and_eq_true] at hR
  obtain ⟨cell, o1, o2, o3, o4⟩ := (C0.2.2.2.2.2.2.2.2.2.2.2 j hj).kept M.2.2.2.2.1
  obtain ⟨cf, k, fi, f, cell2, f1, f2, f3, f4, f5, f6⟩ := (C0.2.2.2.2.2.2.1.2 j hj).kept M.2.2.2.2.1
  cases o1.symm.trans f3
  intro T hT X
  obtain ⟨vm', X', st⟩ := xo_get X hx (own := RX12) (C := "ParcelDepot$Form") (owner := "java/lang/Enum") (index := 344) (fi := 7) (x := ⟨"ParcelDepot$Form", "ordinal", "()I"⟩) (y := yJx29ce0_ordinal_8abf5) (bytes := cJx29ce0_ordinal_8abf5) (fn := "ordinal") dJx29ce0_ordinal_8abf5_0 dJx29ce0_ordinal_8abf5_1 dJx29ce0_ordinal_8abf5_4 (by decide) hown (hts _ tw_5_36) (hts _ tw_5_37) (va_Decl.of (hts _ tw_5_40) (hts _ tw_5_41)) (by decide) (by decide) (hts _ tw_5_39) (hts _ tw_5_40) (hts _ tw_5_41) (hts _ tw_7_32) f1 f2 (by rw [hT]; exact o1) o2 f4 o3 f5 (g := F0 m pc ls (.ref (gtF G j) :: rest)) rfl (hl.1.trans hml.symm) rfl (by rw [hb]; exact hdg) (Nat.le_of_ble_eq_true hR.1) (Nat.le_of_ble_eq_true hR.2)
  rw [e1] at kk
  obtain ⟨t, a1, b1⟩ := kk (T.setVm vm') hT X'
  exact ⟨t, st t a1, b1⟩
/-- a table switch past all its own entries -/
theorem g_tswD {dflt lo hi : Int} {offs : Array Int} {len : Nat} {x : Int32} {tgt : Nat} (hx : p.tables.exec = Jvm.exec) (hb : c.code = cc) (hdg : decode cc pc = .ok (.tableswitch dflt lo hi offs, len)) (hd : (pc : Int) + dflt = (tgt : Int)) (hsz : (offs.size : Int) = hi - lo + 1) (hall : ∀ i : Nat, i < offs.size → offs[i]? = some dflt ∨ x.toInt ≠ lo + i) (k : W p l e R s m args below meth c H locs cells slots Q (F0 m tgt ls rest)) : W p l e R s m args below meth c H locs cells slots Q (F0 m pc ls (.int x :: rest)) := by
  by_cases h1 : x.toInt < lo
  · exact lv_tableOut hx hb hdg (Or.inl h1) hd k
  · by_cases h2 : hi < x.toInt
    · exact lv_tableOut hx hb hdg (Or.inr h2) hd k
    · have h3 : (x.toInt - lo).toNat < offs.size := by omega
      rcases hall _ h3 with h4 | h4
      · exact lv_tableIn hx hb hdg h1 h2 h4 hd k
      · exact absurd (by omega) h4
end GSPEC
