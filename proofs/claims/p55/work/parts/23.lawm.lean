theorem k_L_at : gMV yL_at cL_at 2 (some .int) 2 := ⟨tw_5_130, tw_1_0, by decide⟩
set_option maxHeartbeats 1000000 in
set_option maxRecDepth 100000 in
theorem c_L_at (l : Launch) (hfl : l.stackTraces = false) (G : gT) (sz : Nat) (lo : Int64) (dd : UInt64) (σ : gM) (a1 : Int32) {r : Int32} (hf : f_L_at σ (gtX G 3) (gtI G) a1 = some r) : gCT l yL_at cL_at 2 (some .int) { frames := 0, cells := 0, slots := 0, locals := 0 } 0 0 G sz [.ref (gtX G 2), .int a1] lo dd σ (.inl (mkI r, σ, lo, dd)) := by
  refine gCT_of (by decide) (Nat.le_of_ble_eq_true rfl) (fun p e s m args below meth c ls S hr hlk hnx hsz C0 hl H locs M => ?_)
  subst hsz
  have hx := S.1
  have hb := S.2.1
  unfold f_L_at at hf
  refine lv_iload_n hx hb dL_at_0 rfl (lv_at hl 1 rfl) ?_
  refine lv_aload_n hx hb dL_at_1 rfl (lv_at hl 0 rfl) ?_
  refine va_tlen hx hb C0.2.2.2.1.2.1 M.2.2.2 (v := nI (gtX G 3)) rfl dL_at_2 ?_
  refine lv_icmp_ge (tgt := 12) hx hb dL_at_3 (by decide) (fun c1 => ?_) (fun c1 => ?_)
  · have hf := it_p c1 hf
    refine lv_iconst (v := 0) hx hb dL_at_12 (by decide) ?_
    cases hf
    exact g_iret S M hr hlk (by omega) (by omega) dL_at_13 rfl
  · have hf := it_n c1 hf
    refine lv_aload_n hx hb dL_at_6 rfl (lv_at hl 0 rfl) ?_
    refine lv_iload_n hx hb dL_at_7 rfl (lv_at hl 1 rfl) ?_
    obtain ⟨h2, hf⟩ := gi_x hf
    refine va_ti hx hb C0.2.2.2.1.2.1 M.2.2.2 h2 (v := .int (gtI G a1.toNatClampNeg)) rfl dL_at_8 ?_
    refine lv_goto (tgt := 13) hx hb dL_at_9 (by decide) ?_
    cases hf
    exact g_iret S M hr hlk (by omega) (by omega) dL_at_13 rfl
def tb_L_road : List (Nat × Nat × Nat × Nat) := [(0, 6, 7, 89)]
theorem k_L_road : gMW yL_road cL_road 4 (some .int) tb_L_road 3 := ⟨tw_5_197, tw_1_0, by decide⟩
set_option maxHeartbeats 1000000 in
set_option maxRecDepth 100000 in
theorem c_L_road (l : Launch) (hfl : l.stackTraces = false) (G : gT) (sz : Nat) (lo : Int64) (dd : UInt64) (σ : gM) (a1 : Int32) (a2 : Int32) {r : Int32} (hf : f_L_road σ a1 a2 = some r) : gCW l yL_road cL_road 4 (some .int) tb_L_road { frames := 10, cells := 3, slots := 18, locals := 167 } 3 18 G sz [.ref (G.1 0), .int a1, .int a2] lo dd σ (.inl (mkI r, σ, lo, dd)) := by
  refine gCW_of (by decide) tw_5_197 (Nat.le_of_ble_eq_true rfl) (fun p e s m args below meth c ls S hr hlk htab hsz C0 hl H locs M => ?_)
  subst hsz
  have hx := S.1
  have hb := S.2.1
  unfold f_L_road at hf
  refine lv_aload_n hx hb dL_road_0 rfl (lv_at hl 0 rfl) ?_
  refine lv_iload_n hx hb dL_road_1 rfl (lv_at hl 1 rfl) ?_
  refine lv_iload_n hx hb dL_road_2 rfl (lv_at hl 2 rfl) ?_
  rcases bt_x hf with ⟨r2, h1, hf⟩ | ⟨n3, h1, hf⟩
  · refine g_callR (st1 := [.int r2]) (cells' := 3) (slots' := 18) M (g_invV (index := 91) S M C0 hl (c_X12_roadLength l hfl G H.size lo dd σ a1 a2 h1) k_X12_roadLength tw_5_199 tw_5_200 tw_5_198 (by decide) (ge_0 rfl) rfl rfl rfl rfl rfl rfl dL_road_3) rfl rfl rfl (fun H locs M => ?_)
    cases hf
    exact g_iret S M hr hlk (by omega) (by omega) dL_road_6 rfl
  · refine g_runX (cells' := 3) (slots' := 18) M (g_invV (index := 91) S M C0 hl (c_X12_roadLength l hfl G H.size lo dd σ a1 a2 h1) k_X12_roadLength tw_5_199 tw_5_200 tw_5_198 (by decide) (ge_0 rfl) rfl rfl rfl rfl rfl rfl dL_road_3) rfl rfl (fun ce q H locs M hq hv hcl => ?_)
    by_cases hc : n3 = 4
    · have hf := it_p hc hf
      subst hc
      refine vx_catch (E := "java/util/NoSuchElementException") (name := "java/util/NoSuchElementException") S.2.2.2.1 (tableOf (tb_L_road.take 0)) ⟨0, 6, 7, 89⟩ (tableOf (tb_L_road.drop 1)) (htab.trans rfl) (l_pass tb_L_road 0 3 [] gp_n (by decide +kernel)) rfl (by decide) (S.2.2.2.2 _ tw_5_178) (va_any rfl (C0.2.1 _ (by decide +kernel))) hq hv hcl ?_
      refine lv_astore_n (lv' := [(3, .ref q), (0, .ref (G.1 0)), (1, .int a1), (2, .int a2)]) hx hb dL_road_7 rfl hl (by decide) rfl (fun ls hl => ?_)
      refine lv_iconst (v := 0) hx hb dL_road_8 (by decide) ?_
      cases hf
      exact g_iret S M hr hlk (by omega) (by omega) dL_road_9 rfl
    · have hf := it_n hc hf
      cases hf
theorem k_L_sackOf : gMV yL_sackOf cL_sackOf 2 (some .int) 2 := ⟨tw_5_219, tw_1_0, by decide⟩
set_option maxHeartbeats 1000000 in
set_option maxRecDepth 100000 in
theorem c_L_sackOf (l : Launch) (hfl : l.stackTraces = false) (G : gT) (sz : Nat) (lo : Int64) (dd : UInt64) (σ : gM) (a1 : Int32) {r : Int32} (hf : f_L_sackOf σ a1 = some r) : gCT l yL_sackOf cL_sackOf 2 (some .int) { frames := 10, cells := 3, slots := 18, locals := 167 } 3 18 G sz [.ref (G.1 0), .int a1] lo dd σ (.inl (mkI r, σ, lo, dd)) := by
  refine gCT_of (by decide) (Nat.le_of_ble_eq_true rfl) (fun p e s m args below meth c ls S hr hlk hnx hsz C0 hl H locs M => ?_)
  subst hsz
  have hx := S.1
  have hb := S.2.1
  unfold f_L_sackOf at hf
  refine lv_aload_n hx hb dL_sackOf_0 rfl (lv_at hl 0 rfl) ?_
  refine lv_iload_n hx hb dL_sackOf_1 rfl (lv_at hl 1 rfl) ?_
  obtain ⟨r2, h1, hf⟩ := btn_x hf
  refine g_callR (st1 := [.int r2]) (cells' := 1) (slots' := 6) M (g_invV (index := 94) S M C0 hl (c_X12_state l hfl G H.size lo dd σ a1 h1) k_X12_state tw_3_182 tw_3_183 tw_3_181 (by decide) (ge_0 rfl) rfl rfl rfl rfl rfl rfl dL_sackOf_2) rfl rfl rfl (fun H locs M => ?_)
  refine lv_bipush (v := 115) hx hb dL_sackOf_5 (by decide) ?_
  refine lv_icmp_ne (tgt := 18) hx hb dL_sackOf_7 (by decide) (fun c4 => ?_) (fun c4 => ?_)
  · have hf := it_n c4 hf
    refine lv_iconst (v := (-1)) hx hb dL_sackOf_18 (by decide) ?_
    cases hf
    exact g_iret S M hr hlk (by omega) (by omega) dL_sackOf_19 rfl
  · have hf := it_p c4 hf
    refine lv_aload_n hx hb dL_sackOf_10 rfl (lv_at hl 0 rfl) ?_
    refine lv_iload_n hx hb dL_sackOf_11 rfl (lv_at hl 1 rfl) ?_
    obtain ⟨r6, h5, hf⟩ := btn_x hf
    refine g_callR (st1 := [.int r6]) (cells' := 3) (slots' := 18) M (g_invV (index := 97) S M C0 hl (c_X12_sackOf l hfl G H.size lo dd σ a1 h5) k_X12_sackOf tw_5_221 tw_5_222 tw_5_220 (by decide) (ge_0 rfl) rfl rfl rfl rfl rfl rfl dL_sackOf_12) rfl rfl rfl (fun H locs M => ?_)
    refine lv_goto (tgt := 19) hx hb dL_sackOf_15 (by decide) ?_
    cases hf
    exact g_iret S M hr hlk (by omega) (by omega) dL_sackOf_19 rfl
theorem k_L_state : gMV yL_state cL_state 4 (some .int) 1 := ⟨tw_5_194, tw_1_0, by decide⟩
set_option maxHeartbeats 1000000 in
set_option maxRecDepth 100000 in
theorem w_L_state_L31 {p : Program} {l : Launch} {e : Env} {R : Room} {s : State} {m : MethodId} {args : Array Value} {below : List Frame} {meth : Method} {c : Code} {Q : State → Prop} {G : gT} {lo : Int64} {dd : UInt64} {C1 S1 : Nat} (S : CallFix p m c cL_state 4 s args gTs RL) (C0 : gCST G (gAA G s.heap.size) s) (hfl : l.stackTraces = false) (p2 : Int32) (σ : gM) (hRf : 11 ≤ R.frames) (hRl : 190 ≤ R.locals) (hRc : C1 ≤ R.cells) (hRs : S1 ≤ R.slots) : ∀ (n : Nat) (v1 : Int32) (v3 : Int32) (res : Int32), f_L_state_L31 p2 σ n v1 v3 = some res → ∀ (H : Heap) (locs : List Loc) (ls : Array Slot) (cells slots : Nat), gMS G (gAA G s.heap.size) lo dd σ s H locs → lv_has ls 4 [(0, .ref (G.1 0)), (1, .int v1), (2, .int p2), (3, .int v3)] → cells + n * 3 ≤ C1 → slots + n * 18 ≤ S1 → (∀ (u1 : Int32), res = u1 → ∀ (H : Heap) (locs : List Loc) (ls : Array Slot), gMS G (gAA G s.heap.size) lo dd σ s H locs → lv_has ls 4 [(0, .ref (G.1 0)), (1, .int u1), (2, .int p2)] → W p l e R s m args below meth c H locs C1 S1 Q (F0 m 54 ls [])) → W p l e R s m args below meth c H locs cells slots Q (F0 m 31 ls []) := by
  have hx := S.1
  have hb := S.2.1
  intro n
  induction n with
  | zero =>
    intro v1 v3 res hf
    cases hf
  | succ n ih =>
    intro v1 v3 res hf H locs ls cells slots M hl hcB hsB kx
    rw [f_L_state_L31] at hf
    refine lv_iload_n hx hb dL_state_31 rfl (lv_at hl 3 rfl) ?_
    refine lv_iload_n hx hb dL_state_32 rfl (lv_at hl 2 rfl) ?_
    refine lv_icmp_ge (tgt := 54) hx hb dL_state_33 (by decide) (fun c9 => ?_) (fun c9 => ?_)
    · have hf := it_p c9 hf
      cases hf
      refine W.widen (k := C1) (n := S1) (by omega) (by omega) ?_
      exact kx _ rfl _ _ _ M (lv_sub hl [0, 1, 2] rfl)
    · have hf := it_n c9 hf
      refine lv_bipush (v := 31) hx hb dL_state_36 (by decide) ?_
      refine lv_iload_n hx hb dL_state_38 rfl (lv_at hl 1 rfl) ?_
      refine lv_imul hx hb dL_state_39 ?_
      refine lv_aload_n hx hb dL_state_40 rfl (lv_at hl 0 rfl) ?_
      refine lv_iload_n hx hb dL_state_41 rfl (lv_at hl 2 rfl) ?_
      refine lv_iload_n hx hb dL_state_42 rfl (lv_at hl 3 rfl) ?_
      obtain ⟨r11, h10, hf⟩ := bd_x hf
      refine g_callR (st1 := [.int r11, .int (31 * v1)]) (cells' := cells + 3) (slots' := slots + 18) M (g_invW (index := 106) S M C0 hl (c_L_road l hfl G H.size lo dd σ p2 v3 h10) k_L_road tw_5_196 tw_5_195 rfl rfl rfl (gRm_m2 (by first | decide | exact Nat.le_trans (Nat.le_of_ble_eq_true rfl) hRf) (by first | decide | exact Nat.le_trans (Nat.le_of_ble_eq_true rfl) hRl) (by first | (dsimp only; omega) | (dsimp only [gRs]; omega) | omega) (by first | (dsimp only; omega) | (dsimp only [gRs]; omega) | omega)) dL_state_43) rfl rfl rfl (fun H locs M => ?_)
      refine lv_iadd hx hb dL_state_46 ?_
      obtain ⟨x12, ex12, hf⟩ := nm_x hf
      refine g_topi ex12 ?_
      refine lv_istore_n (lv' := [(1, .int x12), (0, .ref (G.1 0)), (2, .int p2), (3, .int v3)]) hx hb dL_state_47 rfl hl (by decide) rfl (fun ls hl => ?_)
      obtain ⟨x13, ex13, hf⟩ := nm_x hf
      refine lv_iinc (v := x13) (lv' := [(3, .int x13), (1, .int x12), (0, .ref (G.1 0)), (2, .int p2)]) hx hb dL_state_48 hl (k := 3) rfl (by rw [ex13]; rfl) (by decide) rfl (fun ls hl => ?_)
      refine lv_goto (tgt := 31) hx hb dL_state_51 (by decide) ?_
      exact ih _ _ _ hf _ _ _ _ _ M (lv_sub hl [2, 1, 3, 0] rfl) (by omega) (by omega) kx
set_option maxHeartbeats 1000000 in
set_option maxRecDepth 100000 in
theorem w_L_state_L23 {p : Program} {l : Launch} {e : Env} {R : Room} {s : State} {m : MethodId} {args : Array Value} {below : List Frame} {meth : Method} {c : Code} {Q : State → Prop} {G : gT} {lo : Int64} {dd : UInt64} {C1 S1 : Nat} (S : CallFix p m c cL_state 4 s args gTs RL) (C0 : gCST G (gAA G s.heap.size) s) (hfl : l.stackTraces = false) (σ : gM) (hRf : 11 ≤ R.frames) (hRl : 190 ≤ R.locals) (hRc : C1 ≤ R.cells) (hRs : S1 ≤ R.slots) : ∀ (n : Nat) (v1 : Int32) (v2 : Int32) (res : Int32), f_L_state_L23 σ n v1 v2 = some res → ∀ (H : Heap) (locs : List Loc) (ls : Array Slot) (cells slots : Nat), gMS G (gAA G s.heap.size) lo dd σ s H locs → lv_has ls 4 [(0, .ref (G.1 0)), (1, .int v1), (2, .int v2)] → cells + n * 42 ≤ C1 → slots + n * 252 ≤ S1 → (∀ (u1 : Int32), res = u1 → ∀ (H : Heap) (locs : List Loc) (ls : Array Slot), gMS G (gAA G s.heap.size) lo dd σ s H locs → lv_has ls 4 [(0, .ref (G.1 0)), (1, .int u1)] → W p l e R s m args below meth c H locs C1 S1 Q (F0 m 60 ls [])) → W p l e R s m args below meth c H locs cells slots Q (F0 m 23 ls []) := by
  have hx := S.1
  have hb := S.2.1
  intro n
  induction n with
  | zero =>
    intro v1 v2 res hf
    cases hf
  | succ n ih =>
    intro v1 v2 res hf H locs ls cells slots M hl hcB hsB kx
    rw [f_L_state_L23] at hf
    refine lv_iload_n hx hb dL_state_23 rfl (lv_at hl 2 rfl) ?_
    refine lv_bipush (v := 6) hx hb dL_state_24 (by decide) ?_
    refine lv_icmp_ge (tgt := 60) hx hb dL_state_26 (by decide) (fun c8 => ?_) (fun c8 => ?_)
    · have hf := it_p c8 hf
      cases hf
      refine W.widen (k := C1) (n := S1) (by omega) (by omega) ?_
      exact kx _ rfl _ _ _ M (lv_sub hl [0, 1] rfl)
    · have hf := it_n c8 hf
      refine lv_iconst (v := 0) hx hb dL_state_29 (by decide) ?_
      refine lv_istore_n (lv' := [(3, .int 0), (0, .ref (G.1 0)), (1, .int v1), (2, .int v2)]) hx hb dL_state_30 rfl hl (by decide) rfl (fun ls hl => ?_)
      obtain ⟨y15, h14, hf⟩ := bd_x hf
      refine w_L_state_L31 (C1 := cells + 42) (S1 := slots + 252) S C0 hfl v2 σ hRf hRl (by omega) (by omega) 14 v1 0 _ h14 _ _ _ _ _ M (lv_sub hl [1, 2, 3, 0] rfl) (Nat.le_refl _) (Nat.le_refl _) (fun _ eq H locs ls M hl => ?_)
      cases eq
      obtain ⟨x16, ex16, hf⟩ := nm_x hf
      refine lv_iinc (v := x16) (lv' := [(2, .int x16), (0, .ref (G.1 0)), (1, .int y15)]) hx hb dL_state_54 hl (k := 2) rfl (by rw [ex16]; rfl) (by decide) rfl (fun ls hl => ?_)
      refine lv_goto (tgt := 23) hx hb dL_state_57 (by decide) ?_
      exact ih _ _ _ hf _ _ _ _ _ M (lv_sub hl [1, 2, 0] rfl) (by omega) (by omega) kx
set_option maxHeartbeats 1000000 in
set_option maxRecDepth 100000 in
theorem w_L_state_L62 {p : Program} {l : Launch} {e : Env} {R : Room} {s : State} {m : MethodId} {args : Array Value} {below : List Frame} {meth : Method} {c : Code} {Q : State → Prop} {G : gT} {lo : Int64} {dd : UInt64} {C1 S1 : Nat} (S : CallFix p m c cL_state 4 s args gTs RL) (C0 : gCST G (gAA G s.heap.size) s) (hfl : l.stackTraces = false) (σ : gM) (hRf : 11 ≤ R.frames) (hRl : 190 ≤ R.locals) (hRc : C1 ≤ R.cells) (hRs : S1 ≤ R.slots) : ∀ (n : Nat) (v1 : Int32) (v2 : Int32) (res : Int32), f_L_state_L62 σ n v1 v2 = some res → ∀ (H : Heap) (locs : List Loc) (ls : Array Slot) (cells slots : Nat), gMS G (gAA G s.heap.size) lo dd σ s H locs → lv_has ls 4 [(0, .ref (G.1 0)), (1, .int v1), (2, .int v2)] → cells + n * 8 ≤ C1 → slots + n * 48 ≤ S1 → (∀ (u1 : Int32), res = u1 → ∀ (H : Heap) (locs : List Loc) (ls : Array Slot), gMS G (gAA G s.heap.size) lo dd σ s H locs → lv_has ls 4 [(0, .ref (G.1 0)), (1, .int u1)] → W p l e R s m args below meth c H locs C1 S1 Q (F0 m 132 ls [])) → W p l e R s m args below meth c H locs cells slots Q (F0 m 62 ls []) := by
  have hx := S.1
  have hb := S.2.1
  intro n
  induction n with
  | zero =>
    intro v1 v2 res hf
    cases hf
  | succ n ih =>
    intro v1 v2 res hf H locs ls cells slots M hl hcB hsB kx
    rw [f_L_state_L62] at hf
    refine lv_iload_n hx hb dL_state_62 rfl (lv_at hl 2 rfl) ?_
    refine lv_aload_n hx hb dL_state_63 rfl (lv_at hl 0 rfl) ?_
    obtain ⟨r20, h19, hf⟩ := bd_x hf
    refine g_callR (st1 := [.int r20, .int v2]) (cells' := cells + 0) (slots' := slots + 0) M (g_invV (index := 34) S M C0 hl (c_X12_parcelCount l G H.size lo dd σ  h19) k_X12_parcelCount tw_5_188 tw_5_189 tw_5_187 (by decide) (ge_0 rfl) rfl rfl rfl rfl rfl (gRm_m2 (by first | decide | exact Nat.le_trans (Nat.le_of_ble_eq_true rfl) hRf) (by first | decide | exact Nat.le_trans (Nat.le_of_ble_eq_true rfl) hRl) (by first | (dsimp only; omega) | (dsimp only [gRs]; omega) | omega) (by first | (dsimp only; omega) | (dsimp only [gRs]; omega) | omega)) dL_state_64) rfl rfl rfl (fun H locs M => ?_)
    refine lv_icmp_ge (tgt := 132) hx hb dL_state_67 (by decide) (fun c21 => ?_) (fun c21 => ?_)
    · have hf := it_p c21 hf
      cases hf
      refine W.widen (k := C1) (n := S1) (by omega) (by omega) ?_
      exact kx _ rfl _ _ _ M (lv_sub hl [0, 1] rfl)
    · have hf := it_n c21 hf
      refine lv_bipush (v := 31) hx hb dL_state_70 (by decide) ?_
      refine lv_bipush (v := 31) hx hb dL_state_72 (by decide) ?_
      refine lv_bipush (v := 31) hx hb dL_state_74 (by decide) ?_
      refine lv_bipush (v := 31) hx hb dL_state_76 (by decide) ?_
      refine lv_bipush (v := 31) hx hb dL_state_78 (by decide) ?_
      refine lv_iload_n hx hb dL_state_80 rfl (lv_at hl 1 rfl) ?_
      refine lv_imul hx hb dL_state_81 ?_
      refine lv_aload_n hx hb dL_state_82 rfl (lv_at hl 0 rfl) ?_
      refine lv_iload_n hx hb dL_state_83 rfl (lv_at hl 2 rfl) ?_
      obtain ⟨r23, h22, hf⟩ := btn_x hf
      refine g_callR (st1 := [.int r23, .int (31 * v1), .int 31, .int 31, .int 31, .int 31]) (cells' := cells + 1) (slots' := slots + 6) M (g_invV (index := 110) S M C0 hl (c_X12_weight l hfl G H.size lo dd σ v2 h22) k_X12_weight tw_5_204 tw_5_205 tw_5_203 (by decide) (ge_0 rfl) rfl rfl rfl rfl rfl (gRm_m2 (by first | decide | exact Nat.le_trans (Nat.le_of_ble_eq_true rfl) hRf) (by first | decide | exact Nat.le_trans (Nat.le_of_ble_eq_true rfl) hRl) (by first | (dsimp only; omega) | (dsimp only [gRs]; omega) | omega) (by first | (dsimp only; omega) | (dsimp only [gRs]; omega) | omega)) dL_state_84) rfl rfl rfl (fun H locs M => ?_)
      refine lv_iadd hx hb dL_state_87 ?_
      refine lv_imul hx hb dL_state_88 ?_
      refine lv_aload_n hx hb dL_state_89 rfl (lv_at hl 0 rfl) ?_
      refine lv_iload_n hx hb dL_state_90 rfl (lv_at hl 2 rfl) ?_
      obtain ⟨r26, h25, hf⟩ := btn_x hf
      refine g_callR (st1 := [.int r26, .int (31 * ((31 * v1) + r23)), .int 31, .int 31, .int 31]) (cells' := cells + 2) (slots' := slots + 12) M (g_invV (index := 113) S M C0 hl (c_X12_hazard l hfl G H.size lo dd σ v2 h25) k_X12_hazard tw_5_209 tw_5_210 tw_5_208 (by decide) (ge_0 rfl) rfl rfl rfl rfl rfl (gRm_m2 (by first | decide | exact Nat.le_trans (Nat.le_of_ble_eq_true rfl) hRf) (by first | decide | exact Nat.le_trans (Nat.le_of_ble_eq_true rfl) hRl) (by first | (dsimp only; omega) | (dsimp only [gRs]; omega) | omega) (by first | (dsimp only; omega) | (dsimp only [gRs]; omega) | omega)) dL_state_91) rfl rfl rfl (fun H locs M => ?_)
      refine lv_iadd hx hb dL_state_94 ?_
      refine lv_imul hx hb dL_state_95 ?_
      refine lv_aload_n hx hb dL_state_96 rfl (lv_at hl 0 rfl) ?_
      refine lv_iload_n hx hb dL_state_97 rfl (lv_at hl 2 rfl) ?_
      obtain ⟨r29, h28, hf⟩ := btn_x hf
      refine g_callR (st1 := [.int r29, .int (31 * ((31 * ((31 * v1) + r23)) + r26)), .int 31, .int 31]) (cells' := cells + 3) (slots' := slots + 18) M (g_invV (index := 116) S M C0 hl (c_X12_destination l hfl G H.size lo dd σ v2 h28) k_X12_destination tw_5_213 tw_5_214 tw_5_212 (by decide) (ge_0 rfl) rfl rfl rfl rfl rfl (gRm_m2 (by first | decide | exact Nat.le_trans (Nat.le_of_ble_eq_true rfl) hRf) (by first | decide | exact Nat.le_trans (Nat.le_of_ble_eq_true rfl) hRl) (by first | (dsimp only; omega) | (dsimp only [gRs]; omega) | omega) (by first | (dsimp only; omega) | (dsimp only [gRs]; omega) | omega)) dL_state_98) rfl rfl rfl (fun H locs M => ?_)
      refine lv_iadd hx hb dL_state_101 ?_
      refine lv_imul hx hb dL_state_102 ?_
      refine lv_aload_n hx hb dL_state_103 rfl (lv_at hl 0 rfl) ?_
      refine lv_iload_n hx hb dL_state_104 rfl (lv_at hl 2 rfl) ?_
      obtain ⟨r32, h31, hf⟩ := btn_x hf
      refine g_callR (st1 := [.int r32, .int (31 * ((31 * ((31 * ((31 * v1) + r23)) + r26)) + r29)), .int 31]) (cells' := cells + 4) (slots' := slots + 24) M (g_invV (index := 94) S M C0 hl (c_X12_state l hfl G H.size lo dd σ v2 h31) k_X12_state tw_3_182 tw_3_183 tw_3_181 (by decide) (ge_0 rfl) rfl rfl rfl rfl rfl (gRm_m2 (by first | decide | exact Nat.le_trans (Nat.le_of_ble_eq_true rfl) hRf) (by first | decide | exact Nat.le_trans (Nat.le_of_ble_eq_true rfl) hRl) (by first | (dsimp only; omega) | (dsimp only [gRs]; omega) | omega) (by first | (dsimp only; omega) | (dsimp only [gRs]; omega) | omega)) dL_state_105) rfl rfl rfl (fun H locs M => ?_)
      refine lv_iadd hx hb dL_state_108 ?_
      refine lv_imul hx hb dL_state_109 ?_
      refine lv_bipush (v := 7) hx hb dL_state_110 (by decide) ?_
      refine lv_aload_n hx hb dL_state_112 rfl (lv_at hl 0 rfl) ?_
      refine lv_iload_n hx hb dL_state_113 rfl (lv_at hl 2 rfl) ?_
      obtain ⟨r35, h34, hf⟩ := bd_x hf
      refine g_callR (st1 := [.int r35, .int 7, .int (31 * ((31 * ((31 * ((31 * ((31 * v1) + r23)) + r26)) + r29)) + r32))]) (cells' := cells + 7) (slots' := slots + 42) M (g_invS (index := 119) S M C0 hl (c_L_sackOf l hfl G H.size lo dd σ v2 h34) k_L_sackOf tw_5_218 tw_5_217 rfl rfl rfl (gRm_m2 (by first | decide | exact Nat.le_trans (Nat.le_of_ble_eq_true rfl) hRf) (by first | decide | exact Nat.le_trans (Nat.le_of_ble_eq_true rfl) hRl) (by first | (dsimp only; omega) | (dsimp only [gRs]; omega) | omega) (by first | (dsimp only; omega) | (dsimp only [gRs]; omega) | omega)) dL_state_114) rfl rfl rfl (fun H locs M => ?_)
      refine lv_imul hx hb dL_state_117 ?_
      refine lv_iadd hx hb dL_state_118 ?_
      refine lv_aload_n hx hb dL_state_119 rfl (lv_at hl 0 rfl) ?_
      refine lv_iload_n hx hb dL_state_120 rfl (lv_at hl 2 rfl) ?_
      obtain ⟨r37, h36, hf⟩ := btn_x hf
      refine g_callR (st1 := [.int r37, .int ((31 * ((31 * ((31 * ((31 * ((31 * v1) + r23)) + r26)) + r29)) + r32)) + (7 * r35))]) (cells' := cells + 8) (slots' := slots + 48) M (g_invV (index := 122) S M C0 hl (c_X12_returns l hfl G H.size lo dd σ v2 h36) k_X12_returns tw_3_195 tw_3_196 tw_3_194 (by decide) (ge_0 rfl) rfl rfl rfl rfl rfl (gRm_m2 (by first | decide | exact Nat.le_trans (Nat.le_of_ble_eq_true rfl) hRf) (by first | decide | exact Nat.le_trans (Nat.le_of_ble_eq_true rfl) hRl) (by first | (dsimp only; omega) | (dsimp only [gRs]; omega) | omega) (by first | (dsimp only; omega) | (dsimp only [gRs]; omega) | omega)) dL_state_121) rfl rfl rfl (fun H locs M => ?_)
      refine lv_iadd hx hb dL_state_124 ?_
      obtain ⟨x39, ex39, hf⟩ := nm_x hf
      refine g_topi ex39 ?_
      refine lv_istore_n (lv' := [(1, .int x39), (0, .ref (G.1 0)), (2, .int v2)]) hx hb dL_state_125 rfl hl (by decide) rfl (fun ls hl => ?_)
      obtain ⟨x40, ex40, hf⟩ := nm_x hf
      refine lv_iinc (v := x40) (lv' := [(2, .int x40), (1, .int x39), (0, .ref (G.1 0))]) hx hb dL_state_126 hl (k := 2) rfl (by rw [ex40]; rfl) (by decide) rfl (fun ls hl => ?_)
      refine lv_goto (tgt := 62) hx hb dL_state_129 (by decide) ?_
      exact ih _ _ _ hf _ _ _ _ _ M (lv_sub hl [2, 1, 0] rfl) (by omega) (by omega) kx
set_option maxHeartbeats 1000000 in
set_option maxRecDepth 100000 in
theorem w_L_state_L134 {p : Program} {l : Launch} {e : Env} {R : Room} {s : State} {m : MethodId} {args : Array Value} {below : List Frame} {meth : Method} {c : Code} {Q : State → Prop} {G : gT} {lo : Int64} {dd : UInt64} {C1 S1 : Nat} (S : CallFix p m c cL_state 4 s args gTs RL) (C0 : gCST G (gAA G s.heap.size) s) (hfl : l.stackTraces = false) (σ : gM) (hRf : 11 ≤ R.frames) (hRl : 190 ≤ R.locals) (hRc : C1 ≤ R.cells) (hRs : S1 ≤ R.slots) : ∀ (n : Nat) (v1 : Int32) (v2 : Int32) (res : Int32), f_L_state_L134 σ n v1 v2 = some res → ∀ (H : Heap) (locs : List Loc) (ls : Array Slot) (cells slots : Nat), gMS G (gAA G s.heap.size) lo dd σ s H locs → lv_has ls 4 [(0, .ref (G.1 0)), (1, .int v1), (2, .int v2)] → cells + n * 2 ≤ C1 → slots + n * 12 ≤ S1 → (∀ (u1 : Int32), res = u1 → ∀ (H : Heap) (locs : List Loc) (ls : Array Slot), gMS G (gAA G s.heap.size) lo dd σ s H locs → lv_has ls 4 [(0, .ref (G.1 0)), (1, .int u1)] → W p l e R s m args below meth c H locs C1 S1 Q (F0 m 168 ls [])) → W p l e R s m args below meth c H locs cells slots Q (F0 m 134 ls []) := by
  have hx := S.1
  have hb := S.2.1
  intro n
  induction n with
  | zero =>
    intro v1 v2 res hf
    cases hf
  | succ n ih =>
    intro v1 v2 res hf H locs ls cells slots M hl hcB hsB kx
    rw [f_L_state_L134] at hf
    refine lv_iload_n hx hb dL_state_134 rfl (lv_at hl 2 rfl) ?_
    refine lv_aload_n hx hb dL_state_135 rfl (lv_at hl 0 rfl) ?_
    obtain ⟨r44, h43, hf⟩ := bd_x hf
    refine g_callR (st1 := [.int r44, .int v2]) (cells' := cells + 0) (slots' := slots + 0) M (g_invV (index := 125) S M C0 hl (c_X12_gloveCount l G H.size lo dd σ  h43) k_X12_gloveCount tw_3_215 tw_3_216 tw_3_214 (by decide) (ge_0 rfl) rfl rfl rfl rfl rfl (gRm_m2 (by first | decide | exact Nat.le_trans (Nat.le_of_ble_eq_true rfl) hRf) (by first | decide | exact Nat.le_trans (Nat.le_of_ble_eq_true rfl) hRl) (by first | (dsimp only; omega) | (dsimp only [gRs]; omega) | omega) (by first | (dsimp only; omega) | (dsimp only [gRs]; omega) | omega)) dL_state_136) rfl rfl rfl (fun H locs M => ?_)
    refine lv_icmp_ge (tgt := 168) hx hb dL_state_139 (by decide) (fun c45 => ?_) (fun c45 => ?_)
    · have hf := it_p c45 hf
      cases hf
      refine W.widen (k := C1) (n := S1) (by omega) (by omega) ?_
      exact kx _ rfl _ _ _ M (lv_sub hl [0, 1] rfl)
    · have hf := it_n c45 hf
      refine lv_bipush (v := 31) hx hb dL_state_142 (by decide) ?_
      refine lv_bipush (v := 31) hx hb dL_state_144 (by decide) ?_
      refine lv_iload_n hx hb dL_state_146 rfl (lv_at hl 1 rfl) ?_
      refine lv_imul hx hb dL_state_147 ?_
      refine lv_aload_n hx hb dL_state_148 rfl (lv_at hl 0 rfl) ?_
      refine lv_iload_n hx hb dL_state_149 rfl (lv_at hl 2 rfl) ?_
      obtain ⟨r47, h46, hf⟩ := btn_x hf
      refine g_callR (st1 := [.int r47, .int (31 * v1), .int 31]) (cells' := cells + 1) (slots' := slots + 6) M (g_invV (index := 128) S M C0 hl (c_X12_grade l hfl G H.size lo dd σ v2 h46) k_X12_grade tw_3_223 tw_3_224 tw_3_222 (by decide) (ge_0 rfl) rfl rfl rfl rfl rfl (gRm_m2 (by first | decide | exact Nat.le_trans (Nat.le_of_ble_eq_true rfl) hRf) (by first | decide | exact Nat.le_trans (Nat.le_of_ble_eq_true rfl) hRl) (by first | (dsimp only; omega) | (dsimp only [gRs]; omega) | omega) (by first | (dsimp only; omega) | (dsimp only [gRs]; omega) | omega)) dL_state_150) rfl rfl rfl (fun H locs M => ?_)
      refine lv_iadd hx hb dL_state_153 ?_
      refine lv_imul hx hb dL_state_154 ?_
      refine lv_aload_n hx hb dL_state_155 rfl (lv_at hl 0 rfl) ?_
      refine lv_iload_n hx hb dL_state_156 rfl (lv_at hl 2 rfl) ?_
      obtain ⟨r50, h49, hf⟩ := btn_x hf
      refine g_callR (st1 := [.int r50, .int (31 * ((31 * v1) + r47))]) (cells' := cells + 2) (slots' := slots + 12) M (g_invV (index := 131) S M C0 hl (c_X12_usesLeft l hfl G H.size lo dd σ v2 h49) k_X12_usesLeft tw_3_231 tw_3_232 tw_3_230 (by decide) (ge_0 rfl) rfl rfl rfl rfl rfl (gRm_m2 (by first | decide | exact Nat.le_trans (Nat.le_of_ble_eq_true rfl) hRf) (by first | decide | exact Nat.le_trans (Nat.le_of_ble_eq_true rfl) hRl) (by first | (dsimp only; omega) | (dsimp only [gRs]; omega) | omega) (by first | (dsimp only; omega) | (dsimp only [gRs]; omega) | omega)) dL_state_157) rfl rfl rfl (fun H locs M => ?_)
      refine lv_iadd hx hb dL_state_160 ?_
      obtain ⟨x52, ex52, hf⟩ := nm_x hf
      refine g_topi ex52 ?_
      refine lv_istore_n (lv' := [(1, .int x52), (0, .ref (G.1 0)), (2, .int v2)]) hx hb dL_state_161 rfl hl (by decide) rfl (fun ls hl => ?_)
      obtain ⟨x53, ex53, hf⟩ := nm_x hf
      refine lv_iinc (v := x53) (lv' := [(2, .int x53), (1, .int x52), (0, .ref (G.1 0))]) hx hb dL_state_162 hl (k := 2) rfl (by rw [ex53]; rfl) (by decide) rfl (fun ls hl => ?_)
      refine lv_goto (tgt := 134) hx hb dL_state_165 (by decide) ?_
      exact ih _ _ _ hf _ _ _ _ _ M (lv_sub hl [2, 1, 0] rfl) (by omega) (by omega) kx
set_option maxHeartbeats 1000000 in
set_option maxRecDepth 100000 in
theorem w_L_state_L170 {p : Program} {l : Launch} {e : Env} {R : Room} {s : State} {m : MethodId} {args : Array Value} {below : List Frame} {meth : Method} {c : Code} {Q : State → Prop} {G : gT} {lo : Int64} {dd : UInt64} {C1 S1 : Nat} (S : CallFix p m c cL_state 4 s args gTs RL) (C0 : gCST G (gAA G s.heap.size) s) (hfl : l.stackTraces = false) (σ : gM) (hRf : 11 ≤ R.frames) (hRl : 190 ≤ R.locals) (hRc : C1 ≤ R.cells) (hRs : S1 ≤ R.slots) : ∀ (n : Nat) (v1 : Int32) (v2 : Int32) (res : Int32), f_L_state_L170 σ n v1 v2 = some res → ∀ (H : Heap) (locs : List Loc) (ls : Array Slot) (cells slots : Nat), gMS G (gAA G s.heap.size) lo dd σ s H locs → lv_has ls 4 [(0, .ref (G.1 0)), (1, .int v1), (2, .int v2)] → cells + n * 2 ≤ C1 → slots + n * 12 ≤ S1 → (∀ (u1 : Int32), res = u1 → ∀ (H : Heap) (locs : List Loc) (ls : Array Slot), gMS G (gAA G s.heap.size) lo dd σ s H locs → lv_has ls 4 [(0, .ref (G.1 0)), (1, .int u1)] → W p l e R s m args below meth c H locs C1 S1 Q (F0 m 201 ls [])) → W p l e R s m args below meth c H locs cells slots Q (F0 m 170 ls []) := by
  have hx := S.1
  have hb := S.2.1
  intro n
  induction n with
  | zero =>
    intro v1 v2 res hf
    cases hf
  | succ n ih =>
    intro v1 v2 res hf H locs ls cells slots M hl hcB hsB kx
    rw [f_L_state_L170] at hf
    refine lv_iload_n hx hb dL_state_170 rfl (lv_at hl 2 rfl) ?_
    refine lv_iconst (v := 3) hx hb dL_state_171 (by decide) ?_
    refine lv_icmp_ge (tgt := 201) hx hb dL_state_172 (by decide) (fun c56 => ?_) (fun c56 => ?_)
    · have hf := it_p c56 hf
      cases hf
      refine W.widen (k := C1) (n := S1) (by omega) (by omega) ?_
      exact kx _ rfl _ _ _ M (lv_sub hl [0, 1] rfl)
    · have hf := it_n c56 hf
      refine lv_bipush (v := 31) hx hb dL_state_175 (by decide) ?_
      refine lv_bipush (v := 31) hx hb dL_state_177 (by decide) ?_
      refine lv_iload_n hx hb dL_state_179 rfl (lv_at hl 1 rfl) ?_
      refine lv_imul hx hb dL_state_180 ?_
      refine lv_aload_n hx hb dL_state_181 rfl (lv_at hl 0 rfl) ?_
      refine lv_iload_n hx hb dL_state_182 rfl (lv_at hl 2 rfl) ?_
      obtain ⟨r58, h57, hf⟩ := btn_x hf
      refine g_callR (st1 := [.int r58, .int (31 * v1), .int 31]) (cells' := cells + 1) (slots' := slots + 6) M (g_invV (index := 134) S M C0 hl (c_X12_place l hfl G H.size lo dd σ v2 h57) k_X12_place tw_4_43 tw_4_44 tw_4_42 (by decide) (ge_0 rfl) rfl rfl rfl rfl rfl (gRm_m2 (by first | decide | exact Nat.le_trans (Nat.le_of_ble_eq_true rfl) hRf) (by first | decide | exact Nat.le_trans (Nat.le_of_ble_eq_true rfl) hRl) (by first | (dsimp only; omega) | (dsimp only [gRs]; omega) | omega) (by first | (dsimp only; omega) | (dsimp only [gRs]; omega) | omega)) dL_state_183) rfl rfl rfl (fun H locs M => ?_)
      refine lv_iadd hx hb dL_state_186 ?_
      refine lv_imul hx hb dL_state_187 ?_
      refine lv_aload_n hx hb dL_state_188 rfl (lv_at hl 0 rfl) ?_
      refine lv_iload_n hx hb dL_state_189 rfl (lv_at hl 2 rfl) ?_
      obtain ⟨r61, h60, hf⟩ := btn_x hf
      refine g_callR (st1 := [.int r61, .int (31 * ((31 * v1) + r58))]) (cells' := cells + 2) (slots' := slots + 12) M (g_invV (index := 137) S M C0 hl (c_X12_capacity l hfl G H.size lo dd σ v2 h60) k_X12_capacity tw_4_48 tw_4_49 tw_4_47 (by decide) (ge_0 rfl) rfl rfl rfl rfl rfl (gRm_m2 (by first | decide | exact Nat.le_trans (Nat.le_of_ble_eq_true rfl) hRf) (by first | decide | exact Nat.le_trans (Nat.le_of_ble_eq_true rfl) hRl) (by first | (dsimp only; omega) | (dsimp only [gRs]; omega) | omega) (by first | (dsimp only; omega) | (dsimp only [gRs]; omega) | omega)) dL_state_190) rfl rfl rfl (fun H locs M => ?_)
      refine lv_iadd hx hb dL_state_193 ?_
      obtain ⟨x63, ex63, hf⟩ := nm_x hf
      refine g_topi ex63 ?_
      refine lv_istore_n (lv' := [(1, .int x63), (0, .ref (G.1 0)), (2, .int v2)]) hx hb dL_state_194 rfl hl (by decide) rfl (fun ls hl => ?_)
      obtain ⟨x64, ex64, hf⟩ := nm_x hf
      refine lv_iinc (v := x64) (lv' := [(2, .int x64), (1, .int x63), (0, .ref (G.1 0))]) hx hb dL_state_195 hl (k := 2) rfl (by rw [ex64]; rfl) (by decide) rfl (fun ls hl => ?_)
      refine lv_goto (tgt := 170) hx hb dL_state_198 (by decide) ?_
      exact ih _ _ _ hf _ _ _ _ _ M (lv_sub hl [2, 1, 0] rfl) (by omega) (by omega) kx
set_option maxHeartbeats 1000000 in
set_option maxRecDepth 100000 in
theorem c_L_state (l : Launch) (hfl : l.stackTraces = false) (G : gT) (sz : Nat) (lo : Int64) (dd : UInt64) (σ : gM) {r : Int32} (hf : f_L_state σ = some r) : gCT l yL_state cL_state 4 (some .int) { frames := 11, cells := 756, slots := 4536, locals := 190 } 756 4536 G sz [.ref (G.1 0)] lo dd σ (.inl (mkI r, σ, lo, dd)) := by
  refine gCT_of (by decide) (Nat.le_of_ble_eq_true rfl) (fun p e s m args below meth c ls S hr hlk hnx hsz C0 hl H locs M => ?_)
  subst hsz
  have hx := S.1
  have hb := S.2.1
  unfold f_L_state at hf
  refine lv_bipush (v := 31) hx hb dL_state_0 (by decide) ?_
  refine lv_bipush (v := 31) hx hb dL_state_2 (by decide) ?_
  refine lv_aload_n hx hb dL_state_4 rfl (lv_at hl 0 rfl) ?_
  obtain ⟨r2, h1, hf⟩ := bd_x hf
  refine g_callR (st1 := [.int r2, .int 31, .int 31]) (cells' := 0) (slots' := 0) M (g_invV (index := 100) S M C0 hl (c_X12_effortSoFar l G H.size lo dd σ  h1) k_X12_effortSoFar tw_4_95 tw_4_96 tw_4_94 (by decide) (ge_0 rfl) rfl rfl rfl rfl rfl rfl dL_state_5) rfl rfl rfl (fun H locs M => ?_)
  refine lv_imul hx hb dL_state_8 ?_
  refine lv_aload_n hx hb dL_state_9 rfl (lv_at hl 0 rfl) ?_
  obtain ⟨r4, h3, hf⟩ := bd_x hf
  refine g_callR (st1 := [.int r4, .int (31 * r2), .int 31]) (cells' := 0) (slots' := 0) M (g_invV (index := 103) S M C0 hl (c_X12_glovesUsedUp l G H.size lo dd σ  h3) k_X12_glovesUsedUp tw_4_103 tw_4_104 tw_4_102 (by decide) (ge_0 rfl) rfl rfl rfl rfl rfl rfl dL_state_10) rfl rfl rfl (fun H locs M => ?_)
  refine lv_iadd hx hb dL_state_13 ?_
  refine lv_imul hx hb dL_state_14 ?_
  refine lv_aload_n hx hb dL_state_15 rfl (lv_at hl 0 rfl) ?_
  obtain ⟨r6, h5, hf⟩ := bd_x hf
  refine g_callR (st1 := [.int r6, .int (31 * ((31 * r2) + r4))]) (cells' := 0) (slots' := 0) M (g_invV (index := 34) S M C0 hl (c_X12_parcelCount l G H.size lo dd σ  h5) k_X12_parcelCount tw_5_188 tw_5_189 tw_5_187 (by decide) (ge_0 rfl) rfl rfl rfl rfl rfl rfl dL_state_16) rfl rfl rfl (fun H locs M => ?_)
  refine lv_iadd hx hb dL_state_19 ?_
  obtain ⟨x7, ex7, hf⟩ := nm_x hf
  refine g_topi ex7 ?_
  refine lv_istore_n (lv' := [(1, .int x7), (0, .ref (G.1 0))]) hx hb dL_state_20 rfl hl (by decide) rfl (fun ls hl => ?_)
  refine lv_iconst (v := 0) hx hb dL_state_21 (by decide) ?_
  refine lv_istore_n (lv' := [(2, .int 0), (1, .int x7), (0, .ref (G.1 0))]) hx hb dL_state_22 rfl hl (by decide) rfl (fun ls hl => ?_)
  obtain ⟨y18, h17, hf⟩ := bd_x hf
  refine w_L_state_L23 (C1 := 588) (S1 := 3528) S C0 hfl σ (by decide) (by decide) (by decide) (by decide) 14 x7 0 _ h17 _ _ _ _ _ M (lv_sub hl [2, 1, 0] rfl) (by omega) (by omega) (fun _ eq H locs ls M hl => ?_)
  cases eq
  refine lv_iconst (v := 0) hx hb dL_state_60 (by decide) ?_
  refine lv_istore_n (lv' := [(2, .int 0), (0, .ref (G.1 0)), (1, .int y18)]) hx hb dL_state_61 rfl hl (by decide) rfl (fun ls hl => ?_)
  obtain ⟨y42, h41, hf⟩ := bd_x hf
  refine w_L_state_L62 (C1 := 700) (S1 := 4200) S C0 hfl σ (by decide) (by decide) (by decide) (by decide) 14 y18 0 _ h41 _ _ _ _ _ M (lv_sub hl [1, 2, 0] rfl) (by omega) (by omega) (fun _ eq H locs ls M hl => ?_)
  cases eq
  refine lv_iconst (v := 0) hx hb dL_state_132 (by decide) ?_
  refine lv_istore_n (lv' := [(2, .int 0), (0, .ref (G.1 0)), (1, .int y42)]) hx hb dL_state_133 rfl hl (by decide) rfl (fun ls hl => ?_)
  obtain ⟨y55, h54, hf⟩ := bd_x hf
  refine w_L_state_L134 (C1 := 728) (S1 := 4368) S C0 hfl σ (by decide) (by decide) (by decide) (by decide) 14 y42 0 _ h54 _ _ _ _ _ M (lv_sub hl [1, 2, 0] rfl) (by omega) (by omega) (fun _ eq H locs ls M hl => ?_)
  cases eq
  refine lv_iconst (v := 0) hx hb dL_state_168 (by decide) ?_
  refine lv_istore_n (lv' := [(2, .int 0), (0, .ref (G.1 0)), (1, .int y55)]) hx hb dL_state_169 rfl hl (by decide) rfl (fun ls hl => ?_)
  obtain ⟨y66, h65, hf⟩ := bd_x hf
  refine w_L_state_L170 (C1 := 756) (S1 := 4536) S C0 hfl σ (by decide) (by decide) (by decide) (by decide) 14 y55 0 _ h65 _ _ _ _ _ M (lv_sub hl [1, 2, 0] rfl) (by omega) (by omega) (fun _ eq H locs ls M hl => ?_)
  cases eq
  refine lv_bipush (v := 31) hx hb dL_state_201 (by decide) ?_
  refine lv_iload_n hx hb dL_state_203 rfl (lv_at hl 1 rfl) ?_
  refine lv_imul hx hb dL_state_204 ?_
  refine lv_aload_n hx hb dL_state_205 rfl (lv_at hl 0 rfl) ?_
  obtain ⟨r68, h67, hf⟩ := bd_x hf
  refine g_callR (st1 := [.int r68, .int (31 * y66)]) (cells' := 756) (slots' := 4536) M (g_invV (index := 125) S M C0 hl (c_X12_gloveCount l G H.size lo dd σ  h67) k_X12_gloveCount tw_3_215 tw_3_216 tw_3_214 (by decide) (ge_0 rfl) rfl rfl rfl rfl rfl rfl dL_state_206) rfl rfl rfl (fun H locs M => ?_)
  refine lv_iadd hx hb dL_state_209 ?_
  cases hf
  exact g_iret S M hr hlk (by omega) (by omega) dL_state_210 rfl
theorem k_L_put : gMV yL_put cL_put 3 none 2 := ⟨tw_5_133, tw_1_0, by decide⟩
set_option maxHeartbeats 1000000 in
set_option maxRecDepth 100000 in
theorem w_L_put_L2 {p : Program} {l : Launch} {e : Env} {R : Room} {s : State} {m : MethodId} {args : Array Value} {below : List Frame} {meth : Method} {c : Code} {Q : State → Prop} {G : gT} {lo : Int64} {dd : UInt64} {C1 S1 : Nat} (S : CallFix p m c cL_put 3 s args gTs RL) (C0 : gCST G (gAA G s.heap.size) s) (hfl : l.stackTraces = false) (tx : List Int32) {q v : Nat} (hq : gStr G q v tx) (hRf : 9 ≤ R.frames) (hRl : 200 ≤ R.locals) (hRc : C1 ≤ R.cells) (hRs : S1 ≤ R.slots) : ∀ (n : Nat) (v2 : Int32) (σ : gM) (res : gM), f_L_put_L2 tx n v2 σ = some res → ∀ (H : Heap) (locs : List Loc) (ls : Array Slot) (cells slots : Nat), gMS G (gAA G s.heap.size) lo dd σ s H locs → lv_has ls 3 [(0, .ref (G.1 0)), (1, .ref q), (2, .int v2)] → cells + n * 1 ≤ C1 → slots + n * 6 ≤ S1 → (∀ (τ : gM), res = τ → ∀ (H : Heap) (locs : List Loc) (ls : Array Slot), gMS G (gAA G s.heap.size) lo dd τ s H locs → lv_has ls 3 [] → W p l e R s m args below meth c H locs C1 S1 Q (F0 m 26 ls [])) → W p l e R s m args below meth c H locs cells slots Q (F0 m 2 ls []) := by
  have hx := S.1
  have hb := S.2.1
  intro n
  induction n with
  | zero =>
    intro v2 σ res hf
    cases hf
  | succ n ih =>
    intro v2 σ res hf H locs ls cells slots M hl hcB hsB kx
    rw [f_L_put_L2] at hf
    refine lv_iload_n hx hb dL_put_2 rfl (lv_at hl 2 rfl) ?_
    refine lv_aload_n hx hb dL_put_3 rfl (lv_at hl 1 rfl) ?_
    refine g_slenL S M C0 hl hq rfl (gRm_m2 (by first | decide | exact Nat.le_trans (Nat.le_of_ble_eq_true rfl) hRf) (by first | decide | exact Nat.le_trans (Nat.le_of_ble_eq_true rfl) hRl) (by first | (dsimp only; omega) | (dsimp only [gRs]; omega) | omega) (by first | (dsimp only; omega) | (dsimp only [gRs]; omega) | omega)) dL_put_4 ?_
    intro H locs M
    refine lv_icmp_ge (tgt := 26) hx hb dL_put_7 (by decide) (fun c1 => ?_) (fun c1 => ?_)
    · have hf := it_p c1 hf
      cases hf
      refine W.widen (k := C1) (n := S1) (by omega) (by omega) ?_
      exact kx _ rfl _ _ _ M (lv_sub hl [] rfl)
    · have hf := it_n c1 hf
      refine lv_aload_n hx hb dL_put_10 rfl (lv_at hl 0 rfl) ?_
      refine lv_aload_n hx hb dL_put_11 rfl (lv_at hl 1 rfl) ?_
      refine lv_iload_n hx hb dL_put_12 rfl (lv_at hl 2 rfl) ?_
      obtain ⟨h2, hf⟩ := gi_x hf
      refine g_scharL S M C0 hl hq h2 rfl (gRm_m2 (by first | decide | exact Nat.le_trans (Nat.le_of_ble_eq_true rfl) hRf) (by first | decide | exact Nat.le_trans (Nat.le_of_ble_eq_true rfl) hRl) (by first | (dsimp only; omega) | (dsimp only [gRs]; omega) | omega) (by first | (dsimp only; omega) | (dsimp only [gRs]; omega) | omega)) dL_put_13 ?_
      intro H locs M
      obtain ⟨r4, σ5, h3, hf⟩ := btn2_x hf
      refine g_callR (st1 := [.int r4]) (cells' := cells + 1) (slots' := slots + 6) M (g_invV (index := 17) S M C0 hl (c_X12_feed l hfl G H.size lo dd σ (tx.getD v2.toNatClampNeg 0) h3) k_X12_feed tw_5_137 tw_5_138 tw_5_136 (by decide) (ge_0 rfl) rfl rfl rfl rfl rfl (gRm_m2 (by first | decide | exact Nat.le_trans (Nat.le_of_ble_eq_true rfl) hRf) (by first | decide | exact Nat.le_trans (Nat.le_of_ble_eq_true rfl) hRl) (by first | (dsimp only; omega) | (dsimp only [gRs]; omega) | omega) (by first | (dsimp only; omega) | (dsimp only [gRs]; omega) | omega)) dL_put_16) rfl rfl rfl (fun H locs M => ?_)
      refine lv_pop hx hb dL_put_19 rfl ?_
      obtain ⟨x7, ex7, hf⟩ := nm_x hf
      refine lv_iinc (v := x7) (lv' := [(2, .int x7), (0, .ref (G.1 0)), (1, .ref q)]) hx hb dL_put_20 hl (k := 2) rfl (by rw [ex7]; rfl) (by decide) rfl (fun ls hl => ?_)
      refine lv_goto (tgt := 2) hx hb dL_put_23 (by decide) ?_
      exact ih _ _ _ hf _ _ _ _ _ M (lv_sub hl [1, 2, 0] rfl) (by omega) (by omega) kx
set_option maxHeartbeats 1000000 in
set_option maxRecDepth 100000 in
theorem c_L_put (l : Launch) (hfl : l.stackTraces = false) (G : gT) (sz : Nat) (lo : Int64) (dd : UInt64) (σ : gM) {q v : Nat} {tx : List Int32} (hq : gStr G q v tx) {o : gM} (hf : f_L_put σ tx = some o) : gCT l yL_put cL_put 3 none { frames := 9, cells := 70, slots := 420, locals := 200 } 70 420 G sz [.ref (G.1 0), .ref q] lo dd σ (.inl (none, o, lo, dd)) := by
  refine gCT_of (by decide) (Nat.le_of_ble_eq_true rfl) (fun p e s m args below meth c ls S hr hlk hnx hsz C0 hl H locs M => ?_)
  subst hsz
  have hx := S.1
  have hb := S.2.1
  unfold f_L_put at hf
  refine lv_iconst (v := 0) hx hb dL_put_0 (by decide) ?_
  refine lv_istore_n (lv' := [(2, .int 0), (0, .ref (G.1 0)), (1, .ref q)]) hx hb dL_put_1 rfl hl (by decide) rfl (fun ls hl => ?_)
  obtain ⟨σ9, h8, hf⟩ := bd_x hf
  refine w_L_put_L2 (C1 := 70) (S1 := 420) S C0 hfl tx hq (by decide) (by decide) (by decide) (by decide) 70 0 σ _ h8 _ _ _ _ _ M (lv_sub hl [1, 2, 0] rfl) (by omega) (by omega) (fun _ eq H locs ls M hl => ?_)
  cases eq
  cases hf
  exact g_vret S M hr hlk (by omega) (by omega) dL_put_26 rfl
theorem k_L_isLine : gMV yL_isLine cL_isLine 4 (some .boolean) 3 := ⟨tw_5_227, tw_1_0, by decide⟩
set_option maxHeartbeats 1000000 in
set_option maxRecDepth 100000 in
theorem w_L_isLine_L12 {p : Program} {l : Launch} {e : Env} {R : Room} {s : State} {m : MethodId} {args : Array Value} {below : List Frame} {meth : Method} {c : Code} {Q : State → Prop} {G : gT} {lo : Int64} {dd : UInt64} {C1 S1 : Nat} (S : CallFix p m c cL_isLine 4 s args gTs RL) (C0 : gCST G (gAA G s.heap.size) s) (hfl : l.stackTraces = false) (p1 : Int32) (tx : List Int32) {q v : Nat} (hq : gStr G q v tx) (σ : gM) (hRf : 9 ≤ R.frames) (hRl : 200 ≤ R.locals) (hRc : C1 ≤ R.cells) (hRs : S1 ≤ R.slots) : ∀ (n : Nat) (v3 : Int32) (res : Unit), f_L_isLine_L12 p1 tx σ n v3 = some res → ∀ (H : Heap) (locs : List Loc) (ls : Array Slot) (cells slots : Nat), gMS G (gAA G s.heap.size) lo dd σ s H locs → lv_has ls 4 [(0, .ref (G.1 0)), (1, .int p1), (2, .ref q), (3, .int v3)] → cells + n * 1 ≤ C1 → slots + n * 6 ≤ S1 → (res = () → ∀ (H : Heap) (locs : List Loc) (ls : Array Slot), gMS G (gAA G s.heap.size) lo dd σ s H locs → lv_has ls 4 [] → W p l e R s m args below meth c H locs C1 S1 Q (F0 m 38 ls [])) → W p l e R s m args below meth c H locs cells slots Q (F0 m 12 ls []) := by
  have hx := S.1
  have hb := S.2.1
  intro n
  induction n with
  | zero =>
    intro v3 res hf
    cases hf
  | succ n ih =>
    intro v3 res hf H locs ls cells slots M hl hcB hsB kx
    rw [f_L_isLine_L12] at hf
    refine lv_iload_n hx hb dL_isLine_12 rfl (lv_at hl 3 rfl) ?_
    refine lv_iload_n hx hb dL_isLine_13 rfl (lv_at hl 1 rfl) ?_
    refine lv_icmp_ge (tgt := 38) hx hb dL_isLine_14 (by decide) (fun c2 => ?_) (fun c2 => ?_)
    · have hf := it_p c2 hf
      cases hf
      refine W.widen (k := C1) (n := S1) (by omega) (by omega) ?_
      exact kx rfl _ _ _ M (lv_sub hl [] rfl)
    · have hf := it_n c2 hf
      refine lv_aload_n hx hb dL_isLine_17 rfl (lv_at hl 0 rfl) ?_
      refine lv_iload_n hx hb dL_isLine_18 rfl (lv_at hl 3 rfl) ?_
      obtain ⟨r4, h3, hf⟩ := btn_x hf
      refine g_callR (st1 := [.int r4]) (cells' := cells + 1) (slots' := slots + 6) M (g_invV (index := 282) S M C0 hl (c_X12_outputChar l hfl G H.size lo dd σ v3 h3) k_X12_outputChar tw_5_229 tw_5_230 tw_5_228 (by decide) (ge_0 rfl) rfl rfl rfl rfl rfl (gRm_m2 (by first | decide | exact Nat.le_trans (Nat.le_of_ble_eq_true rfl) hRf) (by first | decide | exact Nat.le_trans (Nat.le_of_ble_eq_true rfl) hRl) (by first | (dsimp only; omega) | (dsimp only [gRs]; omega) | omega) (by first | (dsimp only; omega) | (dsimp only [gRs]; omega) | omega)) dL_isLine_19) rfl rfl rfl (fun H locs M => ?_)
      refine lv_aload_n hx hb dL_isLine_22 rfl (lv_at hl 2 rfl) ?_
      refine lv_iload_n hx hb dL_isLine_23 rfl (lv_at hl 3 rfl) ?_
      obtain ⟨h6, hf⟩ := gi_x hf
      refine g_scharL S M C0 hl hq h6 rfl (gRm_m2 (by first | decide | exact Nat.le_trans (Nat.le_of_ble_eq_true rfl) hRf) (by first | decide | exact Nat.le_trans (Nat.le_of_ble_eq_true rfl) hRl) (by first | (dsimp only; omega) | (dsimp only [gRs]; omega) | omega) (by first | (dsimp only; omega) | (dsimp only [gRs]; omega) | omega)) dL_isLine_24 ?_
      intro H locs M
      refine lv_icmp_eq (tgt := 32) hx hb dL_isLine_27 (by decide) (fun c7 => ?_) (fun c7 => ?_)
      · have hf := it_p c7 hf
        obtain ⟨x8, ex8, hf⟩ := nm_x hf
        refine lv_iinc (v := x8) (lv' := [(3, .int x8), (0, .ref (G.1 0)), (1, .int p1), (2, .ref q)]) hx hb dL_isLine_32 hl (k := 3) rfl (by rw [ex8]; rfl) (by decide) rfl (fun ls hl => ?_)
        refine lv_goto (tgt := 12) hx hb dL_isLine_35 (by decide) ?_
        exact ih _ _ hf _ _ _ _ _ M (lv_sub hl [1, 2, 3, 0] rfl) (by omega) (by omega) kx
      · have hf := it_n c7 hf
        cases hf
set_option maxHeartbeats 1000000 in
set_option maxRecDepth 100000 in
theorem c_L_isLine (l : Launch) (hfl : l.stackTraces = false) (G : gT) (sz : Nat) (lo : Int64) (dd : UInt64) (σ : gM) (a1 : Int32) {q v : Nat} {tx : List Int32} (hq : gStr G q v tx) {r : Int32} (hf : f_L_isLine σ a1 tx = some r) : gCT l yL_isLine cL_isLine 4 (some .boolean) { frames := 9, cells := 20, slots := 120, locals := 200 } 20 120 G sz [.ref (G.1 0), .int a1, .ref q] lo dd σ (.inl (mkI r, σ, lo, dd)) := by
  refine gCT_of (by decide) (Nat.le_of_ble_eq_true rfl) (fun p e s m args below meth c ls S hr hlk hnx hsz C0 hl H locs M => ?_)
  subst hsz
  have hx := S.1
  have hb := S.2.1
  unfold f_L_isLine at hf
  refine lv_iload_n hx hb dL_isLine_0 rfl (lv_at hl 1 rfl) ?_
  refine lv_aload_n hx hb dL_isLine_1 rfl (lv_at hl 2 rfl) ?_
  refine g_slenL S M C0 hl hq rfl rfl dL_isLine_2 ?_
  intro H locs M
  refine lv_icmp_eq (tgt := 10) hx hb dL_isLine_5 (by decide) (fun c1 => ?_) (fun c1 => ?_)
  · have hf := it_p c1 hf
    refine lv_iconst (v := 0) hx hb dL_isLine_10 (by decide) ?_
    refine lv_istore_n (lv' := [(3, .int 0), (0, .ref (G.1 0)), (1, .int a1), (2, .ref q)]) hx hb dL_isLine_11 rfl hl (by decide) rfl (fun ls hl => ?_)
    obtain ⟨u, h9, hf⟩ := bd_x hf
    refine w_L_isLine_L12 (C1 := 20) (S1 := 120) S C0 hfl a1 tx hq σ (by decide) (by decide) (by decide) (by decide) 20 0 _ h9 _ _ _ _ _ M (lv_sub hl [1, 2, 3, 0] rfl) (by omega) (by omega) (fun eq H locs ls M hl => ?_)
    cases eq
    refine lv_iconst (v := 1) hx hb dL_isLine_38 (by decide) ?_
    cases hf
    exact g_zret S M hr hlk (by decide) (by omega) (by omega) dL_isLine_39 rfl
  · have hf := it_n c1 hf
    cases hf
def tb_L_runs : List (Nat × Nat × Nat × Nat) := [(0, 4, 5, 83), (0, 4, 8, 87)]
theorem k_L_runs : gMW yL_runs cL_runs 2 (some .int) tb_L_runs 1 := ⟨tw_6_2, tw_1_0, by decide⟩
set_option maxHeartbeats 1000000 in
set_option maxRecDepth 100000 in
theorem c_L_runs (l : Launch) (hfl : l.stackTraces = false) (G : gT) (sz : Nat) (lo : Int64) (dd : UInt64) (σ : gM) {r : Int32} {o : gM} (hf : f_L_runs σ = some (r, o)) : gCW l yL_runs cL_runs 2 (some .int) tb_L_runs { frames := 10, cells := 1, slots := 6, locals := 294 } 1 6 G sz [.ref (G.1 0)] lo dd σ (.inl (mkI r, o, lo, dd)) := by
  refine gCW_of (by decide) tw_6_2 (Nat.le_of_ble_eq_true rfl) (fun p e s m args below meth c ls S hr hlk htab hsz C0 hl H locs M => ?_)
  subst hsz
  have hx := S.1
  have hb := S.2.1
  unfold f_L_runs at hf
  refine lv_aload_n hx hb dL_runs_0 rfl (lv_at hl 0 rfl) ?_
  rcases bt2_x hf with ⟨r2, σ3, h1, hf⟩ | ⟨n4, σ3, h1, hf⟩
  · refine g_callR (st1 := [.int r2]) (cells' := 1) (slots' := 6) M (g_invV (index := 176) S M C0 hl (c_X12_runCommands l hfl G H.size lo dd σ  h1) k_X12_runCommands tw_4_174 tw_4_175 tw_4_173 (by decide) (ge_0 rfl) rfl rfl rfl rfl rfl rfl dL_runs_1) rfl rfl rfl (fun H locs M => ?_)
    cases hf
    exact g_iret S M hr hlk (by omega) (by omega) dL_runs_4 rfl
  · refine g_runX (cells' := 1) (slots' := 6) M (g_invV (index := 176) S M C0 hl (c_X12_runCommands l hfl G H.size lo dd σ  h1) k_X12_runCommands tw_4_174 tw_4_175 tw_4_173 (by decide) (ge_0 rfl) rfl rfl rfl rfl rfl rfl dL_runs_1) rfl rfl (fun ce q H locs M hq hv hcl => ?_)
    by_cases hc : n4 = 1
    · have hf := it_p hc hf
      subst hc
      refine vx_catch (E := "java/lang/IllegalArgumentException") (name := "java/lang/IllegalArgumentException") S.2.2.2.1 (tableOf (tb_L_runs.take 0)) ⟨0, 4, 5, 83⟩ (tableOf (tb_L_runs.drop 1)) (htab.trans rfl) (l_pass tb_L_runs 0 1 [] gp_n (by decide +kernel)) rfl (by decide) (S.2.2.2.2 _ tw_5_175) (va_any rfl (C0.2.1 _ (by decide +kernel))) hq hv hcl ?_
      refine lv_astore_n (lv' := [(1, .ref q), (0, .ref (G.1 0))]) hx hb dL_runs_5 rfl hl (by decide) rfl (fun ls hl => ?_)
      refine lv_iconst (v := (-1)) hx hb dL_runs_6 (by decide) ?_
      cases hf
      exact g_iret S M hr hlk (by omega) (by omega) dL_runs_7 rfl
    · have hf := it_n hc hf
      by_cases hc : n4 = 3
      · have hf := it_p hc hf
        subst hc
        refine vx_catch (E := "java/lang/UnsupportedOperationException") (name := "java/lang/UnsupportedOperationException") S.2.2.2.1 (tableOf (tb_L_runs.take 1)) ⟨0, 4, 8, 87⟩ (tableOf (tb_L_runs.drop 2)) (htab.trans rfl) (l_pass tb_L_runs 1 1 [(83, "java/lang/IllegalArgumentException")] (gp_c ⟨by decide, S.2.2.2.2 _ tw_5_175, C0.2.2.2.1.1 ("java/lang/UnsupportedOperationException", "java/lang/IllegalArgumentException") (by decide +kernel)⟩ gp_n) (by decide +kernel)) rfl (by decide) (S.2.2.2.2 _ tw_5_177) (va_any rfl (C0.2.1 _ (by decide +kernel))) hq hv hcl ?_
        refine lv_astore_n (lv' := [(1, .ref q), (0, .ref (G.1 0))]) hx hb dL_runs_8 rfl hl (by decide) rfl (fun ls hl => ?_)
        refine lv_bipush (v := (-2)) hx hb dL_runs_9 (by decide) ?_
        cases hf
        exact g_iret S M hr hlk (by omega) (by omega) dL_runs_11 rfl
      · have hf := it_n hc hf
        cases hf
theorem k_L_fails : gMV yL_fails cL_fails 3 (some .boolean) 3 := ⟨tw_6_5, tw_1_0, by decide⟩
set_option maxHeartbeats 1000000 in
set_option maxRecDepth 100000 in
theorem c_L_fails (l : Launch) (hfl : l.stackTraces = false) (G : gT) (sz : Nat) (lo : Int64) (dd : UInt64) (σ : gM) (a2 : Int32) {q v : Nat} {tx : List Int32} (hq : gStr G q v tx) {r : Int32} {o : gM} (hf : f_L_fails σ tx a2 = some (r, o)) : gCT l yL_fails cL_fails 3 (some .boolean) { frames := 11, cells := 72, slots := 432, locals := 315 } 72 432 G sz [.ref (G.1 0), .ref q, .int a2] lo dd σ (.inl (mkI r, o, lo, dd)) := by
  refine gCT_of (by decide) (Nat.le_of_ble_eq_true rfl) (fun p e s m args below meth c ls S hr hlk hnx hsz C0 hl H locs M => ?_)
  subst hsz
  have hx := S.1
  have hb := S.2.1
  unfold f_L_fails at hf
  refine lv_aload_n hx hb dL_fails_0 rfl (lv_at hl 0 rfl) ?_
  refine lv_aload_n hx hb dL_fails_1 rfl (lv_at hl 1 rfl) ?_
  obtain ⟨σ2, h1, hf⟩ := bd_x hf
  refine g_callR (st1 := []) (cells' := 70) (slots' := 420) M (g_invS (index := 173) S M C0 hl (c_L_put l hfl G H.size lo dd σ hq h1) k_L_put tw_5_132 tw_5_131 rfl rfl rfl rfl dL_fails_2) rfl rfl rfl (fun H locs M => ?_)
  refine lv_aload_n hx hb dL_fails_5 rfl (lv_at hl 0 rfl) ?_
  obtain ⟨r4, σ5, h3, hf⟩ := bd2_x hf
  refine g_callR (st1 := [.int r4]) (cells' := 71) (slots' := 426) M (g_invW (index := 184) S M C0 hl (c_L_runs l hfl G H.size lo dd σ2  h3) k_L_runs tw_6_1 tw_6_0 rfl rfl rfl rfl dL_fails_6) rfl rfl rfl (fun H locs M => ?_)
  refine lv_iconst (v := (-1)) hx hb dL_fails_9 (by decide) ?_
  refine lv_icmp_ne (tgt := 25) hx hb dL_fails_10 (by decide) (fun c6 => ?_) (fun c6 => ?_)
  · have hf := it_n c6 hf
    cases hf
  · have hf := it_p c6 hf
    refine lv_aload_n hx hb dL_fails_13 rfl (lv_at hl 0 rfl) ?_
    obtain ⟨r8, h7, hf⟩ := btn_x hf
    refine g_callR (st1 := [.int r8]) (cells' := 72) (slots' := 432) M (g_invV (index := 285) S M C0 hl (c_X12_errorPosition l hfl G H.size lo dd σ5  h7) k_X12_errorPosition tw_6_7 tw_6_8 tw_6_6 (by decide) (ge_0 rfl) rfl rfl rfl rfl rfl rfl dL_fails_14) rfl rfl rfl (fun H locs M => ?_)
    refine lv_iload_n hx hb dL_fails_17 rfl (lv_at hl 2 rfl) ?_
    refine lv_icmp_ne (tgt := 25) hx hb dL_fails_18 (by decide) (fun c10 => ?_) (fun c10 => ?_)
    · have hf := it_n c10 hf
      cases hf
    · have hf := it_p c10 hf
      refine lv_iconst (v := 1) hx hb dL_fails_21 (by decide) ?_
      refine lv_goto (tgt := 26) hx hb dL_fails_22 (by decide) ?_
      cases hf
      exact g_zret S M hr hlk (by decide) (by omega) (by omega) dL_fails_26 rfl
