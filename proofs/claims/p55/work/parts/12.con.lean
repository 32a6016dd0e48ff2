theorem k_X12_gloveFor : gMV yX12_gloveFor cX12_gloveFor 3 (some .int) 1 := ⟨tw_4_1, tw_1_1, by decide⟩
set_option maxHeartbeats 400000 in
set_option maxRecDepth 100000 in
theorem c_X12_gloveFor (l : Launch) (hfl : l.stackTraces = false) (G : gT) (sz : Nat) (lo : Int64) (dd : UInt64) (σ : gM) (a1 : Int32) {o : (Int32) ⊕ (Nat)} (hf : f_X12_gloveFor σ a1 = some o) : gCT l yX12_gloveFor cX12_gloveFor 3 (some .int) { frames := 9, cells := 2, slots := 12, locals := 145 } 2 12 G sz [.ref (G.1 0), .int a1] lo dd σ (got mkI o σ lo dd) := by
  refine gCT_of (by decide) (Nat.le_of_ble_eq_true rfl) (fun p e s m args below meth c ls S hr hlk hnx hsz C0 hl H locs M => ?_)
  subst hsz
  have hx := S.1
  have hb := S.2.1
  unfold f_X12_gloveFor at hf
  refine lv_aload_n hx hb dX12_gloveFor_0 rfl (lv_at hl 0 rfl) ?_
  refine lv_iload_n hx hb dX12_gloveFor_1 rfl (lv_at hl 1 rfl) ?_
  rcases bt_x hf with ⟨u, h1, hf⟩ | ⟨n2, h1, hf⟩
  · refine g_callR (st1 := []) (cells' := 1) (slots' := 6) M (g_invV (index := 134) S M C0 hl (c_X12_requireParcel l hfl G H.size lo dd σ a1  h1) k_X12_requireParcel tw_3_187 tw_0_8 tw_3_185 (by decide) (ge_0 rfl) rfl rfl rfl rfl rfl rfl dX12_gloveFor_2) rfl rfl rfl (fun H locs M => ?_)
    refine lv_aload_n hx hb dX12_gloveFor_5 rfl (lv_at hl 0 rfl) ?_
    refine gf_X12_0 (i := 0) S M (by decide) rfl tw_2_7 dX12_gloveFor_6 ?_
    refine gf_X3_1 (i := 1) S M (by decide) rfl tw_1_138 dX12_gloveFor_9 ?_
    refine lv_iload_n hx hb dX12_gloveFor_12 rfl (lv_at hl 1 rfl) ?_
    obtain ⟨r4, h3, hf⟩ := bd_x hf
    refine g_callR (st1 := [.int r4]) (cells' := 1) (slots' := 6) M (g_invV (index := 141) S M C0 hl (c_X8_hazardOf l G H.size lo dd σ a1  h3) k_X8_hazardOf tw_3_46 tw_3_47 tw_4_2 (by decide) (ge_3 rfl) rfl rfl rfl rfl rfl rfl dX12_gloveFor_13) rfl rfl rfl (fun H locs M => ?_)
    refine lv_istore_n (lv' := [(2, .int r4), (0, .ref (G.1 0)), (1, .int a1)]) hx hb dX12_gloveFor_16 rfl hl (by decide) rfl (fun ls hl => ?_)
    refine lv_iload_n hx hb dX12_gloveFor_17 rfl (lv_at hl 0 rfl) ?_
    refine lv_if_ne (tgt := 29) hx hb dX12_gloveFor_18 (by decide) (fun c5 => ?_) (fun c5 => ?_)
    · have hf := it_n c5 hf
      refine lv_aload_n hx hb dX12_gloveFor_29 rfl (lv_at hl 1 rfl) ?_
      refine gf_X12_0 (i := 0) S M (by decide) rfl tw_2_7 dX12_gloveFor_30 ?_
      refine gf_X3_2 (i := 1) S M (by decide) rfl tw_1_141 dX12_gloveFor_33 ?_
      refine lv_iload_n hx hb dX12_gloveFor_36 rfl (lv_at hl 0 rfl) ?_
      obtain ⟨r7, h6, hf⟩ := bd_x hf
      refine g_callR (st1 := [.int r7]) (cells' := 1) (slots' := 6) M (g_invV (index := 180) S M C0 hl (c_X6_bestAgainst l G H.size lo dd σ r4  h6) k_X6_bestAgainst tw_3_50 tw_3_51 tw_4_3 (by decide) (ge_4 rfl) rfl rfl rfl rfl rfl rfl dX12_gloveFor_37) rfl rfl rfl (fun H locs M => ?_)
      rcases bt_x hf with ⟨r9, h8, hf⟩ | ⟨n10, h8, hf⟩
      · refine g_callR (st1 := [.int r9]) (cells' := 2) (slots' := 12) M (g_invS (index := 109) S M C0 hl (c_X12_present l hfl G H.size lo dd σ r7  h8) k_X12_present tw_3_147 tw_3_146 rfl rfl rfl rfl dX12_gloveFor_40) rfl rfl rfl (fun H locs M => ?_)
        cases hf
        exact g_iret S M hr hlk (by decide) (by decide) dX12_gloveFor_43 rfl
      · cases hf
        refine g_runX (cells' := 2) (slots' := 12) M (g_invS (index := 109) S M C0 hl (c_X12_present l hfl G H.size lo dd σ r7  h8) k_X12_present tw_3_147 tw_3_146 rfl rfl rfl rfl dX12_gloveFor_40) rfl rfl (fun ce q H locs M hq hv hcl => ?_)
        exact g_out M hnx hlk hq hv hcl (by decide) (by decide) rfl
    · have hf := it_p c5 hf
      refine lv_bipush (v := (-5)) hx hb dX12_gloveFor_21 (by decide) ?_
      rcases bt_x hf with ⟨r12, h11, hf⟩ | ⟨n13, h11, hf⟩
      · refine g_callR (st1 := [.int r12]) (cells' := 2) (slots' := 12) M (g_invS (index := 177) S M C0 hl (c_X12_accepted l hfl G H.size lo dd σ (-5)  h11) k_X12_accepted tw_2_92 tw_2_91 rfl rfl rfl rfl dX12_gloveFor_23) rfl rfl rfl (fun H locs M => ?_)
        refine lv_goto (tgt := 43) hx hb dX12_gloveFor_26 (by decide) ?_
        cases hf
        exact g_iret S M hr hlk (by decide) (by decide) dX12_gloveFor_43 rfl
      · cases hf
        refine g_runX (cells' := 2) (slots' := 12) M (g_invS (index := 177) S M C0 hl (c_X12_accepted l hfl G H.size lo dd σ (-5)  h11) k_X12_accepted tw_2_92 tw_2_91 rfl rfl rfl rfl dX12_gloveFor_23) rfl rfl (fun ce q H locs M hq hv hcl => ?_)
        exact g_out M hnx hlk hq hv hcl (by decide) (by decide) rfl
  · cases hf
    refine g_runX (cells' := 1) (slots' := 6) M (g_invV (index := 134) S M C0 hl (c_X12_requireParcel l hfl G H.size lo dd σ a1  h1) k_X12_requireParcel tw_3_187 tw_0_8 tw_3_185 (by decide) (ge_0 rfl) rfl rfl rfl rfl rfl rfl dX12_gloveFor_2) rfl rfl (fun ce q H locs M hq hv hcl => ?_)
    exact g_out M hnx hlk hq hv hcl (by decide) (by decide) rfl
theorem k_X12_canHandle : gMV yX12_canHandle cX12_canHandle 2 (some .boolean) 1 := ⟨tw_4_7, tw_1_1, by decide⟩
set_option maxHeartbeats 400000 in
set_option maxRecDepth 100000 in
theorem c_X12_canHandle (l : Launch) (hfl : l.stackTraces = false) (G : gT) (sz : Nat) (lo : Int64) (dd : UInt64) (σ : gM) (a1 : Int32) {o : (Int32) ⊕ (Nat)} (hf : f_X12_canHandle σ a1 = some o) : gCT l yX12_canHandle cX12_canHandle 2 (some .boolean) { frames := 9, cells := 1, slots := 6, locals := 145 } 1 6 G sz [.ref (G.1 0), .int a1] lo dd σ (got mkI o σ lo dd) := by
  refine gCT_of (by decide) (Nat.le_of_ble_eq_true rfl) (fun p e s m args below meth c ls S hr hlk hnx hsz C0 hl H locs M => ?_)
  subst hsz
  have hx := S.1
  have hb := S.2.1
  unfold f_X12_canHandle at hf
  refine lv_aload_n hx hb dX12_canHandle_0 rfl (lv_at hl 0 rfl) ?_
  refine lv_iload_n hx hb dX12_canHandle_1 rfl (lv_at hl 1 rfl) ?_
  rcases bt_x hf with ⟨u, h1, hf⟩ | ⟨n2, h1, hf⟩
  · refine g_callR (st1 := []) (cells' := 1) (slots' := 6) M (g_invV (index := 134) S M C0 hl (c_X12_requireParcel l hfl G H.size lo dd σ a1  h1) k_X12_requireParcel tw_3_187 tw_0_8 tw_3_185 (by decide) (ge_0 rfl) rfl rfl rfl rfl rfl rfl dX12_canHandle_2) rfl rfl rfl (fun H locs M => ?_)
    refine lv_aload_n hx hb dX12_canHandle_5 rfl (lv_at hl 0 rfl) ?_
    refine gf_X12_0 (i := 0) S M (by decide) rfl tw_2_7 dX12_canHandle_6 ?_
    refine lv_iload_n hx hb dX12_canHandle_9 rfl (lv_at hl 1 rfl) ?_
    obtain ⟨r4, h3, hf⟩ := bd_x hf
    refine g_callR (st1 := [.int r4]) (cells' := 1) (slots' := 6) M (g_invV (index := 183) S M C0 hl (c_X3_isSafe l G H.size lo dd σ a1  h3) k_X3_isSafe tw_3_42 tw_3_43 tw_4_8 (by decide) (ge_1 rfl) rfl rfl rfl rfl rfl rfl dX12_canHandle_10) rfl rfl rfl (fun H locs M => ?_)
    obtain ⟨z5, hf⟩ := gn_x hf
    cases hf
    exact g_zret S M hr hlk (g_narZ z5) (by decide) (by decide) dX12_canHandle_13 rfl
  · cases hf
    refine g_runX (cells' := 1) (slots' := 6) M (g_invV (index := 134) S M C0 hl (c_X12_requireParcel l hfl G H.size lo dd σ a1  h1) k_X12_requireParcel tw_3_187 tw_0_8 tw_3_185 (by decide) (ge_0 rfl) rfl rfl rfl rfl rfl rfl dX12_canHandle_2) rfl rfl (fun ce q H locs M hq hv hcl => ?_)
    exact g_out M hnx hlk hq hv hcl (by decide) (by decide) rfl
theorem k_X6_usesOfGrade : gMV yX6_usesOfGrade cX6_usesOfGrade 4 (some .int) 1 := ⟨tw_4_20, tw_1_5, by decide⟩
set_option maxHeartbeats 400000 in
set_option maxRecDepth 100000 in
theorem w_X6_usesOfGrade_L4 {p : Program} {l : Launch} {e : Env} {s : State} {m : MethodId} {args : Array Value} {below : List Frame} {meth : Method} {c : Code} {Q : State → Prop} {G : gT} {lo : Int64} {dd : UInt64} (S : CallFix p m c cX6_usesOfGrade 4 s args gTs RX6) (C0 : gCST G (gAA G s.heap.size) s) (p1 : Int32) (σ : gM) : ∀ (n : Nat) (v2 : Int32) (v3 : Int32) (res : Int32), f_X6_usesOfGrade_L4 p1 σ n v2 v3 = some res → ∀ (H : Heap) (locs : List Loc) (ls : Array Slot), gMS G (gAA G s.heap.size) lo dd σ s H locs → lv_has ls 4 [(0, .ref (G.1 13)), (1, .int p1), (2, .int v2), (3, .int v3)] → (k37 : ∀ (u2 : Int32), res = u2 → ∀ (H : Heap) (locs : List Loc) (ls : Array Slot), gMS G (gAA G s.heap.size) lo dd σ s H locs → lv_has ls 4 [(2, .int u2)] → W p l e ({ frames := 0, cells := 0, slots := 0, locals := 0 } : Room) s m args below meth c H locs 0 0 Q (F0 m 37 ls [])) → W p l e ({ frames := 0, cells := 0, slots := 0, locals := 0 } : Room) s m args below meth c H locs 0 0 Q (F0 m 4 ls []) := by
  have hx := S.1
  have hb := S.2.1
  intro n
  induction n with
  | zero =>
    intro v2 v3 res hf
    cases hf
  | succ n ih =>
    intro v2 v3 res hf H locs ls M hl k37
    rw [f_X6_usesOfGrade_L4] at hf
    refine lv_iload_n hx hb dX6_usesOfGrade_4 rfl (lv_at hl 3 rfl) ?_
    refine lv_aload_n hx hb dX6_usesOfGrade_5 rfl (lv_at hl 0 rfl) ?_
    refine gf_X6_2 (i := 13) S M (by decide) rfl tw_1_106 dX6_usesOfGrade_6 ?_
    refine lv_icmp_ge (tgt := 37) hx hb dX6_usesOfGrade_9 (by decide) (fun c1 => ?_) (fun c1 => ?_)
    · have hf := it_p c1 hf
      cases hf
      exact k37 _ rfl _ _ _ M (lv_sub hl [2] rfl)
    · have hf := it_n c1 hf
      refine lv_aload_n hx hb dX6_usesOfGrade_12 rfl (lv_at hl 0 rfl) ?_
      refine gf_X6_0 (i := 13) S M (by decide) rfl tw_1_104 dX6_usesOfGrade_13 ?_
      refine lv_iload_n hx hb dX6_usesOfGrade_16 rfl (lv_at hl 3 rfl) ?_
      obtain ⟨h2, hf⟩ := gi_x hf
      refine gk_iald (i := 14) (k := v3.toNatClampNeg) S M (by decide) (gaa_8 rfl) h2 rfl dX6_usesOfGrade_17 ?_
      refine lv_iload_n hx hb dX6_usesOfGrade_18 rfl (lv_at hl 1 rfl) ?_
      refine lv_icmp_ne (tgt := 31) hx hb dX6_usesOfGrade_19 (by decide) (fun c3 => ?_) (fun c3 => ?_)
      · have hf := it_n c3 hf
        obtain ⟨x4, ex4, hf⟩ := nm_x hf
        refine lv_iinc (v := x4) (lv' := [(3, .int x4), (0, .ref (G.1 13)), (1, .int p1), (2, .int v2)]) hx hb dX6_usesOfGrade_31 hl (k := 3) rfl (by rw [ex4]; rfl) (by decide) rfl (fun ls hl => ?_)
        refine lv_goto (tgt := 4) hx hb dX6_usesOfGrade_34 (by decide) ?_
        exact ih _ _ _ hf _ _ _ M (lv_sub hl [1, 2, 3, 0] rfl) k37
      · have hf := it_p c3 hf
        refine lv_iload_n hx hb dX6_usesOfGrade_22 rfl (lv_at hl 2 rfl) ?_
        refine lv_aload_n hx hb dX6_usesOfGrade_23 rfl (lv_at hl 0 rfl) ?_
        refine gf_X6_1 (i := 13) S M (by decide) rfl tw_1_105 dX6_usesOfGrade_24 ?_
        refine lv_iload_n hx hb dX6_usesOfGrade_27 rfl (lv_at hl 3 rfl) ?_
        obtain ⟨h5, hf⟩ := gi_x hf
        refine gk_iald (i := 15) (k := v3.toNatClampNeg) S M (by decide) (gaa_8 rfl) h5 rfl dX6_usesOfGrade_28 ?_
        refine lv_iadd hx hb dX6_usesOfGrade_29 ?_
        obtain ⟨x6, ex6, hf⟩ := nm_x hf
        refine g_topi ex6 ?_
        refine lv_istore_n (lv' := [(2, .int x6), (0, .ref (G.1 13)), (1, .int p1), (3, .int v3)]) hx hb dX6_usesOfGrade_30 rfl hl (by decide) rfl (fun ls hl => ?_)
        obtain ⟨x7, ex7, hf⟩ := nm_x hf
        refine lv_iinc (v := x7) (lv' := [(3, .int x7), (2, .int x6), (0, .ref (G.1 13)), (1, .int p1)]) hx hb dX6_usesOfGrade_31 hl (k := 3) rfl (by rw [ex7]; rfl) (by decide) rfl (fun ls hl => ?_)
        refine lv_goto (tgt := 4) hx hb dX6_usesOfGrade_34 (by decide) ?_
        exact ih _ _ _ hf _ _ _ M (lv_sub hl [2, 3, 1, 0] rfl) k37
set_option maxHeartbeats 400000 in
set_option maxRecDepth 100000 in
theorem c_X6_usesOfGrade (l : Launch) (G : gT) (sz : Nat) (lo : Int64) (dd : UInt64) (σ : gM) (a1 : Int32) {o : Int32} (hf : f_X6_usesOfGrade σ a1 = some o) : gCT l yX6_usesOfGrade cX6_usesOfGrade 4 (some .int) { frames := 0, cells := 0, slots := 0, locals := 0 } 0 0 G sz [.ref (G.1 13), .int a1] lo dd σ (.inl (mkI o, σ, lo, dd)) := by
  refine gCT_of (by decide) (Nat.le_of_ble_eq_true rfl) (fun p e s m args below meth c ls S hr hlk hnx hsz C0 hl H locs M => ?_)
  subst hsz
  have hx := S.1
  have hb := S.2.1
  unfold f_X6_usesOfGrade at hf
  refine lv_iconst (v := 0) hx hb dX6_usesOfGrade_0 (by decide) ?_
  refine lv_istore_n (lv' := [(2, .int 0), (0, .ref (G.1 13)), (1, .int a1)]) hx hb dX6_usesOfGrade_1 rfl hl (by decide) rfl (fun ls hl => ?_)
  refine lv_iconst (v := 0) hx hb dX6_usesOfGrade_2 (by decide) ?_
  refine lv_istore_n (lv' := [(3, .int 0), (2, .int 0), (0, .ref (G.1 13)), (1, .int a1)]) hx hb dX6_usesOfGrade_3 rfl hl (by decide) rfl (fun ls hl => ?_)
  obtain ⟨y9, h8, hf⟩ := bd_x hf
  refine w_X6_usesOfGrade_L4 S C0 a1 σ gFU 0 0 _ h8 _ _ _ M (lv_sub hl [2, 3, 1, 0] rfl) (fun _ eq H locs ls M hl => ?_)
  cases eq
  refine lv_iload_n hx hb dX6_usesOfGrade_37 rfl (lv_at hl 0 rfl) ?_
  cases hf
  exact g_iret S M hr hlk (by decide) (by decide) dX6_usesOfGrade_38 rfl
theorem k_X8_waitingOfHazard : gMV yX8_waitingOfHazard cX8_waitingOfHazard 4 (some .int) 1 := ⟨tw_4_24, tw_1_4, by decide⟩
set_option maxHeartbeats 400000 in
set_option maxRecDepth 100000 in
theorem w_X8_waitingOfHazard_L4 {p : Program} {l : Launch} {e : Env} {s : State} {m : MethodId} {args : Array Value} {below : List Frame} {meth : Method} {c : Code} {Q : State → Prop} {G : gT} {lo : Int64} {dd : UInt64} (S : CallFix p m c cX8_waitingOfHazard 4 s args gTs RX8) (C0 : gCST G (gAA G s.heap.size) s) (p1 : Int32) (σ : gM) : ∀ (n : Nat) (v2 : Int32) (v3 : Int32) (res : Int32), f_X8_waitingOfHazard_L4 p1 σ n v2 v3 = some res → ∀ (H : Heap) (locs : List Loc) (ls : Array Slot), gMS G (gAA G s.heap.size) lo dd σ s H locs → lv_has ls 4 [(0, .ref (G.1 7)), (1, .int p1), (2, .int v2), (3, .int v3)] → (k41 : ∀ (u2 : Int32), res = u2 → ∀ (H : Heap) (locs : List Loc) (ls : Array Slot), gMS G (gAA G s.heap.size) lo dd σ s H locs → lv_has ls 4 [(2, .int u2)] → W p l e ({ frames := 0, cells := 0, slots := 0, locals := 0 } : Room) s m args below meth c H locs 0 0 Q (F0 m 41 ls [])) → W p l e ({ frames := 0, cells := 0, slots := 0, locals := 0 } : Room) s m args below meth c H locs 0 0 Q (F0 m 4 ls []) := by
  have hx := S.1
  have hb := S.2.1
  intro n
  induction n with
  | zero =>
    intro v2 v3 res hf
    cases hf
  | succ n ih =>
    intro v2 v3 res hf H locs ls M hl k41
    rw [f_X8_waitingOfHazard_L4] at hf
    refine lv_iload_n hx hb dX8_waitingOfHazard_4 rfl (lv_at hl 3 rfl) ?_
    refine lv_aload_n hx hb dX8_waitingOfHazard_5 rfl (lv_at hl 0 rfl) ?_
    refine gf_X8_5 (i := 7) S M (by decide) rfl tw_1_84 dX8_waitingOfHazard_6 ?_
    refine lv_icmp_ge (tgt := 41) hx hb dX8_waitingOfHazard_9 (by decide) (fun c1 => ?_) (fun c1 => ?_)
    · have hf := it_p c1 hf
      cases hf
      exact k41 _ rfl _ _ _ M (lv_sub hl [2] rfl)
    · have hf := it_n c1 hf
      refine lv_aload_n hx hb dX8_waitingOfHazard_12 rfl (lv_at hl 0 rfl) ?_
      refine gf_X8_3 (i := 7) S M (by decide) rfl tw_1_82 dX8_waitingOfHazard_13 ?_
      refine lv_iload_n hx hb dX8_waitingOfHazard_16 rfl (lv_at hl 3 rfl) ?_
      obtain ⟨h2, hf⟩ := gi_x hf
      refine gk_iald (i := 11) (k := v3.toNatClampNeg) S M (by decide) (gaa_12 rfl) h2 rfl dX8_waitingOfHazard_17 ?_
      refine lv_iconst (v := (-1)) hx hb dX8_waitingOfHazard_18 (by decide) ?_
      refine lv_icmp_ne (tgt := 35) hx hb dX8_waitingOfHazard_19 (by decide) (fun c3 => ?_) (fun c3 => ?_)
      · have hf := it_n c3 hf
        obtain ⟨x4, ex4, hf⟩ := nm_x hf
        refine lv_iinc (v := x4) (lv' := [(3, .int x4), (0, .ref (G.1 7)), (1, .int p1), (2, .int v2)]) hx hb dX8_waitingOfHazard_35 hl (k := 3) rfl (by rw [ex4]; rfl) (by decide) rfl (fun ls hl => ?_)
        refine lv_goto (tgt := 4) hx hb dX8_waitingOfHazard_38 (by decide) ?_
        exact ih _ _ _ hf _ _ _ M (lv_sub hl [1, 2, 3, 0] rfl) k41
      · have hf := it_p c3 hf
        refine lv_aload_n hx hb dX8_waitingOfHazard_22 rfl (lv_at hl 0 rfl) ?_
        refine gf_X8_1 (i := 7) S M (by decide) rfl tw_1_80 dX8_waitingOfHazard_23 ?_
        refine lv_iload_n hx hb dX8_waitingOfHazard_26 rfl (lv_at hl 3 rfl) ?_
        obtain ⟨h5, hf⟩ := gi_x hf
        refine gk_iald (i := 9) (k := v3.toNatClampNeg) S M (by decide) (gaa_12 rfl) h5 rfl dX8_waitingOfHazard_27 ?_
        refine lv_iload_n hx hb dX8_waitingOfHazard_28 rfl (lv_at hl 1 rfl) ?_
        refine lv_icmp_ne (tgt := 35) hx hb dX8_waitingOfHazard_29 (by decide) (fun c6 => ?_) (fun c6 => ?_)
        · have hf := it_n c6 hf
          obtain ⟨x7, ex7, hf⟩ := nm_x hf
          refine lv_iinc (v := x7) (lv' := [(3, .int x7), (0, .ref (G.1 7)), (1, .int p1), (2, .int v2)]) hx hb dX8_waitingOfHazard_35 hl (k := 3) rfl (by rw [ex7]; rfl) (by decide) rfl (fun ls hl => ?_)
          refine lv_goto (tgt := 4) hx hb dX8_waitingOfHazard_38 (by decide) ?_
          exact ih _ _ _ hf _ _ _ M (lv_sub hl [1, 2, 3, 0] rfl) k41
        · have hf := it_p c6 hf
          obtain ⟨x8, ex8, hf⟩ := nm_x hf
          refine lv_iinc (v := x8) (lv' := [(2, .int x8), (0, .ref (G.1 7)), (1, .int p1), (3, .int v3)]) hx hb dX8_waitingOfHazard_32 hl (k := 2) rfl (by rw [ex8]; rfl) (by decide) rfl (fun ls hl => ?_)
          obtain ⟨x9, ex9, hf⟩ := nm_x hf
          refine lv_iinc (v := x9) (lv' := [(3, .int x9), (2, .int x8), (0, .ref (G.1 7)), (1, .int p1)]) hx hb dX8_waitingOfHazard_35 hl (k := 3) rfl (by rw [ex9]; rfl) (by decide) rfl (fun ls hl => ?_)
          refine lv_goto (tgt := 4) hx hb dX8_waitingOfHazard_38 (by decide) ?_
          exact ih _ _ _ hf _ _ _ M (lv_sub hl [2, 3, 1, 0] rfl) k41
set_option maxHeartbeats 400000 in
set_option maxRecDepth 100000 in
theorem c_X8_waitingOfHazard (l : Launch) (G : gT) (sz : Nat) (lo : Int64) (dd : UInt64) (σ : gM) (a1 : Int32) {o : Int32} (hf : f_X8_waitingOfHazard σ a1 = some o) : gCT l yX8_waitingOfHazard cX8_waitingOfHazard 4 (some .int) { frames := 0, cells := 0, slots := 0, locals := 0 } 0 0 G sz [.ref (G.1 7), .int a1] lo dd σ (.inl (mkI o, σ, lo, dd)) := by
  refine gCT_of (by decide) (Nat.le_of_ble_eq_true rfl) (fun p e s m args below meth c ls S hr hlk hnx hsz C0 hl H locs M => ?_)
  subst hsz
  have hx := S.1
  have hb := S.2.1
  unfold f_X8_waitingOfHazard at hf
  refine lv_iconst (v := 0) hx hb dX8_waitingOfHazard_0 (by decide) ?_
  refine lv_istore_n (lv' := [(2, .int 0), (0, .ref (G.1 7)), (1, .int a1)]) hx hb dX8_waitingOfHazard_1 rfl hl (by decide) rfl (fun ls hl => ?_)
  refine lv_iconst (v := 0) hx hb dX8_waitingOfHazard_2 (by decide) ?_
  refine lv_istore_n (lv' := [(3, .int 0), (2, .int 0), (0, .ref (G.1 7)), (1, .int a1)]) hx hb dX8_waitingOfHazard_3 rfl hl (by decide) rfl (fun ls hl => ?_)
  obtain ⟨y11, h10, hf⟩ := bd_x hf
  refine w_X8_waitingOfHazard_L4 S C0 a1 σ gFU 0 0 _ h10 _ _ _ M (lv_sub hl [2, 3, 1, 0] rfl) (fun _ eq H locs ls M hl => ?_)
  cases eq
  refine lv_iload_n hx hb dX8_waitingOfHazard_41 rfl (lv_at hl 0 rfl) ?_
  cases hf
  exact g_iret S M hr hlk (by decide) (by decide) dX8_waitingOfHazard_42 rfl
theorem k_X4_handledOf : gMV yX4_handledOf cX4_handledOf 6 (some .int) 2 := ⟨tw_4_28, tw_1_8, by decide⟩
set_option maxHeartbeats 400000 in
set_option maxRecDepth 100000 in
theorem w_X4_handledOf_L5 {p : Program} {l : Launch} {e : Env} {s : State} {m : MethodId} {args : Array Value} {below : List Frame} {meth : Method} {c : Code} {Q : State → Prop} {G : gT} {lo : Int64} {dd : UInt64} (S : CallFix p m c cX4_handledOf 6 s args gTs RX4) (C0 : gCST G (gAA G s.heap.size) s) (p2 : Int32) : ∀ (n : Nat) (v3 : Int32) (v4 : Int32) (σ : gM) (res : Int32 × gM), f_X4_handledOf_L5 p2 n v3 v4 σ = some res → ∀ (H : Heap) (locs : List Loc) (ls : Array Slot), gMS G (gAA G s.heap.size) lo dd σ s H locs → lv_has ls 6 [(0, .ref (G.1 201)), (2, .int p2), (3, .int v3), (4, .int v4)] → (k47 : ∀ (u3 : Int32) (τ : gM), res = (u3, τ) → ∀ (H : Heap) (locs : List Loc) (ls : Array Slot), gMS G (gAA G s.heap.size) lo dd τ s H locs → lv_has ls 6 [(2, .int p2), (3, .int u3)] → W p l e ({ frames := 1, cells := 0, slots := 0, locals := 32 } : Room) s m args below meth c H locs 0 0 Q (F0 m 47 ls [])) → W p l e ({ frames := 1, cells := 0, slots := 0, locals := 32 } : Room) s m args below meth c H locs 0 0 Q (F0 m 5 ls []) := by
  have hx := S.1
  have hb := S.2.1
  intro n
  induction n with
  | zero =>
    intro v3 v4 σ res hf
    cases hf
  | succ n ih =>
    intro v3 v4 σ res hf H locs ls M hl k47
    rw [f_X4_handledOf_L5] at hf
    refine lv_iload hx hb dX4_handledOf_5 (lv_at hl 3 rfl) ?_
    refine lv_iconst (v := 3) hx hb dX4_handledOf_7 (by decide) ?_
    refine lv_icmp_gt (tgt := 47) hx hb dX4_handledOf_8 (by decide) (fun c1 => ?_) (fun c1 => ?_)
    · have hf := it_p c1 hf
      cases hf
      exact k47 _ _ rfl _ _ _ M (lv_sub hl [1, 2] rfl)
    · have hf := it_n c1 hf
      refine lv_iload_n hx hb dX4_handledOf_11 rfl (lv_at hl 2 rfl) ?_
      refine lv_aload_n hx hb dX4_handledOf_12 rfl (lv_at hl 0 rfl) ?_
      refine gf_X4_0 (i := 201) S M (by decide) rfl tw_1_179 dX4_handledOf_13 ?_
      refine lv_iload hx hb dX4_handledOf_16 (lv_at hl 3 rfl) ?_
      obtain ⟨h2, hf⟩ := gi_x hf
      refine gk_iald (i := 202) (k := v4.toNatClampNeg) S M (by decide) (gaa_4 rfl) h2 rfl dX4_handledOf_18 ?_
      refine va_mmin hx hb (S.2.2.1.trans hl.1.symm) S.2.2.2.1 (S.2.2.2.2 _ tw_4_29) (S.2.2.2.2 _ tw_2_235) (S.2.2.2.2 _ tw_1_23) (S.2.2.2.2 _ tw_2_236) (Nat.le_of_ble_eq_true rfl) (Nat.le_of_ble_eq_true rfl) (Nat.le_of_ble_eq_true rfl) (Nat.le_of_ble_eq_true rfl) dX4_handledOf_19 ?_
      obtain ⟨x3, ex3, hf⟩ := nm_x hf
      refine g_topi ex3 ?_
      refine lv_istore (lv' := [(5, .int x3), (0, .ref (G.1 201)), (2, .int p2), (3, .int v3), (4, .int v4)]) hx hb dX4_handledOf_22 hl (by decide) rfl (fun ls hl => ?_)
      refine lv_aload_n hx hb dX4_handledOf_24 rfl (lv_at hl 1 rfl) ?_
      refine gf_X4_0 (i := 201) S M (by decide) rfl tw_1_179 dX4_handledOf_25 ?_
      refine lv_iload hx hb dX4_handledOf_28 (lv_at hl 4 rfl) ?_
      refine lv_dup2_11 hx hb dX4_handledOf_30 rfl rfl ?_
      obtain ⟨h4, hf⟩ := gi_x hf
      refine gk_iald (i := 202) (k := v4.toNatClampNeg) S M (by decide) (gaa_4 rfl) h4 rfl dX4_handledOf_31 ?_
      refine lv_iload hx hb dX4_handledOf_32 (lv_at hl 0 rfl) ?_
      refine lv_isub hx hb dX4_handledOf_34 ?_
      obtain ⟨h5, hf⟩ := gi_x hf
      obtain ⟨σ6, eσ6, hf⟩ := nm_x hf
      refine gk_iast (i := 202) (k := v4.toNatClampNeg) S M (by decide) (fun _ => (gaa_4 rfl)) h5 rfl dX4_handledOf_35 (fun H locs M => ?_)
      rw [← eσ6] at M
      refine lv_iload_n hx hb dX4_handledOf_36 rfl (lv_at hl 3 rfl) ?_
      refine lv_iload hx hb dX4_handledOf_37 (lv_at hl 0 rfl) ?_
      refine lv_isub hx hb dX4_handledOf_39 ?_
      obtain ⟨x7, ex7, hf⟩ := nm_x hf
      refine g_topi ex7 ?_
      refine lv_istore_n (lv' := [(3, .int x7), (5, .int x3), (0, .ref (G.1 201)), (2, .int p2), (4, .int v4)]) hx hb dX4_handledOf_40 rfl hl (by decide) rfl (fun ls hl => ?_)
      obtain ⟨x8, ex8, hf⟩ := nm_x hf
      refine lv_iinc (v := x8) (lv' := [(4, .int x8), (3, .int x7), (5, .int x3), (0, .ref (G.1 201)), (2, .int p2)]) hx hb dX4_handledOf_41 hl (k := 4) rfl (by rw [ex8]; rfl) (by decide) rfl (fun ls hl => ?_)
      refine lv_goto (tgt := 5) hx hb dX4_handledOf_44 (by decide) ?_
      exact ih _ _ _ _ hf _ _ _ M (lv_sub hl [3, 4, 1, 0] rfl) k47
set_option maxHeartbeats 400000 in
set_option maxRecDepth 100000 in
theorem c_X4_handledOf (l : Launch) (G : gT) (sz : Nat) (lo : Int64) (dd : UInt64) (σ : gM) (a1 : Int32) (a2 : Int32) {r : Int32} {o : gM} (hf : f_X4_handledOf σ a1 a2 = some (r, o)) : gCT l yX4_handledOf cX4_handledOf 6 (some .int) { frames := 1, cells := 0, slots := 0, locals := 32 } 0 0 G sz [.ref (G.1 201), .int a1, .int a2] lo dd σ (.inl (mkI r, o, lo, dd)) := by
  refine gCT_of (by decide) (Nat.le_of_ble_eq_true rfl) (fun p e s m args below meth c ls S hr hlk hnx hsz C0 hl H locs M => ?_)
  subst hsz
  have hx := S.1
  have hb := S.2.1
  unfold f_X4_handledOf at hf
  refine lv_iload_n hx hb dX4_handledOf_0 rfl (lv_at hl 2 rfl) ?_
  refine lv_istore_n (lv' := [(3, .int a2), (0, .ref (G.1 201)), (1, .int a1), (2, .int a2)]) hx hb dX4_handledOf_1 rfl hl (by decide) rfl (fun ls hl => ?_)
  refine lv_iload_n hx hb dX4_handledOf_2 rfl (lv_at hl 2 rfl) ?_
  refine lv_istore (lv' := [(4, .int a1), (3, .int a2), (0, .ref (G.1 201)), (1, .int a1), (2, .int a2)]) hx hb dX4_handledOf_3 hl (by decide) rfl (fun ls hl => ?_)
  obtain ⟨y10, σ11, h9, hf⟩ := bd2_x hf
  refine w_X4_handledOf_L5 S C0 a2 gFU a2 a1 σ _ h9 _ _ _ M (lv_sub hl [2, 4, 1, 0] rfl) (fun _ _ eq H locs ls M hl => ?_)
  cases eq
  refine lv_iload_n hx hb dX4_handledOf_47 rfl (lv_at hl 0 rfl) ?_
  refine lv_iload_n hx hb dX4_handledOf_48 rfl (lv_at hl 1 rfl) ?_
  refine lv_isub hx hb dX4_handledOf_49 ?_
  cases hf
  exact g_iret S M hr hlk (by decide) (by decide) dX4_handledOf_50 rfl
theorem k_X4_handledGreedily : gMV yX4_handledGreedily cX4_handledGreedily 4 (some .int) 1 := ⟨tw_4_16, tw_1_8, by decide⟩
set_option maxHeartbeats 400000 in
set_option maxRecDepth 100000 in
theorem w_X4_handledGreedily_L2 {p : Program} {l : Launch} {e : Env} {s : State} {m : MethodId} {args : Array Value} {below : List Frame} {meth : Method} {c : Code} {Q : State → Prop} {G : gT} {lo : Int64} {dd : UInt64} (S : CallFix p m c cX4_handledGreedily 4 s args gTs RX4) (C0 : gCST G (gAA G s.heap.size) s) : ∀ (n : Nat) (v2 : Int32) (σ : gM) (res : gM), f_X4_handledGreedily_L2 n v2 σ = some res → ∀ (H : Heap) (locs : List Loc) (ls : Array Slot), gMS G (gAA G s.heap.size) lo dd σ s H locs → lv_has ls 4 [(0, .ref (G.1 201)), (1, .ref (G.1 1)), (2, .int v2)] → (k27 : ∀ (τ : gM), res = τ → ∀ (H : Heap) (locs : List Loc) (ls : Array Slot), gMS G (gAA G s.heap.size) lo dd τ s H locs → lv_has ls 4 [(0, .ref (G.1 201)), (1, .ref (G.1 1))] → W p l e ({ frames := 2, cells := 0, slots := 0, locals := 57 } : Room) s m args below meth c H locs 0 0 Q (F0 m 27 ls [])) → W p l e ({ frames := 2, cells := 0, slots := 0, locals := 57 } : Room) s m args below meth c H locs 0 0 Q (F0 m 2 ls []) := by
  have hx := S.1
  have hb := S.2.1
  intro n
  induction n with
  | zero =>
    intro v2 σ res hf
    cases hf
  | succ n ih =>
    intro v2 σ res hf H locs ls M hl k27
    rw [f_X4_handledGreedily_L2] at hf
    refine lv_iload_n hx hb dX4_handledGreedily_2 rfl (lv_at hl 2 rfl) ?_
    refine lv_iconst (v := 3) hx hb dX4_handledGreedily_3 (by decide) ?_
    refine lv_icmp_gt (tgt := 27) hx hb dX4_handledGreedily_4 (by decide) (fun c1 => ?_) (fun c1 => ?_)
    · have hf := it_p c1 hf
      cases hf
      exact k27 _ rfl _ _ _ M (lv_sub hl [0, 1] rfl)
    · have hf := it_n c1 hf
      refine lv_aload_n hx hb dX4_handledGreedily_7 rfl (lv_at hl 0 rfl) ?_
      refine gf_X4_0 (i := 201) S M (by decide) rfl tw_1_179 dX4_handledGreedily_8 ?_
      refine lv_iload_n hx hb dX4_handledGreedily_11 rfl (lv_at hl 2 rfl) ?_
      refine lv_aload_n hx hb dX4_handledGreedily_12 rfl (lv_at hl 1 rfl) ?_
      refine gf_X3_2 (i := 1) S M (by decide) rfl tw_1_140 dX4_handledGreedily_13 ?_
      refine lv_iload_n hx hb dX4_handledGreedily_16 rfl (lv_at hl 2 rfl) ?_
      obtain ⟨r3, h2, hf⟩ := bd_x hf
      refine g_callR (st1 := [.int r3, .int v2, .ref (G.1 202)]) (cells' := 0) (slots' := 0) M (g_invV (index := 24) S M C0 hl (c_X6_usesOfGrade l G H.size lo dd σ v2  h2) k_X6_usesOfGrade tw_4_18 tw_4_19 tw_4_17 (by decide) (ge_4 rfl) rfl rfl rfl rfl rfl rfl dX4_handledGreedily_17) rfl rfl rfl (fun H locs M => ?_)
      obtain ⟨h4, hf⟩ := gi_x hf
      obtain ⟨σ5, eσ5, hf⟩ := nm_x hf
      refine gk_iast (i := 202) (k := v2.toNatClampNeg) S M (by decide) (fun _ => (gaa_4 rfl)) h4 rfl dX4_handledGreedily_20 (fun H locs M => ?_)
      rw [← eσ5] at M
      obtain ⟨x6, ex6, hf⟩ := nm_x hf
      refine lv_iinc (v := x6) (lv' := [(2, .int x6), (0, .ref (G.1 201)), (1, .ref (G.1 1))]) hx hb dX4_handledGreedily_21 hl (k := 2) rfl (by rw [ex6]; rfl) (by decide) rfl (fun ls hl => ?_)
      refine lv_goto (tgt := 2) hx hb dX4_handledGreedily_24 (by decide) ?_
      exact ih _ _ _ hf _ _ _ M (lv_sub hl [1, 2, 0] rfl) k27
set_option maxHeartbeats 400000 in
set_option maxRecDepth 100000 in
theorem w_X4_handledGreedily_L38 {p : Program} {l : Launch} {e : Env} {s : State} {m : MethodId} {args : Array Value} {below : List Frame} {meth : Method} {c : Code} {Q : State → Prop} {G : gT} {lo : Int64} {dd : UInt64} (S : CallFix p m c cX4_handledGreedily 4 s args gTs RX4) (C0 : gCST G (gAA G s.heap.size) s) : ∀ (n : Nat) (v2 : Int32) (v3 : Int32) (σ : gM) (res : Int32 × gM), f_X4_handledGreedily_L38 n v2 v3 σ = some res → ∀ (H : Heap) (locs : List Loc) (ls : Array Slot), gMS G (gAA G s.heap.size) lo dd σ s H locs → lv_has ls 4 [(0, .ref (G.1 201)), (1, .ref (G.1 1)), (2, .int v2), (3, .int v3)] → (k65 : ∀ (u2 : Int32) (τ : gM), res = (u2, τ) → ∀ (H : Heap) (locs : List Loc) (ls : Array Slot), gMS G (gAA G s.heap.size) lo dd τ s H locs → lv_has ls 4 [(2, .int u2)] → W p l e ({ frames := 2, cells := 0, slots := 0, locals := 57 } : Room) s m args below meth c H locs 0 0 Q (F0 m 65 ls [])) → W p l e ({ frames := 2, cells := 0, slots := 0, locals := 57 } : Room) s m args below meth c H locs 0 0 Q (F0 m 38 ls []) := by
  have hx := S.1
  have hb := S.2.1
  intro n
  induction n with
  | zero =>
    intro v2 v3 σ res hf
    cases hf
  | succ n ih =>
    intro v2 v3 σ res hf H locs ls M hl k65
    rw [f_X4_handledGreedily_L38] at hf
    refine lv_iload_n hx hb dX4_handledGreedily_38 rfl (lv_at hl 3 rfl) ?_
    refine lv_iconst (v := 3) hx hb dX4_handledGreedily_39 (by decide) ?_
    refine lv_icmp_gt (tgt := 65) hx hb dX4_handledGreedily_40 (by decide) (fun c11 => ?_) (fun c11 => ?_)
    · have hf := it_p c11 hf
      cases hf
      exact k65 _ _ rfl _ _ _ M (lv_sub hl [2] rfl)
    · have hf := it_n c11 hf
      refine lv_iload_n hx hb dX4_handledGreedily_43 rfl (lv_at hl 2 rfl) ?_
      refine lv_aload_n hx hb dX4_handledGreedily_44 rfl (lv_at hl 0 rfl) ?_
      refine lv_iload_n hx hb dX4_handledGreedily_45 rfl (lv_at hl 3 rfl) ?_
      refine lv_aload_n hx hb dX4_handledGreedily_46 rfl (lv_at hl 1 rfl) ?_
      refine gf_X3_1 (i := 1) S M (by decide) rfl tw_1_136 dX4_handledGreedily_47 ?_
      refine lv_iload_n hx hb dX4_handledGreedily_50 rfl (lv_at hl 3 rfl) ?_
      obtain ⟨r13, h12, hf⟩ := bd_x hf
      refine g_callR (st1 := [.int r13, .int v3, .ref (G.1 201), .int v2]) (cells' := 0) (slots' := 0) M (g_invV (index := 34) S M C0 hl (c_X8_waitingOfHazard l G H.size lo dd σ v3  h12) k_X8_waitingOfHazard tw_4_22 tw_4_23 tw_4_21 (by decide) (ge_3 rfl) rfl rfl rfl rfl rfl rfl dX4_handledGreedily_51) rfl rfl rfl (fun H locs M => ?_)
      obtain ⟨r15, σ16, h14, hf⟩ := bd2_x hf
      refine g_callR (st1 := [.int r15, .int v2]) (cells' := 0) (slots' := 0) M (g_invV (index := 39) S M C0 hl (c_X4_handledOf l G H.size lo dd σ v3 r13  h14) k_X4_handledOf tw_4_27 tw_0_9 tw_4_25 (by decide) (ge_8 rfl) rfl rfl rfl rfl rfl rfl dX4_handledGreedily_54) rfl rfl rfl (fun H locs M => ?_)
      refine lv_iadd hx hb dX4_handledGreedily_57 ?_
      obtain ⟨x17, ex17, hf⟩ := nm_x hf
      refine g_topi ex17 ?_
      refine lv_istore_n (lv' := [(2, .int x17), (0, .ref (G.1 201)), (1, .ref (G.1 1)), (3, .int v3)]) hx hb dX4_handledGreedily_58 rfl hl (by decide) rfl (fun ls hl => ?_)
      obtain ⟨x18, ex18, hf⟩ := nm_x hf
      refine lv_iinc (v := x18) (lv' := [(3, .int x18), (2, .int x17), (0, .ref (G.1 201)), (1, .ref (G.1 1))]) hx hb dX4_handledGreedily_59 hl (k := 3) rfl (by rw [ex18]; rfl) (by decide) rfl (fun ls hl => ?_)
      refine lv_goto (tgt := 38) hx hb dX4_handledGreedily_62 (by decide) ?_
      exact ih _ _ _ _ hf _ _ _ M (lv_sub hl [2, 3, 1, 0] rfl) k65
set_option maxHeartbeats 400000 in
set_option maxRecDepth 100000 in
theorem c_X4_handledGreedily (l : Launch) (G : gT) (sz : Nat) (lo : Int64) (dd : UInt64) (σ : gM) {r : Int32} {o : gM} (hf : f_X4_handledGreedily σ = some (r, o)) : gCT l yX4_handledGreedily cX4_handledGreedily 4 (some .int) { frames := 2, cells := 0, slots := 0, locals := 57 } 0 0 G sz [.ref (G.1 201), .ref (G.1 1)] lo dd σ (.inl (mkI r, o, lo, dd)) := by
  refine gCT_of (by decide) (Nat.le_of_ble_eq_true rfl) (fun p e s m args below meth c ls S hr hlk hnx hsz C0 hl H locs M => ?_)
  subst hsz
  have hx := S.1
  have hb := S.2.1
  unfold f_X4_handledGreedily at hf
  refine lv_iconst (v := 1) hx hb dX4_handledGreedily_0 (by decide) ?_
  refine lv_istore_n (lv' := [(2, .int 1), (0, .ref (G.1 201)), (1, .ref (G.1 1))]) hx hb dX4_handledGreedily_1 rfl hl (by decide) rfl (fun ls hl => ?_)
  obtain ⟨σ8, h7, hf⟩ := bd_x hf
  refine w_X4_handledGreedily_L2 S C0 gFU 1 σ _ h7 _ _ _ M (lv_sub hl [1, 2, 0] rfl) (fun _ eq H locs ls M hl => ?_)
  cases eq
  refine lv_aload_n hx hb dX4_handledGreedily_27 rfl (lv_at hl 1 rfl) ?_
  refine gf_X3_1 (i := 1) S M (by decide) rfl tw_1_136 dX4_handledGreedily_28 ?_
  refine lv_iconst (v := 0) hx hb dX4_handledGreedily_31 (by decide) ?_
  obtain ⟨r10, h9, hf⟩ := bd_x hf
  refine g_callR (st1 := [.int r10]) (cells' := 0) (slots' := 0) M (g_invV (index := 34) S M C0 hl (c_X8_waitingOfHazard l G H.size lo dd σ8 0  h9) k_X8_waitingOfHazard tw_4_22 tw_4_23 tw_4_21 (by decide) (ge_3 rfl) rfl rfl rfl rfl rfl rfl dX4_handledGreedily_32) rfl rfl rfl (fun H locs M => ?_)
  refine lv_istore_n (lv' := [(2, .int r10), (0, .ref (G.1 201)), (1, .ref (G.1 1))]) hx hb dX4_handledGreedily_35 rfl hl (by decide) rfl (fun ls hl => ?_)
  refine lv_iconst (v := 1) hx hb dX4_handledGreedily_36 (by decide) ?_
  refine lv_istore_n (lv' := [(3, .int 1), (2, .int r10), (0, .ref (G.1 201)), (1, .ref (G.1 1))]) hx hb dX4_handledGreedily_37 rfl hl (by decide) rfl (fun ls hl => ?_)
  obtain ⟨y20, σ21, h19, hf⟩ := bd2_x hf
  refine w_X4_handledGreedily_L38 S C0 gFU r10 1 σ8 _ h19 _ _ _ M (lv_sub hl [2, 3, 1, 0] rfl) (fun _ _ eq H locs ls M hl => ?_)
  cases eq
  refine lv_iload_n hx hb dX4_handledGreedily_65 rfl (lv_at hl 0 rfl) ?_
  cases hf
  exact g_iret S M hr hlk (by decide) (by decide) dX4_handledGreedily_66 rfl
theorem k_X12_handleable : gMV yX12_handleable cX12_handleable 1 (some .int) 0 := ⟨tw_4_12, tw_1_1, by decide⟩
set_option maxHeartbeats 400000 in
set_option maxRecDepth 100000 in
theorem c_X12_handleable (l : Launch) (G : gT) (sz : Nat) (lo : Int64) (dd : UInt64) (σ : gM) {r : Int32} {o : gM} (hf : f_X12_handleable σ = some (r, o)) : gCT l yX12_handleable cX12_handleable 1 (some .int) { frames := 3, cells := 0, slots := 0, locals := 80 } 0 0 G sz [.ref (G.1 0)] lo dd σ (.inl (mkI r, o, lo, dd)) := by
  refine gCT_of (by decide) (Nat.le_of_ble_eq_true rfl) (fun p e s m args below meth c ls S hr hlk hnx hsz C0 hl H locs M => ?_)
  subst hsz
  have hx := S.1
  have hb := S.2.1
  unfold f_X12_handleable at hf
  refine lv_aload_n hx hb dX12_handleable_0 rfl (lv_at hl 0 rfl) ?_
  refine gf_X12_3 (i := 0) S M (by decide) rfl tw_2_10 dX12_handleable_1 ?_
  refine lv_aload_n hx hb dX12_handleable_4 rfl (lv_at hl 0 rfl) ?_
  refine gf_X12_0 (i := 0) S M (by decide) rfl tw_2_7 dX12_handleable_5 ?_
  obtain ⟨r2, σ3, h1, hf⟩ := bd2_x hf
  refine g_callR (st1 := [.int r2]) (cells' := 0) (slots' := 0) M (g_invV (index := 187) S M C0 hl (c_X4_handledGreedily l G H.size lo dd σ   h1) k_X4_handledGreedily tw_4_14 tw_4_15 tw_4_13 (by decide) (ge_8 rfl) rfl rfl rfl rfl rfl rfl dX12_handleable_8) rfl rfl rfl (fun H locs M => ?_)
  cases hf
  exact g_iret S M hr hlk (by decide) (by decide) dX12_handleable_11 rfl
theorem k_X4_handledByShortage : gMV yX4_handledByShortage cX4_handledByShortage 5 (some .int) 1 := ⟨tw_4_37, tw_1_8, by decide⟩
set_option maxHeartbeats 400000 in
set_option maxRecDepth 100000 in
theorem w_X4_handledByShortage_L7 {p : Program} {l : Launch} {e : Env} {s : State} {m : MethodId} {args : Array Value} {below : List Frame} {meth : Method} {c : Code} {Q : State → Prop} {G : gT} {lo : Int64} {dd : UInt64} (S : CallFix p m c cX4_handledByShortage 5 s args gTs RX4) (C0 : gCST G (gAA G s.heap.size) s) (σ : gM) : ∀ (n : Nat) (v2 : Int32) (v3 : Int32) (v4 : Int32) (res : Int32), f_X4_handledByShortage_L7 σ n v2 v3 v4 = some res → ∀ (H : Heap) (locs : List Loc) (ls : Array Slot), gMS G (gAA G s.heap.size) lo dd σ s H locs → lv_has ls 5 [(1, .ref (G.1 1)), (2, .int v2), (3, .int v3), (4, .int v4)] → (k47 : ∀ (u3 : Int32), res = u3 → ∀ (H : Heap) (locs : List Loc) (ls : Array Slot), gMS G (gAA G s.heap.size) lo dd σ s H locs → lv_has ls 5 [(1, .ref (G.1 1)), (3, .int u3)] → W p l e ({ frames := 1, cells := 0, slots := 0, locals := 32 } : Room) s m args below meth c H locs 0 0 Q (F0 m 47 ls [])) → W p l e ({ frames := 1, cells := 0, slots := 0, locals := 32 } : Room) s m args below meth c H locs 0 0 Q (F0 m 7 ls []) := by
  have hx := S.1
  have hb := S.2.1
  intro n
  induction n with
  | zero =>
    intro v2 v3 v4 res hf
    cases hf
  | succ n ih =>
    intro v2 v3 v4 res hf H locs ls M hl k47
    rw [f_X4_handledByShortage_L7] at hf
    refine lv_iload hx hb dX4_handledByShortage_7 (lv_at hl 3 rfl) ?_
    refine lv_iconst (v := 1) hx hb dX4_handledByShortage_9 (by decide) ?_
    refine lv_icmp_lt (tgt := 47) hx hb dX4_handledByShortage_10 (by decide) (fun c1 => ?_) (fun c1 => ?_)
    · have hf := it_p c1 hf
      cases hf
      exact k47 _ rfl _ _ _ M (lv_sub hl [0, 2] rfl)
    · have hf := it_n c1 hf
      refine lv_iload_n hx hb dX4_handledByShortage_13 rfl (lv_at hl 1 rfl) ?_
      refine lv_aload_n hx hb dX4_handledByShortage_14 rfl (lv_at hl 0 rfl) ?_
      refine gf_X3_1 (i := 1) S M (by decide) rfl tw_1_136 dX4_handledByShortage_15 ?_
      refine lv_iload hx hb dX4_handledByShortage_18 (lv_at hl 3 rfl) ?_
      obtain ⟨r3, h2, hf⟩ := bd_x hf
      refine g_callR (st1 := [.int r3, .int v2]) (cells' := 0) (slots' := 0) M (g_invV (index := 34) S M C0 hl (c_X8_waitingOfHazard l G H.size lo dd σ v4  h2) k_X8_waitingOfHazard tw_4_22 tw_4_23 tw_4_21 (by decide) (ge_3 rfl) rfl rfl rfl rfl rfl rfl dX4_handledByShortage_20) rfl rfl rfl (fun H locs M => ?_)
      refine lv_aload_n hx hb dX4_handledByShortage_23 rfl (lv_at hl 0 rfl) ?_
      refine gf_X3_2 (i := 1) S M (by decide) rfl tw_1_140 dX4_handledByShortage_24 ?_
      refine lv_iload hx hb dX4_handledByShortage_27 (lv_at hl 3 rfl) ?_
      obtain ⟨r5, h4, hf⟩ := bd_x hf
      refine g_callR (st1 := [.int r5, .int r3, .int v2]) (cells' := 0) (slots' := 0) M (g_invV (index := 24) S M C0 hl (c_X6_usesOfGrade l G H.size lo dd σ v4  h4) k_X6_usesOfGrade tw_4_18 tw_4_19 tw_4_17 (by decide) (ge_4 rfl) rfl rfl rfl rfl rfl rfl dX4_handledByShortage_29) rfl rfl rfl (fun H locs M => ?_)
      refine lv_isub hx hb dX4_handledByShortage_32 ?_
      refine lv_iadd hx hb dX4_handledByShortage_33 ?_
      obtain ⟨x6, ex6, hf⟩ := nm_x hf
      refine g_topi ex6 ?_
      refine lv_istore_n (lv' := [(2, .int x6), (1, .ref (G.1 1)), (3, .int v3), (4, .int v4)]) hx hb dX4_handledByShortage_34 rfl hl (by decide) rfl (fun ls hl => ?_)
      refine lv_iload_n hx hb dX4_handledByShortage_35 rfl (lv_at hl 2 rfl) ?_
      refine lv_iload_n hx hb dX4_handledByShortage_36 rfl (lv_at hl 0 rfl) ?_
      refine va_mmax hx hb (S.2.2.1.trans hl.1.symm) S.2.2.2.1 (S.2.2.2.2 _ tw_4_38) (S.2.2.2.2 _ tw_4_39) (S.2.2.2.2 _ tw_1_23) (S.2.2.2.2 _ tw_4_40) (Nat.le_of_ble_eq_true rfl) (Nat.le_of_ble_eq_true rfl) (Nat.le_of_ble_eq_true rfl) (Nat.le_of_ble_eq_true rfl) dX4_handledByShortage_37 ?_
      obtain ⟨x7, ex7, hf⟩ := nm_x hf
      refine g_topi ex7 ?_
      refine lv_istore_n (lv' := [(3, .int x7), (2, .int x6), (1, .ref (G.1 1)), (4, .int v4)]) hx hb dX4_handledByShortage_40 rfl hl (by decide) rfl (fun ls hl => ?_)
      obtain ⟨x8, ex8, hf⟩ := nm_x hf
      refine lv_iinc (v := x8) (lv' := [(4, .int x8), (3, .int x7), (2, .int x6), (1, .ref (G.1 1))]) hx hb dX4_handledByShortage_41 hl (k := 3) rfl (by rw [ex8]; rfl) (by decide) rfl (fun ls hl => ?_)
      refine lv_goto (tgt := 7) hx hb dX4_handledByShortage_44 (by decide) ?_
      exact ih _ _ _ _ hf _ _ _ M (lv_sub hl [3, 2, 1, 0] rfl) k47
set_option maxHeartbeats 400000 in
set_option maxRecDepth 100000 in
theorem c_X4_handledByShortage (l : Launch) (G : gT) (sz : Nat) (lo : Int64) (dd : UInt64) (σ : gM) {o : Int32} (hf : f_X4_handledByShortage σ = some o) : gCT l yX4_handledByShortage cX4_handledByShortage 5 (some .int) { frames := 1, cells := 0, slots := 0, locals := 32 } 0 0 G sz [.ref (G.1 201), .ref (G.1 1)] lo dd σ (.inl (mkI o, σ, lo, dd)) := by
  refine gCT_of (by decide) (Nat.le_of_ble_eq_true rfl) (fun p e s m args below meth c ls S hr hlk hnx hsz C0 hl H locs M => ?_)
  subst hsz
  have hx := S.1
  have hb := S.2.1
  unfold f_X4_handledByShortage at hf
  refine lv_iconst (v := 0) hx hb dX4_handledByShortage_0 (by decide) ?_
  refine lv_istore_n (lv' := [(2, .int 0), (0, .ref (G.1 201)), (1, .ref (G.1 1))]) hx hb dX4_handledByShortage_1 rfl hl (by decide) rfl (fun ls hl => ?_)
  refine lv_iconst (v := 0) hx hb dX4_handledByShortage_2 (by decide) ?_
  refine lv_istore_n (lv' := [(3, .int 0), (2, .int 0), (0, .ref (G.1 201)), (1, .ref (G.1 1))]) hx hb dX4_handledByShortage_3 rfl hl (by decide) rfl (fun ls hl => ?_)
  refine lv_iconst (v := 3) hx hb dX4_handledByShortage_4 (by decide) ?_
  refine lv_istore (lv' := [(4, .int 3), (3, .int 0), (2, .int 0), (0, .ref (G.1 201)), (1, .ref (G.1 1))]) hx hb dX4_handledByShortage_5 hl (by decide) rfl (fun ls hl => ?_)
  obtain ⟨y10, h9, hf⟩ := bd_x hf
  refine w_X4_handledByShortage_L7 S C0 σ gFU 0 0 3 _ h9 _ _ _ M (lv_sub hl [4, 2, 1, 0] rfl) (fun _ eq H locs ls M hl => ?_)
  cases eq
  refine lv_aload_n hx hb dX4_handledByShortage_47 rfl (lv_at hl 0 rfl) ?_
  refine gf_X3_1 (i := 1) S M (by decide) rfl tw_1_136 dX4_handledByShortage_48 ?_
  refine lv_iconst (v := (-1)) hx hb dX4_handledByShortage_51 (by decide) ?_
  obtain ⟨r12, h11, hf⟩ := bd_x hf
  refine g_callR (st1 := [.int r12]) (cells' := 0) (slots' := 0) M (g_invV (index := 51) S M C0 hl (c_X8_countAt l G H.size lo dd σ (-1)  h11) k_X8_countAt tw_3_207 tw_3_208 tw_4_41 (by decide) (ge_3 rfl) rfl rfl rfl rfl rfl rfl dX4_handledByShortage_52) rfl rfl rfl (fun H locs M => ?_)
  refine lv_iload_n hx hb dX4_handledByShortage_55 rfl (lv_at hl 1 rfl) ?_
  refine lv_isub hx hb dX4_handledByShortage_56 ?_
  cases hf
  exact g_iret S M hr hlk (by decide) (by decide) dX4_handledByShortage_57 rfl
theorem k_X12_handleableByShortage : gMV yX12_handleableByShortage cX12_handleableByShortage 1 (some .int) 0 := ⟨tw_4_33, tw_1_1, by decide⟩
set_option maxHeartbeats 400000 in
set_option maxRecDepth 100000 in
theorem c_X12_handleableByShortage (l : Launch) (G : gT) (sz : Nat) (lo : Int64) (dd : UInt64) (σ : gM) {o : Int32} (hf : f_X12_handleableByShortage σ = some o) : gCT l yX12_handleableByShortage cX12_handleableByShortage 1 (some .int) { frames := 2, cells := 0, slots := 0, locals := 56 } 0 0 G sz [.ref (G.1 0)] lo dd σ (.inl (mkI o, σ, lo, dd)) := by
  refine gCT_of (by decide) (Nat.le_of_ble_eq_true rfl) (fun p e s m args below meth c ls S hr hlk hnx hsz C0 hl H locs M => ?_)
  subst hsz
  have hx := S.1
  have hb := S.2.1
  unfold f_X12_handleableByShortage at hf
  refine lv_aload_n hx hb dX12_handleableByShortage_0 rfl (lv_at hl 0 rfl) ?_
  refine gf_X12_3 (i := 0) S M (by decide) rfl tw_2_10 dX12_handleableByShortage_1 ?_
  refine lv_aload_n hx hb dX12_handleableByShortage_4 rfl (lv_at hl 0 rfl) ?_
  refine gf_X12_0 (i := 0) S M (by decide) rfl tw_2_7 dX12_handleableByShortage_5 ?_
  obtain ⟨r2, h1, hf⟩ := bd_x hf
  refine g_callR (st1 := [.int r2]) (cells' := 0) (slots' := 0) M (g_invV (index := 191) S M C0 hl (c_X4_handledByShortage l G H.size lo dd σ   h1) k_X4_handledByShortage tw_4_35 tw_4_36 tw_4_34 (by decide) (ge_8 rfl) rfl rfl rfl rfl rfl rfl dX12_handleableByShortage_8) rfl rfl rfl (fun H locs M => ?_)
  cases hf
  exact g_iret S M hr hlk (by decide) (by decide) dX12_handleableByShortage_11 rfl
theorem k_X12_place : gMV yX12_place cX12_place 2 (some .int) 1 := ⟨tw_4_45, tw_1_1, by decide⟩
set_option maxHeartbeats 400000 in
set_option maxRecDepth 100000 in
theorem c_X12_place (l : Launch) (hfl : l.stackTraces = false) (G : gT) (sz : Nat) (lo : Int64) (dd : UInt64) (σ : gM) (a1 : Int32) {o : (Int32) ⊕ (Nat)} (hf : f_X12_place σ a1 = some o) : gCT l yX12_place cX12_place 2 (some .int) { frames := 8, cells := 1, slots := 6, locals := 124 } 1 6 G sz [.ref (G.1 0), .int a1] lo dd σ (got mkI o σ lo dd) := by
  refine gCT_of (by decide) (Nat.le_of_ble_eq_true rfl) (fun p e s m args below meth c ls S hr hlk hnx hsz C0 hl H locs M => ?_)
  subst hsz
  have hx := S.1
  have hb := S.2.1
  unfold f_X12_place at hf
  refine lv_iload_n hx hb dX12_place_0 rfl (lv_at hl 1 rfl) ?_
  refine lv_iconst (v := 3) hx hb dX12_place_1 (by decide) ?_
  rcases bt_x hf with ⟨u, h1, hf⟩ | ⟨n2, h1, hf⟩
  · refine g_callR (st1 := []) (cells' := 1) (slots' := 6) M (g_invS (index := 121) S M C0 hl (c_X12_requireIndex l hfl G H.size lo dd σ a1 3  h1) k_X12_requireIndex tw_3_142 tw_3_141 rfl rfl rfl rfl dX12_place_2) rfl rfl rfl (fun H locs M => ?_)
    refine lv_aload_n hx hb dX12_place_5 rfl (lv_at hl 0 rfl) ?_
    refine gf_X12_0 (i := 0) S M (by decide) rfl tw_2_7 dX12_place_6 ?_
    refine gf_X3_3 (i := 1) S M (by decide) rfl tw_1_144 dX12_place_9 ?_
    refine lv_iload_n hx hb dX12_place_12 rfl (lv_at hl 1 rfl) ?_
    obtain ⟨r4, h3, hf⟩ := bd_x hf
    refine g_callR (st1 := [.int r4]) (cells' := 1) (slots' := 6) M (g_invV (index := 198) S M C0 hl (c_X11_placeOf l G H.size lo dd σ a1  h3) k_X11_placeOf tw_3_87 tw_3_88 tw_4_46 (by decide) (ge_5 rfl) rfl rfl rfl rfl rfl rfl dX12_place_13) rfl rfl rfl (fun H locs M => ?_)
    cases hf
    exact g_iret S M hr hlk (by decide) (by decide) dX12_place_16 rfl
  · cases hf
    refine g_runX (cells' := 1) (slots' := 6) M (g_invS (index := 121) S M C0 hl (c_X12_requireIndex l hfl G H.size lo dd σ a1 3  h1) k_X12_requireIndex tw_3_142 tw_3_141 rfl rfl rfl rfl dX12_place_2) rfl rfl (fun ce q H locs M hq hv hcl => ?_)
    exact g_out M hnx hlk hq hv hcl (by decide) (by decide) rfl
theorem k_X12_capacity : gMV yX12_capacity cX12_capacity 2 (some .int) 1 := ⟨tw_4_50, tw_1_1, by decide⟩
set_option maxHeartbeats 400000 in
set_option maxRecDepth 100000 in
theorem c_X12_capacity (l : Launch) (hfl : l.stackTraces = false) (G : gT) (sz : Nat) (lo : Int64) (dd : UInt64) (σ : gM) (a1 : Int32) {o : (Int32) ⊕ (Nat)} (hf : f_X12_capacity σ a1 = some o) : gCT l yX12_capacity cX12_capacity 2 (some .int) { frames := 8, cells := 1, slots := 6, locals := 124 } 1 6 G sz [.ref (G.1 0), .int a1] lo dd σ (got mkI o σ lo dd) := by
  refine gCT_of (by decide) (Nat.le_of_ble_eq_true rfl) (fun p e s m args below meth c ls S hr hlk hnx hsz C0 hl H locs M => ?_)
  subst hsz
  have hx := S.1
  have hb := S.2.1
  unfold f_X12_capacity at hf
  refine lv_iload_n hx hb dX12_capacity_0 rfl (lv_at hl 1 rfl) ?_
  refine lv_iconst (v := 3) hx hb dX12_capacity_1 (by decide) ?_
  rcases bt_x hf with ⟨u, h1, hf⟩ | ⟨n2, h1, hf⟩
  · refine g_callR (st1 := []) (cells' := 1) (slots' := 6) M (g_invS (index := 121) S M C0 hl (c_X12_requireIndex l hfl G H.size lo dd σ a1 3  h1) k_X12_requireIndex tw_3_142 tw_3_141 rfl rfl rfl rfl dX12_capacity_2) rfl rfl rfl (fun H locs M => ?_)
    refine lv_aload_n hx hb dX12_capacity_5 rfl (lv_at hl 0 rfl) ?_
    refine gf_X12_0 (i := 0) S M (by decide) rfl tw_2_7 dX12_capacity_6 ?_
    refine gf_X3_3 (i := 1) S M (by decide) rfl tw_1_144 dX12_capacity_9 ?_
    refine lv_iload_n hx hb dX12_capacity_12 rfl (lv_at hl 1 rfl) ?_
    obtain ⟨r4, h3, hf⟩ := bd_x hf
    refine g_callR (st1 := [.int r4]) (cells' := 1) (slots' := 6) M (g_invV (index := 203) S M C0 hl (c_X11_capacityOf l G H.size lo dd σ a1  h3) k_X11_capacityOf tw_3_38 tw_3_39 tw_4_51 (by decide) (ge_5 rfl) rfl rfl rfl rfl rfl rfl dX12_capacity_13) rfl rfl rfl (fun H locs M => ?_)
    cases hf
    exact g_iret S M hr hlk (by decide) (by decide) dX12_capacity_16 rfl
  · cases hf
    refine g_runX (cells' := 1) (slots' := 6) M (g_invS (index := 121) S M C0 hl (c_X12_requireIndex l hfl G H.size lo dd σ a1 3  h1) k_X12_requireIndex tw_3_142 tw_3_141 rfl rfl rfl rfl dX12_capacity_2) rfl rfl (fun ce q H locs M hq hv hcl => ?_)
    exact g_out M hnx hlk hq hv hcl (by decide) (by decide) rfl
theorem k_X12_load : gMV yX12_load cX12_load 2 (some .int) 1 := ⟨tw_4_55, tw_1_1, by decide⟩
set_option maxHeartbeats 400000 in
set_option maxRecDepth 100000 in
theorem c_X12_load (l : Launch) (hfl : l.stackTraces = false) (G : gT) (sz : Nat) (lo : Int64) (dd : UInt64) (σ : gM) (a1 : Int32) {o : (Int32) ⊕ (Nat)} (hf : f_X12_load σ a1 = some o) : gCT l yX12_load cX12_load 2 (some .int) { frames := 8, cells := 1, slots := 6, locals := 124 } 1 6 G sz [.ref (G.1 0), .int a1] lo dd σ (got mkI o σ lo dd) := by
  refine gCT_of (by decide) (Nat.le_of_ble_eq_true rfl) (fun p e s m args below meth c ls S hr hlk hnx hsz C0 hl H locs M => ?_)
  subst hsz
  have hx := S.1
  have hb := S.2.1
  unfold f_X12_load at hf
  refine lv_iload_n hx hb dX12_load_0 rfl (lv_at hl 1 rfl) ?_
  refine lv_iconst (v := 3) hx hb dX12_load_1 (by decide) ?_
  rcases bt_x hf with ⟨u, h1, hf⟩ | ⟨n2, h1, hf⟩
  · refine g_callR (st1 := []) (cells' := 1) (slots' := 6) M (g_invS (index := 121) S M C0 hl (c_X12_requireIndex l hfl G H.size lo dd σ a1 3  h1) k_X12_requireIndex tw_3_142 tw_3_141 rfl rfl rfl rfl dX12_load_2) rfl rfl rfl (fun H locs M => ?_)
    refine lv_aload_n hx hb dX12_load_5 rfl (lv_at hl 0 rfl) ?_
    refine gf_X12_0 (i := 0) S M (by decide) rfl tw_2_7 dX12_load_6 ?_
    refine gf_X3_1 (i := 1) S M (by decide) rfl tw_1_138 dX12_load_9 ?_
    refine lv_iload_n hx hb dX12_load_12 rfl (lv_at hl 1 rfl) ?_
    obtain ⟨r4, h3, hf⟩ := bd_x hf
    refine g_callR (st1 := [.int r4]) (cells' := 1) (slots' := 6) M (g_invV (index := 206) S M C0 hl (c_X8_weightAt l G H.size lo dd σ a1  h3) k_X8_weightAt tw_3_6 tw_3_7 tw_4_56 (by decide) (ge_3 rfl) rfl rfl rfl rfl rfl rfl dX12_load_13) rfl rfl rfl (fun H locs M => ?_)
    cases hf
    exact g_iret S M hr hlk (by decide) (by decide) dX12_load_16 rfl
  · cases hf
    refine g_runX (cells' := 1) (slots' := 6) M (g_invS (index := 121) S M C0 hl (c_X12_requireIndex l hfl G H.size lo dd σ a1 3  h1) k_X12_requireIndex tw_3_142 tw_3_141 rfl rfl rfl rfl dX12_load_2) rfl rfl (fun ce q H locs M hq hv hcl => ?_)
    exact g_out M hnx hlk hq hv hcl (by decide) (by decide) rfl
theorem k_X8_waitingOfWeight : gMV yX8_waitingOfWeight cX8_waitingOfWeight 4 (some .int) 1 := ⟨tw_4_69, tw_1_4, by decide⟩
set_option maxHeartbeats 400000 in
set_option maxRecDepth 100000 in
theorem w_X8_waitingOfWeight_L4 {p : Program} {l : Launch} {e : Env} {s : State} {m : MethodId} {args : Array Value} {below : List Frame} {meth : Method} {c : Code} {Q : State → Prop} {G : gT} {lo : Int64} {dd : UInt64} (S : CallFix p m c cX8_waitingOfWeight 4 s args gTs RX8) (C0 : gCST G (gAA G s.heap.size) s) (p1 : Int32) (σ : gM) : ∀ (n : Nat) (v2 : Int32) (v3 : Int32) (res : Int32), f_X8_waitingOfWeight_L4 p1 σ n v2 v3 = some res → ∀ (H : Heap) (locs : List Loc) (ls : Array Slot), gMS G (gAA G s.heap.size) lo dd σ s H locs → lv_has ls 4 [(0, .ref (G.1 7)), (1, .int p1), (2, .int v2), (3, .int v3)] → (k41 : ∀ (u2 : Int32), res = u2 → ∀ (H : Heap) (locs : List Loc) (ls : Array Slot), gMS G (gAA G s.heap.size) lo dd σ s H locs → lv_has ls 4 [(2, .int u2)] → W p l e ({ frames := 0, cells := 0, slots := 0, locals := 0 } : Room) s m args below meth c H locs 0 0 Q (F0 m 41 ls [])) → W p l e ({ frames := 0, cells := 0, slots := 0, locals := 0 } : Room) s m args below meth c H locs 0 0 Q (F0 m 4 ls []) := by
  have hx := S.1
  have hb := S.2.1
  intro n
  induction n with
  | zero =>
    intro v2 v3 res hf
    cases hf
  | succ n ih =>
    intro v2 v3 res hf H locs ls M hl k41
    rw [f_X8_waitingOfWeight_L4] at hf
    refine lv_iload_n hx hb dX8_waitingOfWeight_4 rfl (lv_at hl 3 rfl) ?_
    refine lv_aload_n hx hb dX8_waitingOfWeight_5 rfl (lv_at hl 0 rfl) ?_
    refine gf_X8_5 (i := 7) S M (by decide) rfl tw_1_84 dX8_waitingOfWeight_6 ?_
    refine lv_icmp_ge (tgt := 41) hx hb dX8_waitingOfWeight_9 (by decide) (fun c1 => ?_) (fun c1 => ?_)
    · have hf := it_p c1 hf
      cases hf
      exact k41 _ rfl _ _ _ M (lv_sub hl [2] rfl)
    · have hf := it_n c1 hf
      refine lv_aload_n hx hb dX8_waitingOfWeight_12 rfl (lv_at hl 0 rfl) ?_
      refine gf_X8_3 (i := 7) S M (by decide) rfl tw_1_82 dX8_waitingOfWeight_13 ?_
      refine lv_iload_n hx hb dX8_waitingOfWeight_16 rfl (lv_at hl 3 rfl) ?_
      obtain ⟨h2, hf⟩ := gi_x hf
      refine gk_iald (i := 11) (k := v3.toNatClampNeg) S M (by decide) (gaa_12 rfl) h2 rfl dX8_waitingOfWeight_17 ?_
      refine lv_iconst (v := (-1)) hx hb dX8_waitingOfWeight_18 (by decide) ?_
      refine lv_icmp_ne (tgt := 35) hx hb dX8_waitingOfWeight_19 (by decide) (fun c3 => ?_) (fun c3 => ?_)
      · have hf := it_n c3 hf
        obtain ⟨x4, ex4, hf⟩ := nm_x hf
        refine lv_iinc (v := x4) (lv' := [(3, .int x4), (0, .ref (G.1 7)), (1, .int p1), (2, .int v2)]) hx hb dX8_waitingOfWeight_35 hl (k := 3) rfl (by rw [ex4]; rfl) (by decide) rfl (fun ls hl => ?_)
        refine lv_goto (tgt := 4) hx hb dX8_waitingOfWeight_38 (by decide) ?_
        exact ih _ _ _ hf _ _ _ M (lv_sub hl [1, 2, 3, 0] rfl) k41
      · have hf := it_p c3 hf
        refine lv_aload_n hx hb dX8_waitingOfWeight_22 rfl (lv_at hl 0 rfl) ?_
        refine gf_X8_0 (i := 7) S M (by decide) rfl tw_1_79 dX8_waitingOfWeight_23 ?_
        refine lv_iload_n hx hb dX8_waitingOfWeight_26 rfl (lv_at hl 3 rfl) ?_
        obtain ⟨h5, hf⟩ := gi_x hf
        refine gk_iald (i := 8) (k := v3.toNatClampNeg) S M (by decide) (gaa_12 rfl) h5 rfl dX8_waitingOfWeight_27 ?_
        refine lv_iload_n hx hb dX8_waitingOfWeight_28 rfl (lv_at hl 1 rfl) ?_
        refine lv_icmp_ne (tgt := 35) hx hb dX8_waitingOfWeight_29 (by decide) (fun c6 => ?_) (fun c6 => ?_)
        · have hf := it_n c6 hf
          obtain ⟨x7, ex7, hf⟩ := nm_x hf
          refine lv_iinc (v := x7) (lv' := [(3, .int x7), (0, .ref (G.1 7)), (1, .int p1), (2, .int v2)]) hx hb dX8_waitingOfWeight_35 hl (k := 3) rfl (by rw [ex7]; rfl) (by decide) rfl (fun ls hl => ?_)
          refine lv_goto (tgt := 4) hx hb dX8_waitingOfWeight_38 (by decide) ?_
          exact ih _ _ _ hf _ _ _ M (lv_sub hl [1, 2, 3, 0] rfl) k41
        · have hf := it_p c6 hf
          obtain ⟨x8, ex8, hf⟩ := nm_x hf
          refine lv_iinc (v := x8) (lv' := [(2, .int x8), (0, .ref (G.1 7)), (1, .int p1), (3, .int v3)]) hx hb dX8_waitingOfWeight_32 hl (k := 2) rfl (by rw [ex8]; rfl) (by decide) rfl (fun ls hl => ?_)
          obtain ⟨x9, ex9, hf⟩ := nm_x hf
          refine lv_iinc (v := x9) (lv' := [(3, .int x9), (2, .int x8), (0, .ref (G.1 7)), (1, .int p1)]) hx hb dX8_waitingOfWeight_35 hl (k := 3) rfl (by rw [ex9]; rfl) (by decide) rfl (fun ls hl => ?_)
          refine lv_goto (tgt := 4) hx hb dX8_waitingOfWeight_38 (by decide) ?_
          exact ih _ _ _ hf _ _ _ M (lv_sub hl [2, 3, 1, 0] rfl) k41
set_option maxHeartbeats 400000 in
set_option maxRecDepth 100000 in
theorem c_X8_waitingOfWeight (l : Launch) (G : gT) (sz : Nat) (lo : Int64) (dd : UInt64) (σ : gM) (a1 : Int32) {o : Int32} (hf : f_X8_waitingOfWeight σ a1 = some o) : gCT l yX8_waitingOfWeight cX8_waitingOfWeight 4 (some .int) { frames := 0, cells := 0, slots := 0, locals := 0 } 0 0 G sz [.ref (G.1 7), .int a1] lo dd σ (.inl (mkI o, σ, lo, dd)) := by
  refine gCT_of (by decide) (Nat.le_of_ble_eq_true rfl) (fun p e s m args below meth c ls S hr hlk hnx hsz C0 hl H locs M => ?_)
  subst hsz
  have hx := S.1
  have hb := S.2.1
  unfold f_X8_waitingOfWeight at hf
  refine lv_iconst (v := 0) hx hb dX8_waitingOfWeight_0 (by decide) ?_
  refine lv_istore_n (lv' := [(2, .int 0), (0, .ref (G.1 7)), (1, .int a1)]) hx hb dX8_waitingOfWeight_1 rfl hl (by decide) rfl (fun ls hl => ?_)
  refine lv_iconst (v := 0) hx hb dX8_waitingOfWeight_2 (by decide) ?_
  refine lv_istore_n (lv' := [(3, .int 0), (2, .int 0), (0, .ref (G.1 7)), (1, .int a1)]) hx hb dX8_waitingOfWeight_3 rfl hl (by decide) rfl (fun ls hl => ?_)
  obtain ⟨y11, h10, hf⟩ := bd_x hf
  refine w_X8_waitingOfWeight_L4 S C0 a1 σ gFU 0 0 _ h10 _ _ _ M (lv_sub hl [2, 3, 1, 0] rfl) (fun _ eq H locs ls M hl => ?_)
  cases eq
  refine lv_iload_n hx hb dX8_waitingOfWeight_41 rfl (lv_at hl 0 rfl) ?_
  cases hf
  exact g_iret S M hr hlk (by decide) (by decide) dX8_waitingOfWeight_42 rfl
theorem k_X4_fittingGreedily : gMV yX4_fittingGreedily cX4_fittingGreedily 7 (some .int) 2 := ⟨tw_4_64, tw_1_8, by decide⟩
set_option maxHeartbeats 400000 in
set_option maxRecDepth 100000 in
theorem w_X4_fittingGreedily_L12 {p : Program} {l : Launch} {e : Env} {s : State} {m : MethodId} {args : Array Value} {below : List Frame} {meth : Method} {c : Code} {Q : State → Prop} {G : gT} {lo : Int64} {dd : UInt64} (S : CallFix p m c cX4_fittingGreedily 7 s args gTs RX4) (C0 : gCST G (gAA G s.heap.size) s) (σ : gM) : ∀ (n : Nat) (v3 : Int32) (v4 : Int32) (v5 : Int32) (res : Int32), f_X4_fittingGreedily_L12 σ n v3 v4 v5 = some res → ∀ (H : Heap) (locs : List Loc) (ls : Array Slot), gMS G (gAA G s.heap.size) lo dd σ s H locs → lv_has ls 7 [(1, .ref (G.1 1)), (3, .int v3), (4, .int v4), (5, .int v5)] → (k58 : ∀ (u4 : Int32), res = u4 → ∀ (H : Heap) (locs : List Loc) (ls : Array Slot), gMS G (gAA G s.heap.size) lo dd σ s H locs → lv_has ls 7 [(4, .int u4)] → W p l e ({ frames := 2, cells := 0, slots := 0, locals := 44 } : Room) s m args below meth c H locs 0 0 Q (F0 m 58 ls [])) → W p l e ({ frames := 2, cells := 0, slots := 0, locals := 44 } : Room) s m args below meth c H locs 0 0 Q (F0 m 12 ls []) := by
  have hx := S.1
  have hb := S.2.1
  intro n
  induction n with
  | zero =>
    intro v3 v4 v5 res hf
    cases hf
  | succ n ih =>
    intro v3 v4 v5 res hf H locs ls M hl k58
    rw [f_X4_fittingGreedily_L12] at hf
    refine lv_iload hx hb dX4_fittingGreedily_12 (lv_at hl 3 rfl) ?_
    refine lv_bipush (v := 20) hx hb dX4_fittingGreedily_14 (by decide) ?_
    refine lv_icmp_gt (tgt := 58) hx hb dX4_fittingGreedily_16 (by decide) (fun c3 => ?_) (fun c3 => ?_)
    · have hf := it_p c3 hf
      cases hf
      exact k58 _ rfl _ _ _ M (lv_sub hl [2] rfl)
    · have hf := it_n c3 hf
      refine lv_aload_n hx hb dX4_fittingGreedily_19 rfl (lv_at hl 0 rfl) ?_
      refine gf_X3_1 (i := 1) S M (by decide) rfl tw_1_136 dX4_fittingGreedily_20 ?_
      refine lv_iload hx hb dX4_fittingGreedily_23 (lv_at hl 3 rfl) ?_
      obtain ⟨r5, h4, hf⟩ := bd_x hf
      refine g_callR (st1 := [.int r5]) (cells' := 0) (slots' := 0) M (g_invV (index := 57) S M C0 hl (c_X8_waitingOfWeight l G H.size lo dd σ v5  h4) k_X8_waitingOfWeight tw_4_67 tw_4_68 tw_4_66 (by decide) (ge_3 rfl) rfl rfl rfl rfl rfl rfl dX4_fittingGreedily_25) rfl rfl rfl (fun H locs M => ?_)
      refine lv_iload_n hx hb dX4_fittingGreedily_28 rfl (lv_at hl 1 rfl) ?_
      refine lv_iload hx hb dX4_fittingGreedily_29 (lv_at hl 3 rfl) ?_
      obtain ⟨z6, hf⟩ := gz_x hf
      refine lv_idiv hx hb dX4_fittingGreedily_31 z6 ?_
      refine va_mmin hx hb (S.2.2.1.trans hl.1.symm) S.2.2.2.1 (S.2.2.2.2 _ tw_4_29) (S.2.2.2.2 _ tw_2_235) (S.2.2.2.2 _ tw_1_23) (S.2.2.2.2 _ tw_2_236) (Nat.le_of_ble_eq_true rfl) (Nat.le_of_ble_eq_true rfl) (Nat.le_of_ble_eq_true rfl) (Nat.le_of_ble_eq_true rfl) dX4_fittingGreedily_32 ?_
      obtain ⟨x7, ex7, hf⟩ := nm_x hf
      refine g_topi ex7 ?_
      refine lv_istore (lv' := [(6, .int x7), (1, .ref (G.1 1)), (3, .int v3), (4, .int v4), (5, .int v5)]) hx hb dX4_fittingGreedily_35 hl (by decide) rfl (fun ls hl => ?_)
      refine lv_iload hx hb dX4_fittingGreedily_37 (lv_at hl 3 rfl) ?_
      refine lv_iload hx hb dX4_fittingGreedily_39 (lv_at hl 0 rfl) ?_
      refine lv_iadd hx hb dX4_fittingGreedily_41 ?_
      obtain ⟨x8, ex8, hf⟩ := nm_x hf
      refine g_topi ex8 ?_
      refine lv_istore (lv' := [(4, .int x8), (6, .int x7), (1, .ref (G.1 1)), (3, .int v3), (5, .int v5)]) hx hb dX4_fittingGreedily_42 hl (by decide) rfl (fun ls hl => ?_)
      refine lv_iload_n hx hb dX4_fittingGreedily_44 rfl (lv_at hl 3 rfl) ?_
      refine lv_iload hx hb dX4_fittingGreedily_45 (lv_at hl 1 rfl) ?_
      refine lv_iload hx hb dX4_fittingGreedily_47 (lv_at hl 4 rfl) ?_
      refine lv_imul hx hb dX4_fittingGreedily_49 ?_
      refine lv_isub hx hb dX4_fittingGreedily_50 ?_
      obtain ⟨x9, ex9, hf⟩ := nm_x hf
      refine g_topi ex9 ?_
      refine lv_istore_n (lv' := [(3, .int x9), (4, .int x8), (6, .int x7), (1, .ref (G.1 1)), (5, .int v5)]) hx hb dX4_fittingGreedily_51 rfl hl (by decide) rfl (fun ls hl => ?_)
      obtain ⟨x10, ex10, hf⟩ := nm_x hf
      refine lv_iinc (v := x10) (lv' := [(5, .int x10), (3, .int x9), (4, .int x8), (6, .int x7), (1, .ref (G.1 1))]) hx hb dX4_fittingGreedily_52 hl (k := 4) rfl (by rw [ex10]; rfl) (by decide) rfl (fun ls hl => ?_)
      refine lv_goto (tgt := 12) hx hb dX4_fittingGreedily_55 (by decide) ?_
      exact ih _ _ _ _ hf _ _ _ M (lv_sub hl [4, 1, 2, 0] rfl) k58
set_option maxHeartbeats 400000 in
set_option maxRecDepth 100000 in
theorem c_X4_fittingGreedily (l : Launch) (G : gT) (sz : Nat) (lo : Int64) (dd : UInt64) (σ : gM) (a2 : Int32) {o : Int32} (hf : f_X4_fittingGreedily σ a2 = some o) : gCT l yX4_fittingGreedily cX4_fittingGreedily 7 (some .int) { frames := 2, cells := 0, slots := 0, locals := 44 } 0 0 G sz [.ref (G.1 201), .ref (G.1 1), .int a2] lo dd σ (.inl (mkI o, σ, lo, dd)) := by
  refine gCT_of (by decide) (Nat.le_of_ble_eq_true rfl) (fun p e s m args below meth c ls S hr hlk hnx hsz C0 hl H locs M => ?_)
  subst hsz
  have hx := S.1
  have hb := S.2.1
  unfold f_X4_fittingGreedily at hf
  refine lv_aload_n hx hb dX4_fittingGreedily_0 rfl (lv_at hl 1 rfl) ?_
  refine lv_iload_n hx hb dX4_fittingGreedily_1 rfl (lv_at hl 2 rfl) ?_
  obtain ⟨r2, h1, hf⟩ := bd_x hf
  refine g_callR (st1 := [.int r2]) (cells' := 0) (slots' := 0) M (g_invV (index := 54) S M C0 hl (c_X3_roomIn l G H.size lo dd σ a2  h1) k_X3_roomIn tw_3_34 tw_3_35 tw_4_65 (by decide) (ge_1 rfl) rfl rfl rfl rfl rfl rfl dX4_fittingGreedily_2) rfl rfl rfl (fun H locs M => ?_)
  refine lv_istore_n (lv' := [(3, .int r2), (0, .ref (G.1 201)), (1, .ref (G.1 1)), (2, .int a2)]) hx hb dX4_fittingGreedily_5 rfl hl (by decide) rfl (fun ls hl => ?_)
  refine lv_iconst (v := 0) hx hb dX4_fittingGreedily_6 (by decide) ?_
  refine lv_istore (lv' := [(4, .int 0), (3, .int r2), (0, .ref (G.1 201)), (1, .ref (G.1 1)), (2, .int a2)]) hx hb dX4_fittingGreedily_7 hl (by decide) rfl (fun ls hl => ?_)
  refine lv_iconst (v := 1) hx hb dX4_fittingGreedily_9 (by decide) ?_
  refine lv_istore (lv' := [(5, .int 1), (4, .int 0), (3, .int r2), (0, .ref (G.1 201)), (1, .ref (G.1 1)), (2, .int a2)]) hx hb dX4_fittingGreedily_10 hl (by decide) rfl (fun ls hl => ?_)
  obtain ⟨y12, h11, hf⟩ := bd_x hf
  refine w_X4_fittingGreedily_L12 S C0 σ gFU r2 0 1 _ h11 _ _ _ M (lv_sub hl [4, 2, 1, 0] rfl) (fun _ eq H locs ls M hl => ?_)
  cases eq
  refine lv_iload hx hb dX4_fittingGreedily_58 (lv_at hl 0 rfl) ?_
  cases hf
  exact g_iret S M hr hlk (by decide) (by decide) dX4_fittingGreedily_60 rfl
theorem k_X12_mostFitting : gMV yX12_mostFitting cX12_mostFitting 2 (some .int) 1 := ⟨tw_4_60, tw_1_1, by decide⟩
set_option maxHeartbeats 400000 in
set_option maxRecDepth 100000 in
theorem c_X12_mostFitting (l : Launch) (hfl : l.stackTraces = false) (G : gT) (sz : Nat) (lo : Int64) (dd : UInt64) (σ : gM) (a1 : Int32) {o : (Int32) ⊕ (Nat)} (hf : f_X12_mostFitting σ a1 = some o) : gCT l yX12_mostFitting cX12_mostFitting 2 (some .int) { frames := 8, cells := 1, slots := 6, locals := 124 } 1 6 G sz [.ref (G.1 0), .int a1] lo dd σ (got mkI o σ lo dd) := by
  refine gCT_of (by decide) (Nat.le_of_ble_eq_true rfl) (fun p e s m args below meth c ls S hr hlk hnx hsz C0 hl H locs M => ?_)
  subst hsz
  have hx := S.1
  have hb := S.2.1
  unfold f_X12_mostFitting at hf
  refine lv_iload_n hx hb dX12_mostFitting_0 rfl (lv_at hl 1 rfl) ?_
  refine lv_iconst (v := 3) hx hb dX12_mostFitting_1 (by decide) ?_
  rcases bt_x hf with ⟨u, h1, hf⟩ | ⟨n2, h1, hf⟩
  · refine g_callR (st1 := []) (cells' := 1) (slots' := 6) M (g_invS (index := 121) S M C0 hl (c_X12_requireIndex l hfl G H.size lo dd σ a1 3  h1) k_X12_requireIndex tw_3_142 tw_3_141 rfl rfl rfl rfl dX12_mostFitting_2) rfl rfl rfl (fun H locs M => ?_)
    refine lv_aload_n hx hb dX12_mostFitting_5 rfl (lv_at hl 0 rfl) ?_
    refine gf_X12_3 (i := 0) S M (by decide) rfl tw_2_10 dX12_mostFitting_6 ?_
    refine lv_aload_n hx hb dX12_mostFitting_9 rfl (lv_at hl 0 rfl) ?_
    refine gf_X12_0 (i := 0) S M (by decide) rfl tw_2_7 dX12_mostFitting_10 ?_
    refine lv_iload_n hx hb dX12_mostFitting_13 rfl (lv_at hl 1 rfl) ?_
    obtain ⟨r4, h3, hf⟩ := bd_x hf
    refine g_callR (st1 := [.int r4]) (cells' := 1) (slots' := 6) M (g_invV (index := 209) S M C0 hl (c_X4_fittingGreedily l G H.size lo dd σ a1  h3) k_X4_fittingGreedily tw_4_62 tw_4_63 tw_4_61 (by decide) (ge_8 rfl) rfl rfl rfl rfl rfl rfl dX12_mostFitting_14) rfl rfl rfl (fun H locs M => ?_)
    cases hf
    exact g_iret S M hr hlk (by decide) (by decide) dX12_mostFitting_17 rfl
  · cases hf
    refine g_runX (cells' := 1) (slots' := 6) M (g_invS (index := 121) S M C0 hl (c_X12_requireIndex l hfl G H.size lo dd σ a1 3  h1) k_X12_requireIndex tw_3_142 tw_3_141 rfl rfl rfl rfl dX12_mostFitting_2) rfl rfl (fun ce q H locs M hq hv hcl => ?_)
    exact g_out M hnx hlk hq hv hcl (by decide) (by decide) rfl
theorem k_X4_enter : gMV yX4_enter cX4_enter 4 none 2 := ⟨tw_4_85, tw_1_8, by decide⟩
set_option maxHeartbeats 400000 in
set_option maxRecDepth 100000 in
theorem w_X4_enter_L2 {p : Program} {l : Launch} {e : Env} {s : State} {m : MethodId} {args : Array Value} {below : List Frame} {meth : Method} {c : Code} {Q : State → Prop} {G : gT} {lo : Int64} {dd : UInt64} (S : CallFix p m c cX4_enter 4 s args gTs RX4) (C0 : gCST G (gAA G s.heap.size) s) (p1 : Int32) : ∀ (n : Nat) (v3 : Int32) (σ : gM) (res : gM), f_X4_enter_L2 p1 n v3 σ = some res → ∀ (H : Heap) (locs : List Loc) (ls : Array Slot), gMS G (gAA G s.heap.size) lo dd σ s H locs → lv_has ls 4 [(0, .ref (G.1 201)), (1, .int p1), (3, .int v3)] → (k38 : ∀ (τ : gM), res = τ → ∀ (H : Heap) (locs : List Loc) (ls : Array Slot), gMS G (gAA G s.heap.size) lo dd τ s H locs → lv_has ls 4 [] → W p l e ({ frames := 1, cells := 0, slots := 0, locals := 32 } : Room) s m args below meth c H locs 0 0 Q (F0 m 38 ls [])) → W p l e ({ frames := 1, cells := 0, slots := 0, locals := 32 } : Room) s m args below meth c H locs 0 0 Q (F0 m 2 ls []) := by
  have hx := S.1
  have hb := S.2.1
  intro n
  induction n with
  | zero =>
    intro v3 σ res hf
    cases hf
  | succ n ih =>
    intro v3 σ res hf H locs ls M hl k38
    rw [f_X4_enter_L2] at hf
    refine lv_iload_n hx hb dX4_enter_2 rfl (lv_at hl 2 rfl) ?_
    refine lv_iload_n hx hb dX4_enter_3 rfl (lv_at hl 1 rfl) ?_
    refine lv_icmp_lt (tgt := 38) hx hb dX4_enter_4 (by decide) (fun c1 => ?_) (fun c1 => ?_)
    · have hf := it_p c1 hf
      cases hf
      exact k38 _ rfl _ _ _ M (lv_sub hl [] rfl)
    · have hf := it_n c1 hf
      refine lv_aload_n hx hb dX4_enter_7 rfl (lv_at hl 0 rfl) ?_
      refine gf_X4_1 (i := 201) S M (by decide) rfl tw_1_180 dX4_enter_8 ?_
      refine lv_iload_n hx hb dX4_enter_11 rfl (lv_at hl 2 rfl) ?_
      refine lv_aload_n hx hb dX4_enter_12 rfl (lv_at hl 0 rfl) ?_
      refine gf_X4_1 (i := 201) S M (by decide) rfl tw_1_180 dX4_enter_13 ?_
      refine lv_iload_n hx hb dX4_enter_16 rfl (lv_at hl 2 rfl) ?_
      obtain ⟨h2, hf⟩ := gi_x hf
      refine gk_iald (i := 203) (k := v3.toNatClampNeg) S M (by decide) (gaa_61 rfl) h2 rfl dX4_enter_17 ?_
      refine lv_aload_n hx hb dX4_enter_18 rfl (lv_at hl 0 rfl) ?_
      refine gf_X4_1 (i := 201) S M (by decide) rfl tw_1_180 dX4_enter_19 ?_
      refine lv_iload_n hx hb dX4_enter_22 rfl (lv_at hl 2 rfl) ?_
      refine lv_iload_n hx hb dX4_enter_23 rfl (lv_at hl 1 rfl) ?_
      refine lv_isub hx hb dX4_enter_24 ?_
      obtain ⟨h3, hf⟩ := gi_x hf
      refine gk_iald (i := 203) (k := (v3 - p1).toNatClampNeg) S M (by decide) (gaa_61 rfl) h3 rfl dX4_enter_25 ?_
      refine lv_iconst (v := 1) hx hb dX4_enter_26 (by decide) ?_
      refine lv_iadd hx hb dX4_enter_27 ?_
      refine va_mmax hx hb (S.2.2.1.trans hl.1.symm) S.2.2.2.1 (S.2.2.2.2 _ tw_4_38) (S.2.2.2.2 _ tw_4_39) (S.2.2.2.2 _ tw_1_23) (S.2.2.2.2 _ tw_4_40) (Nat.le_of_ble_eq_true rfl) (Nat.le_of_ble_eq_true rfl) (Nat.le_of_ble_eq_true rfl) (Nat.le_of_ble_eq_true rfl) dX4_enter_28 ?_
      obtain ⟨h4, hf⟩ := gi_x hf
      obtain ⟨σ5, eσ5, hf⟩ := nm_x hf
      refine gk_iast (i := 203) (k := v3.toNatClampNeg) S M (by decide) (fun _ => (gaa_61 rfl)) h4 rfl dX4_enter_31 (fun H locs M => ?_)
      rw [← eσ5] at M
      obtain ⟨x6, ex6, hf⟩ := nm_x hf
      refine lv_iinc (v := x6) (lv' := [(3, .int x6), (0, .ref (G.1 201)), (1, .int p1)]) hx hb dX4_enter_32 hl (k := 2) rfl (by rw [ex6]; rfl) (by decide) rfl (fun ls hl => ?_)
      refine lv_goto (tgt := 2) hx hb dX4_enter_35 (by decide) ?_
      exact ih _ _ _ hf _ _ _ M (lv_sub hl [1, 2, 0] rfl) k38
set_option maxHeartbeats 400000 in
set_option maxRecDepth 100000 in
theorem c_X4_enter (l : Launch) (G : gT) (sz : Nat) (lo : Int64) (dd : UInt64) (σ : gM) (a1 : Int32) (a2 : Int32) {o : gM} (hf : f_X4_enter σ a1 a2 = some o) : gCT l yX4_enter cX4_enter 4 none { frames := 1, cells := 0, slots := 0, locals := 32 } 0 0 G sz [.ref (G.1 201), .int a1, .int a2] lo dd σ (.inl (none, o, lo, dd)) := by
  refine gCT_of (by decide) (Nat.le_of_ble_eq_true rfl) (fun p e s m args below meth c ls S hr hlk hnx hsz C0 hl H locs M => ?_)
  subst hsz
  have hx := S.1
  have hb := S.2.1
  unfold f_X4_enter at hf
  refine lv_iload_n hx hb dX4_enter_0 rfl (lv_at hl 2 rfl) ?_
  refine lv_istore_n (lv' := [(3, .int a2), (0, .ref (G.1 201)), (1, .int a1), (2, .int a2)]) hx hb dX4_enter_1 rfl hl (by decide) rfl (fun ls hl => ?_)
  obtain ⟨σ8, h7, hf⟩ := bd_x hf
  refine w_X4_enter_L2 S C0 a1 gFU a2 σ _ h7 _ _ _ M (lv_sub hl [1, 2, 0] rfl) (fun _ eq H locs ls M hl => ?_)
  cases eq
  cases hf
  exact g_vret S M hr hlk (by decide) (by decide) dX4_enter_38 rfl
theorem k_X4_fittingByTable : gMV yX4_fittingByTable cX4_fittingByTable 5 (some .int) 2 := ⟨tw_4_77, tw_1_8, by decide⟩
set_option maxHeartbeats 400000 in
set_option maxRecDepth 100000 in
theorem w_X4_fittingByTable_L23 {p : Program} {l : Launch} {e : Env} {s : State} {m : MethodId} {args : Array Value} {below : List Frame} {meth : Method} {c : Code} {Q : State → Prop} {G : gT} {lo : Int64} {dd : UInt64} (S : CallFix p m c cX4_fittingByTable 5 s args gTs RX4) (C0 : gCST G (gAA G s.heap.size) s) (p3 : Int32) : ∀ (n : Nat) (v4 : Int32) (σ : gM) (res : gM), f_X4_fittingByTable_L23 p3 n v4 σ = some res → ∀ (H : Heap) (locs : List Loc) (ls : Array Slot), gMS G (gAA G s.heap.size) lo dd σ s H locs → lv_has ls 5 [(0, .ref (G.1 201)), (1, .ref (G.1 1)), (3, .int p3), (4, .int v4)] → (k43 : ∀ (τ : gM), res = τ → ∀ (H : Heap) (locs : List Loc) (ls : Array Slot), gMS G (gAA G s.heap.size) lo dd τ s H locs → lv_has ls 5 [(0, .ref (G.1 201)), (1, .ref (G.1 1)), (3, .int p3)] → W p l e ({ frames := 2, cells := 0, slots := 0, locals := 55 } : Room) s m args below meth c H locs 0 0 Q (F0 m 43 ls [])) → W p l e ({ frames := 2, cells := 0, slots := 0, locals := 55 } : Room) s m args below meth c H locs 0 0 Q (F0 m 23 ls []) := by
  have hx := S.1
  have hb := S.2.1
  intro n
  induction n with
  | zero =>
    intro v4 σ res hf
    cases hf
  | succ n ih =>
    intro v4 σ res hf H locs ls M hl k43
    rw [f_X4_fittingByTable_L23] at hf
    refine lv_iload hx hb dX4_fittingByTable_23 (lv_at hl 3 rfl) ?_
    refine lv_iload_n hx hb dX4_fittingByTable_25 rfl (lv_at hl 2 rfl) ?_
    refine lv_icmp_gt (tgt := 43) hx hb dX4_fittingByTable_26 (by decide) (fun c6 => ?_) (fun c6 => ?_)
    · have hf := it_p c6 hf
      cases hf
      exact k43 _ rfl _ _ _ M (lv_sub hl [0, 1, 2] rfl)
    · have hf := it_n c6 hf
      refine lv_aload_n hx hb dX4_fittingByTable_29 rfl (lv_at hl 0 rfl) ?_
      refine gf_X4_1 (i := 201) S M (by decide) rfl tw_1_180 dX4_fittingByTable_30 ?_
      refine lv_iload hx hb dX4_fittingByTable_33 (lv_at hl 3 rfl) ?_
      refine lv_iconst (v := 0) hx hb dX4_fittingByTable_35 (by decide) ?_
      obtain ⟨h7, hf⟩ := gi_x hf
      obtain ⟨σ8, eσ8, hf⟩ := nm_x hf
      refine gk_iast (i := 203) (k := v4.toNatClampNeg) S M (by decide) (fun _ => (gaa_61 rfl)) h7 rfl dX4_fittingByTable_36 (fun H locs M => ?_)
      rw [← eσ8] at M
      obtain ⟨x9, ex9, hf⟩ := nm_x hf
      refine lv_iinc (v := x9) (lv' := [(4, .int x9), (0, .ref (G.1 201)), (1, .ref (G.1 1)), (3, .int p3)]) hx hb dX4_fittingByTable_37 hl (k := 3) rfl (by rw [ex9]; rfl) (by decide) rfl (fun ls hl => ?_)
      refine lv_goto (tgt := 23) hx hb dX4_fittingByTable_40 (by decide) ?_
      exact ih _ _ _ hf _ _ _ M (lv_sub hl [1, 2, 3, 0] rfl) k43
set_option maxHeartbeats 400000 in
set_option maxRecDepth 100000 in
theorem w_X4_fittingByTable_L46 {p : Program} {l : Launch} {e : Env} {s : State} {m : MethodId} {args : Array Value} {below : List Frame} {meth : Method} {c : Code} {Q : State → Prop} {G : gT} {lo : Int64} {dd : UInt64} (S : CallFix p m c cX4_fittingByTable 5 s args gTs RX4) (C0 : gCST G (gAA G s.heap.size) s) (p3 : Int32) : ∀ (n : Nat) (v4 : Int32) (σ : gM) (res : gM), f_X4_fittingByTable_L46 p3 n v4 σ = some res → ∀ (H : Heap) (locs : List Loc) (ls : Array Slot), gMS G (gAA G s.heap.size) lo dd σ s H locs → lv_has ls 5 [(0, .ref (G.1 201)), (1, .ref (G.1 1)), (3, .int p3), (4, .int v4)] → (k91 : ∀ (τ : gM), res = τ → ∀ (H : Heap) (locs : List Loc) (ls : Array Slot), gMS G (gAA G s.heap.size) lo dd τ s H locs → lv_has ls 5 [(0, .ref (G.1 201)), (3, .int p3)] → W p l e ({ frames := 2, cells := 0, slots := 0, locals := 55 } : Room) s m args below meth c H locs 0 0 Q (F0 m 91 ls [])) → W p l e ({ frames := 2, cells := 0, slots := 0, locals := 55 } : Room) s m args below meth c H locs 0 0 Q (F0 m 46 ls []) := by
  have hx := S.1
  have hb := S.2.1
  intro n
  induction n with
  | zero =>
    intro v4 σ res hf
    cases hf
  | succ n ih =>
    intro v4 σ res hf H locs ls M hl k91
    rw [f_X4_fittingByTable_L46] at hf
    refine lv_iload hx hb dX4_fittingByTable_46 (lv_at hl 3 rfl) ?_
    refine lv_aload_n hx hb dX4_fittingByTable_48 rfl (lv_at hl 1 rfl) ?_
    refine gf_X3_1 (i := 1) S M (by decide) rfl tw_1_136 dX4_fittingByTable_49 ?_
    obtain ⟨r13, h12, hf⟩ := bd_x hf
    refine g_callR (st1 := [.int r13, .int v4]) (cells' := 0) (slots' := 0) M (g_invV (index := 64) S M C0 hl (c_X8_size l G H.size lo dd σ   h12) k_X8_size tw_3_22 tw_3_23 tw_4_79 (by decide) (ge_3 rfl) rfl rfl rfl rfl rfl rfl dX4_fittingByTable_52) rfl rfl rfl (fun H locs M => ?_)
    refine lv_icmp_ge (tgt := 91) hx hb dX4_fittingByTable_55 (by decide) (fun c14 => ?_) (fun c14 => ?_)
    · have hf := it_p c14 hf
      cases hf
      exact k91 _ rfl _ _ _ M (lv_sub hl [0, 2] rfl)
    · have hf := it_n c14 hf
      refine lv_aload_n hx hb dX4_fittingByTable_58 rfl (lv_at hl 1 rfl) ?_
      refine gf_X3_1 (i := 1) S M (by decide) rfl tw_1_136 dX4_fittingByTable_59 ?_
      refine lv_iload hx hb dX4_fittingByTable_62 (lv_at hl 3 rfl) ?_
      obtain ⟨r16, h15, hf⟩ := bd_x hf
      refine g_callR (st1 := [.int r16]) (cells' := 0) (slots' := 0) M (g_invV (index := 68) S M C0 hl (c_X8_whereIs l G H.size lo dd σ v4  h15) k_X8_whereIs tw_3_26 tw_3_27 tw_4_80 (by decide) (ge_3 rfl) rfl rfl rfl rfl rfl rfl dX4_fittingByTable_64) rfl rfl rfl (fun H locs M => ?_)
      refine lv_iconst (v := (-1)) hx hb dX4_fittingByTable_67 (by decide) ?_
      refine lv_icmp_ne (tgt := 85) hx hb dX4_fittingByTable_68 (by decide) (fun c17 => ?_) (fun c17 => ?_)
      · have hf := it_n c17 hf
        obtain ⟨x18, ex18, hf⟩ := nm_x hf
        refine lv_iinc (v := x18) (lv' := [(4, .int x18), (0, .ref (G.1 201)), (1, .ref (G.1 1)), (3, .int p3)]) hx hb dX4_fittingByTable_85 hl (k := 3) rfl (by rw [ex18]; rfl) (by decide) rfl (fun ls hl => ?_)
        refine lv_goto (tgt := 46) hx hb dX4_fittingByTable_88 (by decide) ?_
        exact ih _ _ _ hf _ _ _ M (lv_sub hl [1, 2, 3, 0] rfl) k91
      · have hf := it_p c17 hf
        refine lv_aload_n hx hb dX4_fittingByTable_71 rfl (lv_at hl 0 rfl) ?_
        refine lv_aload_n hx hb dX4_fittingByTable_72 rfl (lv_at hl 1 rfl) ?_
        refine gf_X3_1 (i := 1) S M (by decide) rfl tw_1_136 dX4_fittingByTable_73 ?_
        refine lv_iload hx hb dX4_fittingByTable_76 (lv_at hl 3 rfl) ?_
        obtain ⟨r20, h19, hf⟩ := bd_x hf
        refine g_callR (st1 := [.int r20, .ref (G.1 201)]) (cells' := 0) (slots' := 0) M (g_invV (index := 71) S M C0 hl (c_X8_weightOf l G H.size lo dd σ v4  h19) k_X8_weightOf tw_3_30 tw_3_31 tw_4_81 (by decide) (ge_3 rfl) rfl rfl rfl rfl rfl rfl dX4_fittingByTable_78) rfl rfl rfl (fun H locs M => ?_)
        refine lv_iload_n hx hb dX4_fittingByTable_81 rfl (lv_at hl 2 rfl) ?_
        obtain ⟨σ22, h21, hf⟩ := bd_x hf
        refine g_callR (st1 := []) (cells' := 0) (slots' := 0) M (g_invV (index := 74) S M C0 hl (c_X4_enter l G H.size lo dd σ r20 p3  h21) k_X4_enter tw_4_84 tw_0_10 tw_4_82 (by decide) (ge_8 rfl) rfl rfl rfl rfl rfl rfl dX4_fittingByTable_82) rfl rfl rfl (fun H locs M => ?_)
        obtain ⟨x23, ex23, hf⟩ := nm_x hf
        refine lv_iinc (v := x23) (lv' := [(4, .int x23), (0, .ref (G.1 201)), (1, .ref (G.1 1)), (3, .int p3)]) hx hb dX4_fittingByTable_85 hl (k := 3) rfl (by rw [ex23]; rfl) (by decide) rfl (fun ls hl => ?_)
        refine lv_goto (tgt := 46) hx hb dX4_fittingByTable_88 (by decide) ?_
        exact ih _ _ _ hf _ _ _ M (lv_sub hl [1, 2, 3, 0] rfl) k91
set_option maxHeartbeats 400000 in
set_option maxRecDepth 100000 in
theorem c_X4_fittingByTable (l : Launch) (G : gT) (sz : Nat) (lo : Int64) (dd : UInt64) (σ : gM) (a2 : Int32) {r : Int32} {o : gM} (hf : f_X4_fittingByTable σ a2 = some (r, o)) : gCT l yX4_fittingByTable cX4_fittingByTable 5 (some .int) { frames := 2, cells := 0, slots := 0, locals := 55 } 0 0 G sz [.ref (G.1 201), .ref (G.1 1), .int a2] lo dd σ (.inl (mkI r, o, lo, dd)) := by
  refine gCT_of (by decide) (Nat.le_of_ble_eq_true rfl) (fun p e s m args below meth c ls S hr hlk hnx hsz C0 hl H locs M => ?_)
  subst hsz
  have hx := S.1
  have hb := S.2.1
  unfold f_X4_fittingByTable at hf
  refine lv_aload_n hx hb dX4_fittingByTable_0 rfl (lv_at hl 1 rfl) ?_
  refine lv_iload_n hx hb dX4_fittingByTable_1 rfl (lv_at hl 2 rfl) ?_
  obtain ⟨r2, h1, hf⟩ := bd_x hf
  refine g_callR (st1 := [.int r2]) (cells' := 0) (slots' := 0) M (g_invV (index := 54) S M C0 hl (c_X3_roomIn l G H.size lo dd σ a2  h1) k_X3_roomIn tw_3_34 tw_3_35 tw_4_65 (by decide) (ge_1 rfl) rfl rfl rfl rfl rfl rfl dX4_fittingByTable_2) rfl rfl rfl (fun H locs M => ?_)
  refine lv_istore_n (lv' := [(3, .int r2), (0, .ref (G.1 201)), (1, .ref (G.1 1)), (2, .int a2)]) hx hb dX4_fittingByTable_5 rfl hl (by decide) rfl (fun ls hl => ?_)
  refine lv_iload_n hx hb dX4_fittingByTable_6 rfl (lv_at hl 0 rfl) ?_
  refine lv_aload_n hx hb dX4_fittingByTable_7 rfl (lv_at hl 1 rfl) ?_
  refine gf_X4_1 (i := 201) S M (by decide) rfl tw_1_180 dX4_fittingByTable_8 ?_
  refine g_alen (i := 203) (t := 0) (v := 61) S M (by decide) (gaa_61 rfl) rfl (by decide) dX4_fittingByTable_11 ?_
  obtain ⟨r4, h3, hf⟩ := bd_x hf
  refine g_callR (st1 := [.int r4]) (cells' := 0) (slots' := 0) M (g_invSN (index := 60) (host := "ParcelDepot") S M C0 hl (c_X12_isIndex l G H.size lo dd σ r2 61  h3) k_X12_isIndex tw_2_74 (by decide +kernel) rfl rfl rfl rfl dX4_fittingByTable_12) rfl rfl rfl (fun H locs M => ?_)
  refine lv_if_ne (tgt := 20) hx hb dX4_fittingByTable_15 (by decide) (fun c5 => ?_) (fun c5 => ?_)
  · have hf := it_n c5 hf
    refine lv_iconst (v := 0) hx hb dX4_fittingByTable_20 (by decide) ?_
    refine lv_istore (lv' := [(4, .int 0), (3, .int r2), (0, .ref (G.1 201)), (1, .ref (G.1 1)), (2, .int a2)]) hx hb dX4_fittingByTable_21 hl (by decide) rfl (fun ls hl => ?_)
    obtain ⟨σ11, h10, hf⟩ := bd_x hf
    refine w_X4_fittingByTable_L23 S C0 r2 gFU 0 σ _ h10 _ _ _ M (lv_sub hl [2, 3, 1, 0] rfl) (fun _ eq H locs ls M hl => ?_)
    cases eq
    refine lv_iconst (v := 0) hx hb dX4_fittingByTable_43 (by decide) ?_
    refine lv_istore (lv' := [(4, .int 0), (0, .ref (G.1 201)), (1, .ref (G.1 1)), (3, .int r2)]) hx hb dX4_fittingByTable_44 hl (by decide) rfl (fun ls hl => ?_)
    obtain ⟨σ25, h24, hf⟩ := bd_x hf
    refine w_X4_fittingByTable_L46 S C0 r2 gFU 0 σ11 _ h24 _ _ _ M (lv_sub hl [1, 2, 3, 0] rfl) (fun _ eq H locs ls M hl => ?_)
    cases eq
    refine lv_aload_n hx hb dX4_fittingByTable_91 rfl (lv_at hl 0 rfl) ?_
    refine gf_X4_1 (i := 201) S M (by decide) rfl tw_1_180 dX4_fittingByTable_92 ?_
    refine lv_iload_n hx hb dX4_fittingByTable_95 rfl (lv_at hl 1 rfl) ?_
    obtain ⟨h26, hf⟩ := gi_x hf
    refine gk_iald (i := 203) (k := r2.toNatClampNeg) S M (by decide) (gaa_61 rfl) h26 rfl dX4_fittingByTable_96 ?_
    cases hf
    exact g_iret S M hr hlk (by decide) (by decide) dX4_fittingByTable_97 rfl
  · have hf := it_p c5 hf
    refine lv_iconst (v := 0) hx hb dX4_fittingByTable_18 (by decide) ?_
    cases hf
    exact g_iret S M hr hlk (by decide) (by decide) dX4_fittingByTable_19 rfl
theorem k_X12_mostFittingByTable : gMV yX12_mostFittingByTable cX12_mostFittingByTable 2 (some .int) 1 := ⟨tw_4_73, tw_1_1, by decide⟩
set_option maxHeartbeats 400000 in
set_option maxRecDepth 100000 in
theorem c_X12_mostFittingByTable (l : Launch) (hfl : l.stackTraces = false) (G : gT) (sz : Nat) (lo : Int64) (dd : UInt64) (σ : gM) (a1 : Int32) {o : (Int32 × gM) ⊕ (Nat × gM)} (hf : f_X12_mostFittingByTable σ a1 = some o) : gCT l yX12_mostFittingByTable cX12_mostFittingByTable 2 (some .int) { frames := 8, cells := 1, slots := 6, locals := 124 } 1 6 G sz [.ref (G.1 0), .int a1] lo dd σ (got2 mkI o lo dd) := by
  refine gCT_of (by decide) (Nat.le_of_ble_eq_true rfl) (fun p e s m args below meth c ls S hr hlk hnx hsz C0 hl H locs M => ?_)
  subst hsz
  have hx := S.1
  have hb := S.2.1
  unfold f_X12_mostFittingByTable at hf
  refine lv_iload_n hx hb dX12_mostFittingByTable_0 rfl (lv_at hl 1 rfl) ?_
  refine lv_iconst (v := 3) hx hb dX12_mostFittingByTable_1 (by decide) ?_
  rcases bt_x hf with ⟨u, h1, hf⟩ | ⟨n2, h1, hf⟩
  · refine g_callR (st1 := []) (cells' := 1) (slots' := 6) M (g_invS (index := 121) S M C0 hl (c_X12_requireIndex l hfl G H.size lo dd σ a1 3  h1) k_X12_requireIndex tw_3_142 tw_3_141 rfl rfl rfl rfl dX12_mostFittingByTable_2) rfl rfl rfl (fun H locs M => ?_)
    refine lv_aload_n hx hb dX12_mostFittingByTable_5 rfl (lv_at hl 0 rfl) ?_
    refine gf_X12_3 (i := 0) S M (by decide) rfl tw_2_10 dX12_mostFittingByTable_6 ?_
    refine lv_aload_n hx hb dX12_mostFittingByTable_9 rfl (lv_at hl 0 rfl) ?_
    refine gf_X12_0 (i := 0) S M (by decide) rfl tw_2_7 dX12_mostFittingByTable_10 ?_
    refine lv_iload_n hx hb dX12_mostFittingByTable_13 rfl (lv_at hl 1 rfl) ?_
    obtain ⟨r4, σ5, h3, hf⟩ := bd2_x hf
    refine g_callR (st1 := [.int r4]) (cells' := 1) (slots' := 6) M (g_invV (index := 213) S M C0 hl (c_X4_fittingByTable l G H.size lo dd σ a1  h3) k_X4_fittingByTable tw_4_75 tw_4_76 tw_4_74 (by decide) (ge_8 rfl) rfl rfl rfl rfl rfl rfl dX12_mostFittingByTable_14) rfl rfl rfl (fun H locs M => ?_)
    cases hf
    exact g_iret S M hr hlk (by decide) (by decide) dX12_mostFittingByTable_17 rfl
  · cases hf
    refine g_runX (cells' := 1) (slots' := 6) M (g_invS (index := 121) S M C0 hl (c_X12_requireIndex l hfl G H.size lo dd σ a1 3  h1) k_X12_requireIndex tw_3_142 tw_3_141 rfl rfl rfl rfl dX12_mostFittingByTable_2) rfl rfl (fun ce q H locs M hq hv hcl => ?_)
    exact g_out M hnx hlk hq hv hcl (by decide) (by decide) rfl
theorem k_X3_effortOf : gMV yX3_effortOf cX3_effortOf 4 (some .int) 2 := ⟨tw_4_93, tw_1_2, by decide⟩
set_option maxHeartbeats 400000 in
set_option maxRecDepth 100000 in
theorem c_X3_effortOf (l : Launch) (G : gT) (sz : Nat) (lo : Int64) (dd : UInt64) (σ : gM) (a1 : Int32) (a2 : Int32) {r : Int32} {o : gM} (hf : f_X3_effortOf σ a1 a2 = some (r, o)) : gCT l yX3_effortOf cX3_effortOf 4 (some .int) { frames := 3, cells := 0, slots := 0, locals := 69 } 0 0 G sz [.ref (G.1 1), .int a1, .int a2] lo dd σ (.inl (mkI r, o, lo, dd)) := by
  refine gCT_of (by decide) (Nat.le_of_ble_eq_true rfl) (fun p e s m args below meth c ls S hr hlk hnx hsz C0 hl H locs M => ?_)
  subst hsz
  have hx := S.1
  have hb := S.2.1
  unfold f_X3_effortOf at hf
  refine lv_aload_n hx hb dX3_effortOf_0 rfl (lv_at hl 0 rfl) ?_
  refine gf_X3_0 (i := 1) S M (by decide) rfl tw_1_133 dX3_effortOf_1 ?_
  refine lv_aload_n hx hb dX3_effortOf_4 rfl (lv_at hl 0 rfl) ?_
  refine gf_X3_3 (i := 1) S M (by decide) rfl tw_1_142 dX3_effortOf_5 ?_
  refine lv_iload_n hx hb dX3_effortOf_8 rfl (lv_at hl 1 rfl) ?_
  obtain ⟨r2, h1, hf⟩ := bd_x hf
  refine g_callR (st1 := [.int r2, .ref (G.1 2)]) (cells' := 0) (slots' := 0) M (g_invV (index := 65) S M C0 hl (c_X11_placeOf l G H.size lo dd σ a1  h1) k_X11_placeOf tw_3_87 tw_3_88 tw_3_86 (by decide) (ge_5 rfl) rfl rfl rfl rfl rfl rfl dX3_effortOf_9) rfl rfl rfl (fun H locs M => ?_)
  refine lv_iload_n hx hb dX3_effortOf_12 rfl (lv_at hl 2 rfl) ?_
  obtain ⟨r4, σ5, h3, hf⟩ := bd2_x hf
  refine g_callR (st1 := [.int r4]) (cells' := 0) (slots' := 0) M (g_invV (index := 68) S M C0 hl (c_X9_shortest l G H.size lo dd σ r2 a2  h3) k_X9_shortest tw_3_91 tw_3_92 tw_3_90 (by decide) (ge_2 rfl) rfl rfl rfl rfl rfl rfl dX3_effortOf_13) rfl rfl rfl (fun H locs M => ?_)
  refine lv_istore_n (lv' := [(3, .int r4), (0, .ref (G.1 1)), (1, .int a1), (2, .int a2)]) hx hb dX3_effortOf_16 rfl hl (by decide) rfl (fun ls hl => ?_)
  refine lv_iload_n hx hb dX3_effortOf_17 rfl (lv_at hl 0 rfl) ?_
  refine lv_iconst (v := (-1)) hx hb dX3_effortOf_18 (by decide) ?_
  refine lv_icmp_ne (tgt := 26) hx hb dX3_effortOf_19 (by decide) (fun c6 => ?_) (fun c6 => ?_)
  · have hf := it_n c6 hf
    refine lv_iload_n hx hb dX3_effortOf_26 rfl (lv_at hl 0 rfl) ?_
    refine lv_aload_n hx hb dX3_effortOf_27 rfl (lv_at hl 1 rfl) ?_
    refine gf_X3_1 (i := 1) S M (by decide) rfl tw_1_135 dX3_effortOf_28 ?_
    refine lv_iload_n hx hb dX3_effortOf_31 rfl (lv_at hl 2 rfl) ?_
    obtain ⟨r8, h7, hf⟩ := bd_x hf
    refine g_callR (st1 := [.int r8, .int r4]) (cells' := 0) (slots' := 0) M (g_invV (index := 62) S M C0 hl (c_X8_weightAt l G H.size lo dd σ5 a1  h7) k_X8_weightAt tw_3_6 tw_3_7 tw_3_5 (by decide) (ge_3 rfl) rfl rfl rfl rfl rfl rfl dX3_effortOf_32) rfl rfl rfl (fun H locs M => ?_)
    refine lv_imul hx hb dX3_effortOf_35 ?_
    cases hf
    exact g_iret S M hr hlk (by decide) (by decide) dX3_effortOf_36 rfl
  · have hf := it_p c6 hf
    refine lv_iconst (v := (-1)) hx hb dX3_effortOf_22 (by decide) ?_
    refine lv_goto (tgt := 36) hx hb dX3_effortOf_23 (by decide) ?_
    cases hf
    exact g_iret S M hr hlk (by decide) (by decide) dX3_effortOf_36 rfl
theorem k_X12_effortTo : gMV yX12_effortTo cX12_effortTo 3 (some .int) 2 := ⟨tw_4_89, tw_1_1, by decide⟩
set_option maxHeartbeats 400000 in
set_option maxRecDepth 100000 in
theorem c_X12_effortTo (l : Launch) (hfl : l.stackTraces = false) (G : gT) (sz : Nat) (lo : Int64) (dd : UInt64) (σ : gM) (a1 : Int32) (a2 : Int32) {o : (Int32 × gM) ⊕ (Nat × gM)} (hf : f_X12_effortTo σ a1 a2 = some o) : gCT l yX12_effortTo cX12_effortTo 3 (some .int) { frames := 9, cells := 3, slots := 18, locals := 143 } 3 18 G sz [.ref (G.1 0), .int a1, .int a2] lo dd σ (got2 mkI o lo dd) := by
  refine gCT_of (by decide) (Nat.le_of_ble_eq_true rfl) (fun p e s m args below meth c ls S hr hlk hnx hsz C0 hl H locs M => ?_)
  subst hsz
  have hx := S.1
  have hb := S.2.1
  unfold f_X12_effortTo at hf
  refine lv_iload_n hx hb dX12_effortTo_0 rfl (lv_at hl 1 rfl) ?_
  refine lv_iconst (v := 3) hx hb dX12_effortTo_1 (by decide) ?_
  rcases bt_x hf with ⟨u, h1, hf⟩ | ⟨n2, h1, hf⟩
  · refine g_callR (st1 := []) (cells' := 1) (slots' := 6) M (g_invS (index := 121) S M C0 hl (c_X12_requireIndex l hfl G H.size lo dd σ a1 3  h1) k_X12_requireIndex tw_3_142 tw_3_141 rfl rfl rfl rfl dX12_effortTo_2) rfl rfl rfl (fun H locs M => ?_)
    refine lv_iload_n hx hb dX12_effortTo_5 rfl (lv_at hl 2 rfl) ?_
    refine lv_bipush (v := 6) hx hb dX12_effortTo_6 (by decide) ?_
    rcases bt_x hf with ⟨u, h3, hf⟩ | ⟨n4, h3, hf⟩
    · refine g_callR (st1 := []) (cells' := 2) (slots' := 12) M (g_invS (index := 121) S M C0 hl (c_X12_requireIndex l hfl G H.size lo dd σ a2 6  h3) k_X12_requireIndex tw_3_142 tw_3_141 rfl rfl rfl rfl dX12_effortTo_8) rfl rfl rfl (fun H locs M => ?_)
      refine lv_aload_n hx hb dX12_effortTo_11 rfl (lv_at hl 0 rfl) ?_
      refine gf_X12_0 (i := 0) S M (by decide) rfl tw_2_7 dX12_effortTo_12 ?_
      refine lv_iload_n hx hb dX12_effortTo_15 rfl (lv_at hl 1 rfl) ?_
      refine lv_iload_n hx hb dX12_effortTo_16 rfl (lv_at hl 2 rfl) ?_
      obtain ⟨r6, σ7, h5, hf⟩ := bd2_x hf
      refine g_callR (st1 := [.int r6]) (cells' := 2) (slots' := 12) M (g_invV (index := 216) S M C0 hl (c_X3_effortOf l G H.size lo dd σ a1 a2  h5) k_X3_effortOf tw_4_91 tw_4_92 tw_4_90 (by decide) (ge_1 rfl) rfl rfl rfl rfl rfl rfl dX12_effortTo_17) rfl rfl rfl (fun H locs M => ?_)
      rcases bt_x hf with ⟨r9, h8, hf⟩ | ⟨n10, h8, hf⟩
      · refine g_callR (st1 := [.int r9]) (cells' := 3) (slots' := 18) M (g_invS (index := 109) S M C0 hl (c_X12_present l hfl G H.size lo dd σ7 r6  h8) k_X12_present tw_3_147 tw_3_146 rfl rfl rfl rfl dX12_effortTo_20) rfl rfl rfl (fun H locs M => ?_)
        cases hf
        exact g_iret S M hr hlk (by decide) (by decide) dX12_effortTo_23 rfl
      · cases hf
        refine g_runX (cells' := 3) (slots' := 18) M (g_invS (index := 109) S M C0 hl (c_X12_present l hfl G H.size lo dd σ7 r6  h8) k_X12_present tw_3_147 tw_3_146 rfl rfl rfl rfl dX12_effortTo_20) rfl rfl (fun ce q H locs M hq hv hcl => ?_)
        exact g_out M hnx hlk hq hv hcl (by decide) (by decide) rfl
    · cases hf
      refine g_runX (cells' := 2) (slots' := 12) M (g_invS (index := 121) S M C0 hl (c_X12_requireIndex l hfl G H.size lo dd σ a2 6  h3) k_X12_requireIndex tw_3_142 tw_3_141 rfl rfl rfl rfl dX12_effortTo_8) rfl rfl (fun ce q H locs M hq hv hcl => ?_)
      exact g_out M hnx hlk hq hv hcl (by decide) (by decide) rfl
  · cases hf
    refine g_runX (cells' := 1) (slots' := 6) M (g_invS (index := 121) S M C0 hl (c_X12_requireIndex l hfl G H.size lo dd σ a1 3  h1) k_X12_requireIndex tw_3_142 tw_3_141 rfl rfl rfl rfl dX12_effortTo_2) rfl rfl (fun ce q H locs M hq hv hcl => ?_)
    exact g_out M hnx hlk hq hv hcl (by decide) (by decide) rfl
theorem k_X11_effortOfAll : gMV yX11_effortOfAll cX11_effortOfAll 1 (some .int) 0 := ⟨tw_4_101, tw_1_6, by decide⟩
set_option maxHeartbeats 400000 in
set_option maxRecDepth 100000 in
theorem c_X11_effortOfAll (l : Launch) (G : gT) (sz : Nat) (lo : Int64) (dd : UInt64) (σ : gM) {o : Int32} (hf : f_X11_effortOfAll σ = some o) : gCT l yX11_effortOfAll cX11_effortOfAll 1 (some .int) { frames := 0, cells := 0, slots := 0, locals := 0 } 0 0 G sz [.ref (G.1 16)] lo dd σ (.inl (mkI o, σ, lo, dd)) := by
  refine gCT_of (by decide) (Nat.le_of_ble_eq_true rfl) (fun p e s m args below meth c ls S hr hlk hnx hsz C0 hl H locs M => ?_)
  subst hsz
  have hx := S.1
  have hb := S.2.1
  unfold f_X11_effortOfAll at hf
  refine lv_aload_n hx hb dX11_effortOfAll_0 rfl (lv_at hl 0 rfl) ?_
  refine gf_X11_2 (i := 16) S M (by decide) rfl tw_1_125 dX11_effortOfAll_1 ?_
  cases hf
  exact g_iret S M hr hlk (by decide) (by decide) dX11_effortOfAll_4 rfl
theorem k_X12_effortSoFar : gMV yX12_effortSoFar cX12_effortSoFar 1 (some .int) 0 := ⟨tw_4_97, tw_1_1, by decide⟩
set_option maxHeartbeats 400000 in
set_option maxRecDepth 100000 in
theorem c_X12_effortSoFar (l : Launch) (G : gT) (sz : Nat) (lo : Int64) (dd : UInt64) (σ : gM) {o : Int32} (hf : f_X12_effortSoFar σ = some o) : gCT l yX12_effortSoFar cX12_effortSoFar 1 (some .int) { frames := 1, cells := 0, slots := 0, locals := 20 } 0 0 G sz [.ref (G.1 0)] lo dd σ (.inl (mkI o, σ, lo, dd)) := by
  refine gCT_of (by decide) (Nat.le_of_ble_eq_true rfl) (fun p e s m args below meth c ls S hr hlk hnx hsz C0 hl H locs M => ?_)
  subst hsz
  have hx := S.1
  have hb := S.2.1
  unfold f_X12_effortSoFar at hf
  refine lv_aload_n hx hb dX12_effortSoFar_0 rfl (lv_at hl 0 rfl) ?_
  refine gf_X12_0 (i := 0) S M (by decide) rfl tw_2_7 dX12_effortSoFar_1 ?_
  refine gf_X3_3 (i := 1) S M (by decide) rfl tw_1_144 dX12_effortSoFar_4 ?_
  obtain ⟨r2, h1, hf⟩ := bd_x hf
  refine g_callR (st1 := [.int r2]) (cells' := 0) (slots' := 0) M (g_invV (index := 219) S M C0 hl (c_X11_effortOfAll l G H.size lo dd σ   h1) k_X11_effortOfAll tw_4_99 tw_4_100 tw_4_98 (by decide) (ge_5 rfl) rfl rfl rfl rfl rfl rfl dX12_effortSoFar_7) rfl rfl rfl (fun H locs M => ?_)
  cases hf
  exact g_iret S M hr hlk (by decide) (by decide) dX12_effortSoFar_10 rfl
theorem k_X6_goneCount : gMV yX6_goneCount cX6_goneCount 1 (some .int) 0 := ⟨tw_4_109, tw_1_5, by decide⟩
set_option maxHeartbeats 400000 in
set_option maxRecDepth 100000 in
theorem c_X6_goneCount (l : Launch) (G : gT) (sz : Nat) (lo : Int64) (dd : UInt64) (σ : gM) {o : Int32} (hf : f_X6_goneCount σ = some o) : gCT l yX6_goneCount cX6_goneCount 1 (some .int) { frames := 0, cells := 0, slots := 0, locals := 0 } 0 0 G sz [.ref (G.1 13)] lo dd σ (.inl (mkI o, σ, lo, dd)) := by
  refine gCT_of (by decide) (Nat.le_of_ble_eq_true rfl) (fun p e s m args below meth c ls S hr hlk hnx hsz C0 hl H locs M => ?_)
  subst hsz
  have hx := S.1
  have hb := S.2.1
  unfold f_X6_goneCount at hf
  refine lv_aload_n hx hb dX6_goneCount_0 rfl (lv_at hl 0 rfl) ?_
  refine gf_X6_3 (i := 13) S M (by decide) rfl tw_1_107 dX6_goneCount_1 ?_
  cases hf
  exact g_iret S M hr hlk (by decide) (by decide) dX6_goneCount_4 rfl
theorem k_X12_glovesUsedUp : gMV yX12_glovesUsedUp cX12_glovesUsedUp 1 (some .int) 0 := ⟨tw_4_105, tw_1_1, by decide⟩
set_option maxHeartbeats 400000 in
set_option maxRecDepth 100000 in
theorem c_X12_glovesUsedUp (l : Launch) (G : gT) (sz : Nat) (lo : Int64) (dd : UInt64) (σ : gM) {o : Int32} (hf : f_X12_glovesUsedUp σ = some o) : gCT l yX12_glovesUsedUp cX12_glovesUsedUp 1 (some .int) { frames := 1, cells := 0, slots := 0, locals := 20 } 0 0 G sz [.ref (G.1 0)] lo dd σ (.inl (mkI o, σ, lo, dd)) := by
  refine gCT_of (by decide) (Nat.le_of_ble_eq_true rfl) (fun p e s m args below meth c ls S hr hlk hnx hsz C0 hl H locs M => ?_)
  subst hsz
  have hx := S.1
  have hb := S.2.1
  unfold f_X12_glovesUsedUp at hf
  refine lv_aload_n hx hb dX12_glovesUsedUp_0 rfl (lv_at hl 0 rfl) ?_
  refine gf_X12_0 (i := 0) S M (by decide) rfl tw_2_7 dX12_glovesUsedUp_1 ?_
  refine gf_X3_2 (i := 1) S M (by decide) rfl tw_1_141 dX12_glovesUsedUp_4 ?_
  obtain ⟨r2, h1, hf⟩ := bd_x hf
  refine g_callR (st1 := [.int r2]) (cells' := 0) (slots' := 0) M (g_invV (index := 222) S M C0 hl (c_X6_goneCount l G H.size lo dd σ   h1) k_X6_goneCount tw_4_107 tw_4_108 tw_4_106 (by decide) (ge_4 rfl) rfl rfl rfl rfl rfl rfl dX12_glovesUsedUp_7) rfl rfl rfl (fun H locs M => ?_)
  cases hf
  exact g_iret S M hr hlk (by decide) (by decide) dX12_glovesUsedUp_10 rfl
theorem k_X8_comesBefore : gMV yX8_comesBefore cX8_comesBefore 3 (some .boolean) 2 := ⟨tw_4_125, tw_1_4, by decide⟩
set_option maxHeartbeats 400000 in
set_option maxRecDepth 100000 in
theorem c_X8_comesBefore (l : Launch) (G : gT) (sz : Nat) (lo : Int64) (dd : UInt64) (σ : gM) (a1 : Int32) (a2 : Int32) {o : Int32} (hf : f_X8_comesBefore σ a1 a2 = some o) : gCT l yX8_comesBefore cX8_comesBefore 3 (some .boolean) { frames := 0, cells := 0, slots := 0, locals := 0 } 0 0 G sz [.ref (G.1 7), .int a1, .int a2] lo dd σ (.inl (mkI o, σ, lo, dd)) := by
  refine gCT_of (by decide) (Nat.le_of_ble_eq_true rfl) (fun p e s m args below meth c ls S hr hlk hnx hsz C0 hl H locs M => ?_)
  subst hsz
  have hx := S.1
  have hb := S.2.1
  unfold f_X8_comesBefore at hf
  refine lv_aload_n hx hb dX8_comesBefore_0 rfl (lv_at hl 0 rfl) ?_
  refine gf_X8_0 (i := 7) S M (by decide) rfl tw_1_79 dX8_comesBefore_1 ?_
  refine lv_iload_n hx hb dX8_comesBefore_4 rfl (lv_at hl 1 rfl) ?_
  obtain ⟨h1, hf⟩ := gi_x hf
  refine gk_iald (i := 8) (k := a1.toNatClampNeg) S M (by decide) (gaa_12 rfl) h1 rfl dX8_comesBefore_5 ?_
  refine lv_aload_n hx hb dX8_comesBefore_6 rfl (lv_at hl 0 rfl) ?_
  refine gf_X8_0 (i := 7) S M (by decide) rfl tw_1_79 dX8_comesBefore_7 ?_
  refine lv_iload_n hx hb dX8_comesBefore_10 rfl (lv_at hl 2 rfl) ?_
  obtain ⟨h2, hf⟩ := gi_x hf
  refine gk_iald (i := 8) (k := a2.toNatClampNeg) S M (by decide) (gaa_12 rfl) h2 rfl dX8_comesBefore_11 ?_
  refine lv_icmp_eq (tgt := 36) hx hb dX8_comesBefore_12 (by decide) (fun c3 => ?_) (fun c3 => ?_)
  · have hf := it_p c3 hf
    refine lv_aload_n hx hb dX8_comesBefore_36 rfl (lv_at hl 0 rfl) ?_
    refine gf_X8_1 (i := 7) S M (by decide) rfl tw_1_80 dX8_comesBefore_37 ?_
    refine lv_iload_n hx hb dX8_comesBefore_40 rfl (lv_at hl 1 rfl) ?_
    obtain ⟨h4, hf⟩ := gi_x hf
    refine gk_iald (i := 9) (k := a1.toNatClampNeg) S M (by decide) (gaa_12 rfl) h4 rfl dX8_comesBefore_41 ?_
    refine lv_aload_n hx hb dX8_comesBefore_42 rfl (lv_at hl 0 rfl) ?_
    refine gf_X8_1 (i := 7) S M (by decide) rfl tw_1_80 dX8_comesBefore_43 ?_
    refine lv_iload_n hx hb dX8_comesBefore_46 rfl (lv_at hl 2 rfl) ?_
    obtain ⟨h5, hf⟩ := gi_x hf
    refine gk_iald (i := 9) (k := a2.toNatClampNeg) S M (by decide) (gaa_12 rfl) h5 rfl dX8_comesBefore_47 ?_
    refine lv_icmp_eq (tgt := 72) hx hb dX8_comesBefore_48 (by decide) (fun c6 => ?_) (fun c6 => ?_)
    · have hf := it_p c6 hf
      refine lv_iload_n hx hb dX8_comesBefore_72 rfl (lv_at hl 1 rfl) ?_
      refine lv_iload_n hx hb dX8_comesBefore_73 rfl (lv_at hl 2 rfl) ?_
      refine lv_icmp_ge (tgt := 81) hx hb dX8_comesBefore_74 (by decide) (fun c7 => ?_) (fun c7 => ?_)
      · have hf := it_p c7 hf
        refine lv_iconst (v := 0) hx hb dX8_comesBefore_81 (by decide) ?_
        cases hf
        exact g_zret S M hr hlk (by decide) (by decide) (by decide) dX8_comesBefore_82 rfl
      · have hf := it_n c7 hf
        refine lv_iconst (v := 1) hx hb dX8_comesBefore_77 (by decide) ?_
        refine lv_goto (tgt := 82) hx hb dX8_comesBefore_78 (by decide) ?_
        cases hf
        exact g_zret S M hr hlk (by decide) (by decide) (by decide) dX8_comesBefore_82 rfl
    · have hf := it_n c6 hf
      refine lv_aload_n hx hb dX8_comesBefore_51 rfl (lv_at hl 0 rfl) ?_
      refine gf_X8_1 (i := 7) S M (by decide) rfl tw_1_80 dX8_comesBefore_52 ?_
      refine lv_iload_n hx hb dX8_comesBefore_55 rfl (lv_at hl 1 rfl) ?_
      obtain ⟨h8, hf⟩ := gi_x hf
      refine gk_iald (i := 9) (k := a1.toNatClampNeg) S M (by decide) (gaa_12 rfl) h8 rfl dX8_comesBefore_56 ?_
      refine lv_aload_n hx hb dX8_comesBefore_57 rfl (lv_at hl 0 rfl) ?_
      refine gf_X8_1 (i := 7) S M (by decide) rfl tw_1_80 dX8_comesBefore_58 ?_
      refine lv_iload_n hx hb dX8_comesBefore_61 rfl (lv_at hl 2 rfl) ?_
      obtain ⟨h9, hf⟩ := gi_x hf
      refine gk_iald (i := 9) (k := a2.toNatClampNeg) S M (by decide) (gaa_12 rfl) h9 rfl dX8_comesBefore_62 ?_
      refine lv_icmp_le (tgt := 70) hx hb dX8_comesBefore_63 (by decide) (fun c10 => ?_) (fun c10 => ?_)
      · have hf := it_p c10 hf
        refine lv_iconst (v := 0) hx hb dX8_comesBefore_70 (by decide) ?_
        cases hf
        exact g_zret S M hr hlk (by decide) (by decide) (by decide) dX8_comesBefore_71 rfl
      · have hf := it_n c10 hf
        refine lv_iconst (v := 1) hx hb dX8_comesBefore_66 (by decide) ?_
        refine lv_goto (tgt := 71) hx hb dX8_comesBefore_67 (by decide) ?_
        cases hf
        exact g_zret S M hr hlk (by decide) (by decide) (by decide) dX8_comesBefore_71 rfl
  · have hf := it_n c3 hf
    refine lv_aload_n hx hb dX8_comesBefore_15 rfl (lv_at hl 0 rfl) ?_
    refine gf_X8_0 (i := 7) S M (by decide) rfl tw_1_79 dX8_comesBefore_16 ?_
    refine lv_iload_n hx hb dX8_comesBefore_19 rfl (lv_at hl 1 rfl) ?_
    obtain ⟨h11, hf⟩ := gi_x hf
    refine gk_iald (i := 8) (k := a1.toNatClampNeg) S M (by decide) (gaa_12 rfl) h11 rfl dX8_comesBefore_20 ?_
    refine lv_aload_n hx hb dX8_comesBefore_21 rfl (lv_at hl 0 rfl) ?_
    refine gf_X8_0 (i := 7) S M (by decide) rfl tw_1_79 dX8_comesBefore_22 ?_
    refine lv_iload_n hx hb dX8_comesBefore_25 rfl (lv_at hl 2 rfl) ?_
    obtain ⟨h12, hf⟩ := gi_x hf
    refine gk_iald (i := 8) (k := a2.toNatClampNeg) S M (by decide) (gaa_12 rfl) h12 rfl dX8_comesBefore_26 ?_
    refine lv_icmp_le (tgt := 34) hx hb dX8_comesBefore_27 (by decide) (fun c13 => ?_) (fun c13 => ?_)
    · have hf := it_p c13 hf
      refine lv_iconst (v := 0) hx hb dX8_comesBefore_34 (by decide) ?_
      cases hf
      exact g_zret S M hr hlk (by decide) (by decide) (by decide) dX8_comesBefore_35 rfl
    · have hf := it_n c13 hf
      refine lv_iconst (v := 1) hx hb dX8_comesBefore_30 (by decide) ?_
      refine lv_goto (tgt := 35) hx hb dX8_comesBefore_31 (by decide) ?_
      cases hf
      exact g_zret S M hr hlk (by decide) (by decide) (by decide) dX8_comesBefore_35 rfl
theorem k_X8_rankOf : gMV yX8_rankOf cX8_rankOf 4 (some .int) 1 := ⟨tw_4_121, tw_1_4, by decide⟩
set_option maxHeartbeats 400000 in
set_option maxRecDepth 100000 in
theorem w_X8_rankOf_L4 {p : Program} {l : Launch} {e : Env} {s : State} {m : MethodId} {args : Array Value} {below : List Frame} {meth : Method} {c : Code} {Q : State → Prop} {G : gT} {lo : Int64} {dd : UInt64} (S : CallFix p m c cX8_rankOf 4 s args gTs RX8) (C0 : gCST G (gAA G s.heap.size) s) (p1 : Int32) (σ : gM) : ∀ (n : Nat) (v2 : Int32) (v3 : Int32) (res : Int32), f_X8_rankOf_L4 p1 σ n v2 v3 = some res → ∀ (H : Heap) (locs : List Loc) (ls : Array Slot), gMS G (gAA G s.heap.size) lo dd σ s H locs → lv_has ls 4 [(0, .ref (G.1 7)), (1, .int p1), (2, .int v2), (3, .int v3)] → (k41 : ∀ (u2 : Int32), res = u2 → ∀ (H : Heap) (locs : List Loc) (ls : Array Slot), gMS G (gAA G s.heap.size) lo dd σ s H locs → lv_has ls 4 [(2, .int u2)] → W p l e ({ frames := 1, cells := 0, slots := 0, locals := 22 } : Room) s m args below meth c H locs 0 0 Q (F0 m 41 ls [])) → W p l e ({ frames := 1, cells := 0, slots := 0, locals := 22 } : Room) s m args below meth c H locs 0 0 Q (F0 m 4 ls []) := by
  have hx := S.1
  have hb := S.2.1
  intro n
  induction n with
  | zero =>
    intro v2 v3 res hf
    cases hf
  | succ n ih =>
    intro v2 v3 res hf H locs ls M hl k41
    rw [f_X8_rankOf_L4] at hf
    refine lv_iload_n hx hb dX8_rankOf_4 rfl (lv_at hl 3 rfl) ?_
    refine lv_aload_n hx hb dX8_rankOf_5 rfl (lv_at hl 0 rfl) ?_
    refine gf_X8_5 (i := 7) S M (by decide) rfl tw_1_84 dX8_rankOf_6 ?_
    refine lv_icmp_ge (tgt := 41) hx hb dX8_rankOf_9 (by decide) (fun c1 => ?_) (fun c1 => ?_)
    · have hf := it_p c1 hf
      cases hf
      exact k41 _ rfl _ _ _ M (lv_sub hl [2] rfl)
    · have hf := it_n c1 hf
      refine lv_aload_n hx hb dX8_rankOf_12 rfl (lv_at hl 0 rfl) ?_
      refine gf_X8_3 (i := 7) S M (by decide) rfl tw_1_82 dX8_rankOf_13 ?_
      refine lv_iload_n hx hb dX8_rankOf_16 rfl (lv_at hl 3 rfl) ?_
      obtain ⟨h2, hf⟩ := gi_x hf
      refine gk_iald (i := 11) (k := v3.toNatClampNeg) S M (by decide) (gaa_12 rfl) h2 rfl dX8_rankOf_17 ?_
      refine lv_bipush (v := (-2)) hx hb dX8_rankOf_18 (by decide) ?_
      refine lv_icmp_eq (tgt := 35) hx hb dX8_rankOf_20 (by decide) (fun c3 => ?_) (fun c3 => ?_)
      · have hf := it_p c3 hf
        obtain ⟨x4, ex4, hf⟩ := nm_x hf
        refine lv_iinc (v := x4) (lv' := [(3, .int x4), (0, .ref (G.1 7)), (1, .int p1), (2, .int v2)]) hx hb dX8_rankOf_35 hl (k := 3) rfl (by rw [ex4]; rfl) (by decide) rfl (fun ls hl => ?_)
        refine lv_goto (tgt := 4) hx hb dX8_rankOf_38 (by decide) ?_
        exact ih _ _ _ hf _ _ _ M (lv_sub hl [1, 2, 3, 0] rfl) k41
      · have hf := it_n c3 hf
        refine lv_aload_n hx hb dX8_rankOf_23 rfl (lv_at hl 0 rfl) ?_
        refine lv_iload_n hx hb dX8_rankOf_24 rfl (lv_at hl 3 rfl) ?_
        refine lv_iload_n hx hb dX8_rankOf_25 rfl (lv_at hl 1 rfl) ?_
        obtain ⟨r6, h5, hf⟩ := bd_x hf
        refine g_callR (st1 := [.int r6]) (cells' := 0) (slots' := 0) M (g_invV (index := 41) S M C0 hl (c_X8_comesBefore l G H.size lo dd σ v3 p1  h5) k_X8_comesBefore tw_4_124 tw_0_12 tw_4_122 (by decide) (ge_3 rfl) rfl rfl rfl rfl rfl rfl dX8_rankOf_26) rfl rfl rfl (fun H locs M => ?_)
        refine lv_if_eq (tgt := 35) hx hb dX8_rankOf_29 (by decide) (fun c7 => ?_) (fun c7 => ?_)
        · have hf := it_p c7 hf
          obtain ⟨x8, ex8, hf⟩ := nm_x hf
          refine lv_iinc (v := x8) (lv' := [(3, .int x8), (0, .ref (G.1 7)), (1, .int p1), (2, .int v2)]) hx hb dX8_rankOf_35 hl (k := 3) rfl (by rw [ex8]; rfl) (by decide) rfl (fun ls hl => ?_)
          refine lv_goto (tgt := 4) hx hb dX8_rankOf_38 (by decide) ?_
          exact ih _ _ _ hf _ _ _ M (lv_sub hl [1, 2, 3, 0] rfl) k41
        · have hf := it_n c7 hf
          obtain ⟨x9, ex9, hf⟩ := nm_x hf
          refine lv_iinc (v := x9) (lv' := [(2, .int x9), (0, .ref (G.1 7)), (1, .int p1), (3, .int v3)]) hx hb dX8_rankOf_32 hl (k := 2) rfl (by rw [ex9]; rfl) (by decide) rfl (fun ls hl => ?_)
          obtain ⟨x10, ex10, hf⟩ := nm_x hf
          refine lv_iinc (v := x10) (lv' := [(3, .int x10), (2, .int x9), (0, .ref (G.1 7)), (1, .int p1)]) hx hb dX8_rankOf_35 hl (k := 3) rfl (by rw [ex10]; rfl) (by decide) rfl (fun ls hl => ?_)
          refine lv_goto (tgt := 4) hx hb dX8_rankOf_38 (by decide) ?_
          exact ih _ _ _ hf _ _ _ M (lv_sub hl [2, 3, 1, 0] rfl) k41
set_option maxHeartbeats 400000 in
set_option maxRecDepth 100000 in
theorem c_X8_rankOf (l : Launch) (G : gT) (sz : Nat) (lo : Int64) (dd : UInt64) (σ : gM) (a1 : Int32) {o : Int32} (hf : f_X8_rankOf σ a1 = some o) : gCT l yX8_rankOf cX8_rankOf 4 (some .int) { frames := 1, cells := 0, slots := 0, locals := 22 } 0 0 G sz [.ref (G.1 7), .int a1] lo dd σ (.inl (mkI o, σ, lo, dd)) := by
  refine gCT_of (by decide) (Nat.le_of_ble_eq_true rfl) (fun p e s m args below meth c ls S hr hlk hnx hsz C0 hl H locs M => ?_)
  subst hsz
  have hx := S.1
  have hb := S.2.1
  unfold f_X8_rankOf at hf
  refine lv_iconst (v := 0) hx hb dX8_rankOf_0 (by decide) ?_
  refine lv_istore_n (lv' := [(2, .int 0), (0, .ref (G.1 7)), (1, .int a1)]) hx hb dX8_rankOf_1 rfl hl (by decide) rfl (fun ls hl => ?_)
  refine lv_iconst (v := 0) hx hb dX8_rankOf_2 (by decide) ?_
  refine lv_istore_n (lv' := [(3, .int 0), (2, .int 0), (0, .ref (G.1 7)), (1, .int a1)]) hx hb dX8_rankOf_3 rfl hl (by decide) rfl (fun ls hl => ?_)
  obtain ⟨y12, h11, hf⟩ := bd_x hf
  refine w_X8_rankOf_L4 S C0 a1 σ gFU 0 0 _ h11 _ _ _ M (lv_sub hl [2, 3, 1, 0] rfl) (fun _ eq H locs ls M hl => ?_)
  cases eq
  refine lv_iload_n hx hb dX8_rankOf_41 rfl (lv_at hl 0 rfl) ?_
  cases hf
  exact g_iret S M hr hlk (by decide) (by decide) dX8_rankOf_42 rfl
theorem k_X8_atRank : gMV yX8_atRank cX8_atRank 3 (some .int) 1 := ⟨tw_4_117, tw_1_4, by decide⟩
set_option maxHeartbeats 400000 in
set_option maxRecDepth 100000 in
theorem w_X8_atRank_L2 {p : Program} {l : Launch} {e : Env} {s : State} {m : MethodId} {args : Array Value} {below : List Frame} {meth : Method} {c : Code} {Q : State → Prop} {G : gT} {lo : Int64} {dd : UInt64} (S : CallFix p m c cX8_atRank 3 s args gTs RX8) (C0 : gCST G (gAA G s.heap.size) s) (p1 : Int32) (σ : gM) : ∀ (n : Nat) (v2 : Int32) (res : (Int32) ⊕ (Unit)), f_X8_atRank_L2 p1 σ n v2 = some res → ∀ (H : Heap) (locs : List Loc) (ls : Array Slot), gMS G (gAA G s.heap.size) lo dd σ s H locs → lv_has ls 3 [(0, .ref (G.1 7)), (1, .int p1), (2, .int v2)] → (k30 : ∀ (u2 : Int32), res = .inl u2 → ∀ (H : Heap) (locs : List Loc) (ls : Array Slot), gMS G (gAA G s.heap.size) lo dd σ s H locs → lv_has ls 3 [(2, .int u2)] → W p l e ({ frames := 2, cells := 0, slots := 0, locals := 45 } : Room) s m args below meth c H locs 0 0 Q (F0 m 30 ls [])) → (k38 : res = .inr (()) → ∀ (H : Heap) (locs : List Loc) (ls : Array Slot), gMS G (gAA G s.heap.size) lo dd σ s H locs → lv_has ls 3 [] → W p l e ({ frames := 2, cells := 0, slots := 0, locals := 45 } : Room) s m args below meth c H locs 0 0 Q (F0 m 38 ls [])) → W p l e ({ frames := 2, cells := 0, slots := 0, locals := 45 } : Room) s m args below meth c H locs 0 0 Q (F0 m 2 ls []) := by
  have hx := S.1
  have hb := S.2.1
  intro n
  induction n with
  | zero =>
    intro v2 res hf
    cases hf
  | succ n ih =>
    intro v2 res hf H locs ls M hl k30 k38
    rw [f_X8_atRank_L2] at hf
    refine lv_iload_n hx hb dX8_atRank_2 rfl (lv_at hl 2 rfl) ?_
    refine lv_aload_n hx hb dX8_atRank_3 rfl (lv_at hl 0 rfl) ?_
    refine gf_X8_5 (i := 7) S M (by decide) rfl tw_1_84 dX8_atRank_4 ?_
    refine lv_icmp_ge (tgt := 38) hx hb dX8_atRank_7 (by decide) (fun c1 => ?_) (fun c1 => ?_)
    · have hf := it_p c1 hf
      cases hf
      exact k38 rfl _ _ _ M (lv_sub hl [] rfl)
    · have hf := it_n c1 hf
      refine lv_aload_n hx hb dX8_atRank_10 rfl (lv_at hl 0 rfl) ?_
      refine gf_X8_3 (i := 7) S M (by decide) rfl tw_1_82 dX8_atRank_11 ?_
      refine lv_iload_n hx hb dX8_atRank_14 rfl (lv_at hl 2 rfl) ?_
      obtain ⟨h2, hf⟩ := gi_x hf
      refine gk_iald (i := 11) (k := v2.toNatClampNeg) S M (by decide) (gaa_12 rfl) h2 rfl dX8_atRank_15 ?_
      refine lv_bipush (v := (-2)) hx hb dX8_atRank_16 (by decide) ?_
      refine lv_icmp_eq (tgt := 32) hx hb dX8_atRank_18 (by decide) (fun c3 => ?_) (fun c3 => ?_)
      · have hf := it_p c3 hf
        obtain ⟨x4, ex4, hf⟩ := nm_x hf
        refine lv_iinc (v := x4) (lv' := [(2, .int x4), (0, .ref (G.1 7)), (1, .int p1)]) hx hb dX8_atRank_32 hl (k := 2) rfl (by rw [ex4]; rfl) (by decide) rfl (fun ls hl => ?_)
        refine lv_goto (tgt := 2) hx hb dX8_atRank_35 (by decide) ?_
        exact ih _ _ hf _ _ _ M (lv_sub hl [1, 2, 0] rfl) k30 k38
      · have hf := it_n c3 hf
        refine lv_aload_n hx hb dX8_atRank_21 rfl (lv_at hl 0 rfl) ?_
        refine lv_iload_n hx hb dX8_atRank_22 rfl (lv_at hl 2 rfl) ?_
        obtain ⟨r6, h5, hf⟩ := bd_x hf
        refine g_callR (st1 := [.int r6]) (cells' := 0) (slots' := 0) M (g_invV (index := 37) S M C0 hl (c_X8_rankOf l G H.size lo dd σ v2  h5) k_X8_rankOf tw_4_120 tw_0_11 tw_4_118 (by decide) (ge_3 rfl) rfl rfl rfl rfl rfl rfl dX8_atRank_23) rfl rfl rfl (fun H locs M => ?_)
        refine lv_iload_n hx hb dX8_atRank_26 rfl (lv_at hl 1 rfl) ?_
        refine lv_icmp_ne (tgt := 32) hx hb dX8_atRank_27 (by decide) (fun c7 => ?_) (fun c7 => ?_)
        · have hf := it_n c7 hf
          obtain ⟨x8, ex8, hf⟩ := nm_x hf
          refine lv_iinc (v := x8) (lv' := [(2, .int x8), (0, .ref (G.1 7)), (1, .int p1)]) hx hb dX8_atRank_32 hl (k := 2) rfl (by rw [ex8]; rfl) (by decide) rfl (fun ls hl => ?_)
          refine lv_goto (tgt := 2) hx hb dX8_atRank_35 (by decide) ?_
          exact ih _ _ hf _ _ _ M (lv_sub hl [1, 2, 0] rfl) k30 k38
        · have hf := it_p c7 hf
          cases hf
          exact k30 _ rfl _ _ _ M (lv_sub hl [2] rfl)
set_option maxHeartbeats 400000 in
set_option maxRecDepth 100000 in
theorem c_X8_atRank (l : Launch) (G : gT) (sz : Nat) (lo : Int64) (dd : UInt64) (σ : gM) (a1 : Int32) {o : Int32} (hf : f_X8_atRank σ a1 = some o) : gCT l yX8_atRank cX8_atRank 3 (some .int) { frames := 2, cells := 0, slots := 0, locals := 45 } 0 0 G sz [.ref (G.1 7), .int a1] lo dd σ (.inl (mkI o, σ, lo, dd)) := by
  refine gCT_of (by decide) (Nat.le_of_ble_eq_true rfl) (fun p e s m args below meth c ls S hr hlk hnx hsz C0 hl H locs M => ?_)
  subst hsz
  have hx := S.1
  have hb := S.2.1
  unfold f_X8_atRank at hf
  refine lv_iconst (v := 0) hx hb dX8_atRank_0 (by decide) ?_
  refine lv_istore_n (lv' := [(2, .int 0), (0, .ref (G.1 7)), (1, .int a1)]) hx hb dX8_atRank_1 rfl hl (by decide) rfl (fun ls hl => ?_)
  rcases gs2_x hf with ⟨y10, h9, hf⟩ | ⟨u, h9, hf⟩
  · refine w_X8_atRank_L2 S C0 a1 σ gFU 0 _ h9 _ _ _ M (lv_sub hl [1, 2, 0] rfl) (fun _ eq H locs ls M hl => ?_) (fun eq => nomatch eq)
    cases eq
    refine lv_iload_n hx hb dX8_atRank_30 rfl (lv_at hl 0 rfl) ?_
    cases hf
    exact g_iret S M hr hlk (by decide) (by decide) dX8_atRank_31 rfl
  · refine w_X8_atRank_L2 S C0 a1 σ gFU 0 _ h9 _ _ _ M (lv_sub hl [1, 2, 0] rfl) (fun _ eq => nomatch eq) (fun eq H locs ls M hl => ?_)
    cases eq
    refine lv_iconst (v := (-1)) hx hb dX8_atRank_38 (by decide) ?_
    cases hf
    exact g_iret S M hr hlk (by decide) (by decide) dX8_atRank_39 rfl
theorem k_X12_heaviest : gMV yX12_heaviest cX12_heaviest 2 (some .int) 1 := ⟨tw_4_113, tw_1_1, by decide⟩
set_option maxHeartbeats 400000 in
set_option maxRecDepth 100000 in
theorem c_X12_heaviest (l : Launch) (hfl : l.stackTraces = false) (G : gT) (sz : Nat) (lo : Int64) (dd : UInt64) (σ : gM) (a1 : Int32) {o : (Int32) ⊕ (Nat)} (hf : f_X12_heaviest σ a1 = some o) : gCT l yX12_heaviest cX12_heaviest 2 (some .int) { frames := 9, cells := 1, slots := 6, locals := 143 } 1 6 G sz [.ref (G.1 0), .int a1] lo dd σ (got mkI o σ lo dd) := by
  refine gCT_of (by decide) (Nat.le_of_ble_eq_true rfl) (fun p e s m args below meth c ls S hr hlk hnx hsz C0 hl H locs M => ?_)
  subst hsz
  have hx := S.1
  have hb := S.2.1
  unfold f_X12_heaviest at hf
  refine lv_aload_n hx hb dX12_heaviest_0 rfl (lv_at hl 0 rfl) ?_
  refine gf_X12_0 (i := 0) S M (by decide) rfl tw_2_7 dX12_heaviest_1 ?_
  refine gf_X3_1 (i := 1) S M (by decide) rfl tw_1_138 dX12_heaviest_4 ?_
  refine lv_iload_n hx hb dX12_heaviest_7 rfl (lv_at hl 1 rfl) ?_
  obtain ⟨r2, h1, hf⟩ := bd_x hf
  refine g_callR (st1 := [.int r2]) (cells' := 0) (slots' := 0) M (g_invV (index := 225) S M C0 hl (c_X8_atRank l G H.size lo dd σ a1  h1) k_X8_atRank tw_4_115 tw_4_116 tw_4_114 (by decide) (ge_3 rfl) rfl rfl rfl rfl rfl rfl dX12_heaviest_8) rfl rfl rfl (fun H locs M => ?_)
  rcases bt_x hf with ⟨r4, h3, hf⟩ | ⟨n5, h3, hf⟩
  · refine g_callR (st1 := [.int r4]) (cells' := 1) (slots' := 6) M (g_invS (index := 109) S M C0 hl (c_X12_present l hfl G H.size lo dd σ r2  h3) k_X12_present tw_3_147 tw_3_146 rfl rfl rfl rfl dX12_heaviest_11) rfl rfl rfl (fun H locs M => ?_)
    cases hf
    exact g_iret S M hr hlk (by decide) (by decide) dX12_heaviest_14 rfl
  · cases hf
    refine g_runX (cells' := 1) (slots' := 6) M (g_invS (index := 109) S M C0 hl (c_X12_present l hfl G H.size lo dd σ r2  h3) k_X12_present tw_3_147 tw_3_146 rfl rfl rfl rfl dX12_heaviest_11) rfl rfl (fun ce q H locs M hq hv hcl => ?_)
    exact g_out M hnx hlk hq hv hcl (by decide) (by decide) rfl
theorem k_X8_sumOfHazards : gMV yX8_sumOfHazards cX8_sumOfHazards 3 (some .int) 0 := ⟨tw_4_149, tw_1_4, by decide⟩
set_option maxHeartbeats 400000 in
set_option maxRecDepth 100000 in
theorem w_X8_sumOfHazards_L4 {p : Program} {l : Launch} {e : Env} {s : State} {m : MethodId} {args : Array Value} {below : List Frame} {meth : Method} {c : Code} {Q : State → Prop} {G : gT} {lo : Int64} {dd : UInt64} (S : CallFix p m c cX8_sumOfHazards 3 s args gTs RX8) (C0 : gCST G (gAA G s.heap.size) s) (σ : gM) : ∀ (n : Nat) (v1 : Int32) (v2 : Int32) (res : Int32), f_X8_sumOfHazards_L4 σ n v1 v2 = some res → ∀ (H : Heap) (locs : List Loc) (ls : Array Slot), gMS G (gAA G s.heap.size) lo dd σ s H locs → lv_has ls 3 [(0, .ref (G.1 7)), (1, .int v1), (2, .int v2)] → (k27 : ∀ (u1 : Int32), res = u1 → ∀ (H : Heap) (locs : List Loc) (ls : Array Slot), gMS G (gAA G s.heap.size) lo dd σ s H locs → lv_has ls 3 [(1, .int u1)] → W p l e ({ frames := 0, cells := 0, slots := 0, locals := 0 } : Room) s m args below meth c H locs 0 0 Q (F0 m 27 ls [])) → W p l e ({ frames := 0, cells := 0, slots := 0, locals := 0 } : Room) s m args below meth c H locs 0 0 Q (F0 m 4 ls []) := by
  have hx := S.1
  have hb := S.2.1
  intro n
  induction n with
  | zero =>
    intro v1 v2 res hf
    cases hf
  | succ n ih =>
    intro v1 v2 res hf H locs ls M hl k27
    rw [f_X8_sumOfHazards_L4] at hf
    refine lv_iload_n hx hb dX8_sumOfHazards_4 rfl (lv_at hl 2 rfl) ?_
    refine lv_aload_n hx hb dX8_sumOfHazards_5 rfl (lv_at hl 0 rfl) ?_
    refine gf_X8_5 (i := 7) S M (by decide) rfl tw_1_84 dX8_sumOfHazards_6 ?_
    refine lv_icmp_ge (tgt := 27) hx hb dX8_sumOfHazards_9 (by decide) (fun c1 => ?_) (fun c1 => ?_)
    · have hf := it_p c1 hf
      cases hf
      exact k27 _ rfl _ _ _ M (lv_sub hl [1] rfl)
    · have hf := it_n c1 hf
      refine lv_iload_n hx hb dX8_sumOfHazards_12 rfl (lv_at hl 1 rfl) ?_
      refine lv_aload_n hx hb dX8_sumOfHazards_13 rfl (lv_at hl 0 rfl) ?_
      refine gf_X8_1 (i := 7) S M (by decide) rfl tw_1_80 dX8_sumOfHazards_14 ?_
      refine lv_iload_n hx hb dX8_sumOfHazards_17 rfl (lv_at hl 2 rfl) ?_
      obtain ⟨h2, hf⟩ := gi_x hf
      refine gk_iald (i := 9) (k := v2.toNatClampNeg) S M (by decide) (gaa_12 rfl) h2 rfl dX8_sumOfHazards_18 ?_
      refine lv_iadd hx hb dX8_sumOfHazards_19 ?_
      obtain ⟨x3, ex3, hf⟩ := nm_x hf
      refine g_topi ex3 ?_
      refine lv_istore_n (lv' := [(1, .int x3), (0, .ref (G.1 7)), (2, .int v2)]) hx hb dX8_sumOfHazards_20 rfl hl (by decide) rfl (fun ls hl => ?_)
      obtain ⟨x4, ex4, hf⟩ := nm_x hf
      refine lv_iinc (v := x4) (lv' := [(2, .int x4), (1, .int x3), (0, .ref (G.1 7))]) hx hb dX8_sumOfHazards_21 hl (k := 2) rfl (by rw [ex4]; rfl) (by decide) rfl (fun ls hl => ?_)
      refine lv_goto (tgt := 4) hx hb dX8_sumOfHazards_24 (by decide) ?_
      exact ih _ _ _ hf _ _ _ M (lv_sub hl [2, 1, 0] rfl) k27
set_option maxHeartbeats 400000 in
set_option maxRecDepth 100000 in
theorem c_X8_sumOfHazards (l : Launch) (G : gT) (sz : Nat) (lo : Int64) (dd : UInt64) (σ : gM) {o : Int32} (hf : f_X8_sumOfHazards σ = some o) : gCT l yX8_sumOfHazards cX8_sumOfHazards 3 (some .int) { frames := 0, cells := 0, slots := 0, locals := 0 } 0 0 G sz [.ref (G.1 7)] lo dd σ (.inl (mkI o, σ, lo, dd)) := by
  refine gCT_of (by decide) (Nat.le_of_ble_eq_true rfl) (fun p e s m args below meth c ls S hr hlk hnx hsz C0 hl H locs M => ?_)
  subst hsz
  have hx := S.1
  have hb := S.2.1
  unfold f_X8_sumOfHazards at hf
  refine lv_iconst (v := 0) hx hb dX8_sumOfHazards_0 (by decide) ?_
  refine lv_istore_n (lv' := [(1, .int 0), (0, .ref (G.1 7))]) hx hb dX8_sumOfHazards_1 rfl hl (by decide) rfl (fun ls hl => ?_)
  refine lv_iconst (v := 0) hx hb dX8_sumOfHazards_2 (by decide) ?_
  refine lv_istore_n (lv' := [(2, .int 0), (1, .int 0), (0, .ref (G.1 7))]) hx hb dX8_sumOfHazards_3 rfl hl (by decide) rfl (fun ls hl => ?_)
  obtain ⟨y6, h5, hf⟩ := bd_x hf
  refine w_X8_sumOfHazards_L4 S C0 σ gFU 0 0 _ h5 _ _ _ M (lv_sub hl [2, 1, 0] rfl) (fun _ eq H locs ls M hl => ?_)
  cases eq
  refine lv_iload_n hx hb dX8_sumOfHazards_27 rfl (lv_at hl 0 rfl) ?_
  cases hf
  exact g_iret S M hr hlk (by decide) (by decide) dX8_sumOfHazards_28 rfl
theorem k_X12_meanHazard : gMV yX12_meanHazard cX12_meanHazard 2 (some .double) 0 := ⟨tw_4_129, tw_1_1, by decide⟩
set_option maxHeartbeats 400000 in
set_option maxRecDepth 100000 in
theorem c_X12_meanHazard (l : Launch) (hfl : l.stackTraces = false) (G : gT) (sz : Nat) (lo : Int64) (dd : UInt64) (σ : gM) {o : (UInt64) ⊕ (Nat)} (hf : f_X12_meanHazard σ = some o) : gCT l yX12_meanHazard cX12_meanHazard 2 (some .double) { frames := 7, cells := 1, slots := 6, locals := 103 } 1 6 G sz [.ref (G.1 0)] lo dd σ (got mkD o σ lo dd) := by
  refine gCT_of (by decide) (Nat.le_of_ble_eq_true rfl) (fun p e s m args below meth c ls S hr hlk hnx hsz C0 hl H locs M => ?_)
  subst hsz
  have hx := S.1
  have hb := S.2.1
  unfold f_X12_meanHazard at hf
  refine lv_aload_n hx hb dX12_meanHazard_0 rfl (lv_at hl 0 rfl) ?_
  refine gf_X12_0 (i := 0) S M (by decide) rfl tw_2_7 dX12_meanHazard_1 ?_
  refine gf_X3_1 (i := 1) S M (by decide) rfl tw_1_138 dX12_meanHazard_4 ?_
  obtain ⟨r2, h1, hf⟩ := bd_x hf
  refine g_callR (st1 := [.int r2]) (cells' := 0) (slots' := 0) M (g_invV (index := 131) S M C0 hl (c_X8_size l G H.size lo dd σ   h1) k_X8_size tw_3_22 tw_3_23 tw_3_189 (by decide) (ge_3 rfl) rfl rfl rfl rfl rfl rfl dX12_meanHazard_7) rfl rfl rfl (fun H locs M => ?_)
  refine lv_istore_n (lv' := [(1, .int r2), (0, .ref (G.1 0))]) hx hb dX12_meanHazard_10 rfl hl (by decide) rfl (fun ls hl => ?_)
  refine lv_iload_n hx hb dX12_meanHazard_11 rfl (lv_at hl 0 rfl) ?_
  refine lv_if_ne (tgt := 25) hx hb dX12_meanHazard_12 (by decide) (fun c3 => ?_) (fun c3 => ?_)
  · have hf := it_n c3 hf
    refine lv_aload_n hx hb dX12_meanHazard_25 rfl (lv_at hl 1 rfl) ?_
    refine gf_X12_0 (i := 0) S M (by decide) rfl tw_2_7 dX12_meanHazard_26 ?_
    refine gf_X3_1 (i := 1) S M (by decide) rfl tw_1_138 dX12_meanHazard_29 ?_
    obtain ⟨r5, h4, hf⟩ := bd_x hf
    refine g_callR (st1 := [.int r5]) (cells' := 0) (slots' := 0) M (g_invV (index := 235) S M C0 hl (c_X8_sumOfHazards l G H.size lo dd σ   h4) k_X8_sumOfHazards tw_4_147 tw_4_148 tw_4_146 (by decide) (ge_3 rfl) rfl rfl rfl rfl rfl rfl dX12_meanHazard_32) rfl rfl rfl (fun H locs M => ?_)
    refine lv_i2d hx hb dX12_meanHazard_35 ?_
    refine lv_iload_n hx hb dX12_meanHazard_36 rfl (lv_at hl 0 rfl) ?_
    refine lv_i2d hx hb dX12_meanHazard_37 ?_
    obtain ⟨z6, hf⟩ := gnd_x hf
    refine lv_ddiv hx hb dX12_meanHazard_38 z6 ?_
    cases hf
    exact g_dret S M hr hlk (by decide) (by decide) dX12_meanHazard_39 rfl
  · have hf := it_p c3 hf
    cases hf
    exact g_throwS_5_7 S M C0 hfl hl hlk hnx dX12_meanHazard_15 dX12_meanHazard_18 dX12_meanHazard_19 dX12_meanHazard_21 dX12_meanHazard_24 rfl (by decide) (by decide) rfl
theorem k_X12_deliveredShare : gMV yX12_deliveredShare cX12_deliveredShare 2 (some .float) 0 := ⟨tw_4_153, tw_1_1, by decide⟩
set_option maxHeartbeats 400000 in
set_option maxRecDepth 100000 in
theorem c_X12_deliveredShare (l : Launch) (hfl : l.stackTraces = false) (G : gT) (sz : Nat) (lo : Int64) (dd : UInt64) (σ : gM) {o : (UInt32) ⊕ (Nat)} (hf : f_X12_deliveredShare σ = some o) : gCT l yX12_deliveredShare cX12_deliveredShare 2 (some .float) { frames := 7, cells := 1, slots := 6, locals := 103 } 1 6 G sz [.ref (G.1 0)] lo dd σ (got mkF o σ lo dd) := by
  refine gCT_of (by decide) (Nat.le_of_ble_eq_true rfl) (fun p e s m args below meth c ls S hr hlk hnx hsz C0 hl H locs M => ?_)
  subst hsz
  have hx := S.1
  have hb := S.2.1
  unfold f_X12_deliveredShare at hf
  refine lv_aload_n hx hb dX12_deliveredShare_0 rfl (lv_at hl 0 rfl) ?_
  refine gf_X12_0 (i := 0) S M (by decide) rfl tw_2_7 dX12_deliveredShare_1 ?_
  refine gf_X3_1 (i := 1) S M (by decide) rfl tw_1_138 dX12_deliveredShare_4 ?_
  obtain ⟨r2, h1, hf⟩ := bd_x hf
  refine g_callR (st1 := [.int r2]) (cells' := 0) (slots' := 0) M (g_invV (index := 131) S M C0 hl (c_X8_size l G H.size lo dd σ   h1) k_X8_size tw_3_22 tw_3_23 tw_3_189 (by decide) (ge_3 rfl) rfl rfl rfl rfl rfl rfl dX12_deliveredShare_7) rfl rfl rfl (fun H locs M => ?_)
  refine lv_istore_n (lv' := [(1, .int r2), (0, .ref (G.1 0))]) hx hb dX12_deliveredShare_10 rfl hl (by decide) rfl (fun ls hl => ?_)
  refine lv_iload_n hx hb dX12_deliveredShare_11 rfl (lv_at hl 0 rfl) ?_
  refine lv_if_ne (tgt := 25) hx hb dX12_deliveredShare_12 (by decide) (fun c3 => ?_) (fun c3 => ?_)
  · have hf := it_n c3 hf
    refine lv_aload_n hx hb dX12_deliveredShare_25 rfl (lv_at hl 1 rfl) ?_
    refine gf_X12_0 (i := 0) S M (by decide) rfl tw_2_7 dX12_deliveredShare_26 ?_
    refine gf_X3_1 (i := 1) S M (by decide) rfl tw_1_138 dX12_deliveredShare_29 ?_
    refine lv_bipush (v := (-2)) hx hb dX12_deliveredShare_32 (by decide) ?_
    obtain ⟨r5, h4, hf⟩ := bd_x hf
    refine g_callR (st1 := [.int r5]) (cells' := 0) (slots' := 0) M (g_invV (index := 161) S M C0 hl (c_X8_countAt l G H.size lo dd σ (-2)  h4) k_X8_countAt tw_3_207 tw_3_208 tw_3_206 (by decide) (ge_3 rfl) rfl rfl rfl rfl rfl rfl dX12_deliveredShare_34) rfl rfl rfl (fun H locs M => ?_)
    refine lv_i2f hx hb dX12_deliveredShare_37 ?_
    refine lv_iload_n hx hb dX12_deliveredShare_38 rfl (lv_at hl 0 rfl) ?_
    refine lv_i2f hx hb dX12_deliveredShare_39 ?_
    obtain ⟨z6, hf⟩ := gnf_x hf
    refine lv_fdiv hx hb dX12_deliveredShare_40 z6 ?_
    cases hf
    exact g_fret S M hr hlk (by decide) (by decide) dX12_deliveredShare_41 rfl
  · have hf := it_p c3 hf
    cases hf
    exact g_throwS_5_7 S M C0 hfl hl hlk hnx dX12_deliveredShare_15 dX12_deliveredShare_18 dX12_deliveredShare_19 dX12_deliveredShare_21 dX12_deliveredShare_24 rfl (by decide) (by decide) rfl
theorem k_X9_bothDistancesAgree : gMV yX9_bothDistancesAgree cX9_bothDistancesAgree 3 (some .boolean) 0 := ⟨tw_4_161, tw_1_3, by decide⟩
set_option maxHeartbeats 400000 in
set_option maxRecDepth 100000 in
theorem w_X9_bothDistancesAgree_L19 {p : Program} {l : Launch} {e : Env} {s : State} {m : MethodId} {args : Array Value} {below : List Frame} {meth : Method} {c : Code} {Q : State → Prop} {G : gT} {lo : Int64} {dd : UInt64} (S : CallFix p m c cX9_bothDistancesAgree 3 s args gTs RX9) (C0 : gCST G (gAA G s.heap.size) s) (p1 : Int32) (σ : gM) : ∀ (n : Nat) (v2 : Int32) (res : (Unit) ⊕ (Unit)), f_X9_bothDistancesAgree_L19 p1 σ n v2 = some res → ∀ (H : Heap) (locs : List Loc) (ls : Array Slot), gMS G (gAA G s.heap.size) lo dd σ s H locs → lv_has ls 3 [(0, .ref (G.1 2)), (1, .int p1), (2, .int v2)] → (k40 : res = .inl () → ∀ (H : Heap) (locs : List Loc) (ls : Array Slot), gMS G (gAA G s.heap.size) lo dd σ s H locs → lv_has ls 3 [] → W p l e ({ frames := 3, cells := 0, slots := 0, locals := 67 } : Room) s m args below meth c H locs 0 0 Q (F0 m 40 ls [])) → (k48 : res = .inr (()) → ∀ (H : Heap) (locs : List Loc) (ls : Array Slot), gMS G (gAA G s.heap.size) lo dd σ s H locs → lv_has ls 3 [(0, .ref (G.1 2)), (1, .int p1)] → W p l e ({ frames := 3, cells := 0, slots := 0, locals := 67 } : Room) s m args below meth c H locs 0 0 Q (F0 m 48 ls [])) → W p l e ({ frames := 3, cells := 0, slots := 0, locals := 67 } : Room) s m args below meth c H locs 0 0 Q (F0 m 19 ls []) := by
  have hx := S.1
  have hb := S.2.1
  intro n
  induction n with
  | zero =>
    intro v2 res hf
    cases hf
  | succ n ih =>
    intro v2 res hf H locs ls M hl k40 k48
    rw [f_X9_bothDistancesAgree_L19] at hf
    refine lv_iload_n hx hb dX9_bothDistancesAgree_19 rfl (lv_at hl 2 rfl) ?_
    refine lv_bipush (v := 6) hx hb dX9_bothDistancesAgree_20 (by decide) ?_
    refine lv_icmp_ge (tgt := 48) hx hb dX9_bothDistancesAgree_22 (by decide) (fun c6 => ?_) (fun c6 => ?_)
    · have hf := it_p c6 hf
      cases hf
      exact k48 rfl _ _ _ M (lv_sub hl [0, 1] rfl)
    · have hf := it_n c6 hf
      refine lv_aload_n hx hb dX9_bothDistancesAgree_25 rfl (lv_at hl 0 rfl) ?_
      refine gf_X9_1 (i := 2) S M (by decide) rfl tw_1_56 dX9_bothDistancesAgree_26 ?_
      refine lv_iload_n hx hb dX9_bothDistancesAgree_29 rfl (lv_at hl 2 rfl) ?_
      obtain ⟨h7, hf⟩ := gi_x hf
      refine gk_iald (i := 4) (k := v2.toNatClampNeg) S M (by decide) (gaa_6 rfl) h7 rfl dX9_bothDistancesAgree_30 ?_
      refine lv_aload_n hx hb dX9_bothDistancesAgree_31 rfl (lv_at hl 0 rfl) ?_
      refine lv_iload_n hx hb dX9_bothDistancesAgree_32 rfl (lv_at hl 1 rfl) ?_
      refine lv_iload_n hx hb dX9_bothDistancesAgree_33 rfl (lv_at hl 2 rfl) ?_
      obtain ⟨r9, h8, hf⟩ := bd_x hf
      refine g_callR (st1 := [.int r9, .int (σ 4 v2.toNatClampNeg)]) (cells' := 0) (slots' := 0) M (g_invV (index := 61) S M C0 hl (c_X9_measuredByRounds l G H.size lo dd σ p1 v2  h8) k_X9_measuredByRounds tw_3_170 tw_3_171 tw_4_163 (by decide) (ge_2 rfl) rfl rfl rfl rfl rfl rfl dX9_bothDistancesAgree_34) rfl rfl rfl (fun H locs M => ?_)
      refine lv_icmp_eq (tgt := 42) hx hb dX9_bothDistancesAgree_37 (by decide) (fun c10 => ?_) (fun c10 => ?_)
      · have hf := it_p c10 hf
        obtain ⟨x11, ex11, hf⟩ := nm_x hf
        refine lv_iinc (v := x11) (lv' := [(2, .int x11), (0, .ref (G.1 2)), (1, .int p1)]) hx hb dX9_bothDistancesAgree_42 hl (k := 2) rfl (by rw [ex11]; rfl) (by decide) rfl (fun ls hl => ?_)
        refine lv_goto (tgt := 19) hx hb dX9_bothDistancesAgree_45 (by decide) ?_
        exact ih _ _ hf _ _ _ M (lv_sub hl [1, 2, 0] rfl) k40 k48
      · have hf := it_n c10 hf
        cases hf
        exact k40 rfl _ _ _ M (lv_sub hl [] rfl)
set_option maxHeartbeats 400000 in
set_option maxRecDepth 100000 in
theorem w_X9_bothDistancesAgree_L6 {p : Program} {l : Launch} {e : Env} {s : State} {m : MethodId} {args : Array Value} {below : List Frame} {meth : Method} {c : Code} {Q : State → Prop} {G : gT} {lo : Int64} {dd : UInt64} (S : CallFix p m c cX9_bothDistancesAgree 3 s args gTs RX9) (C0 : gCST G (gAA G s.heap.size) s) : ∀ (n : Nat) (v1 : Int32) (σ : gM) (res : (gM) ⊕ (gM)), f_X9_bothDistancesAgree_L6 n v1 σ = some res → ∀ (H : Heap) (locs : List Loc) (ls : Array Slot), gMS G (gAA G s.heap.size) lo dd σ s H locs → lv_has ls 3 [(0, .ref (G.1 2)), (1, .int v1)] → (k40 : ∀ (τ : gM), res = .inl τ → ∀ (H : Heap) (locs : List Loc) (ls : Array Slot), gMS G (gAA G s.heap.size) lo dd τ s H locs → lv_has ls 3 [] → W p l e ({ frames := 3, cells := 0, slots := 0, locals := 67 } : Room) s m args below meth c H locs 0 0 Q (F0 m 40 ls [])) → (k54 : ∀ (τ : gM), res = .inr (τ) → ∀ (H : Heap) (locs : List Loc) (ls : Array Slot), gMS G (gAA G s.heap.size) lo dd τ s H locs → lv_has ls 3 [] → W p l e ({ frames := 3, cells := 0, slots := 0, locals := 67 } : Room) s m args below meth c H locs 0 0 Q (F0 m 54 ls [])) → W p l e ({ frames := 3, cells := 0, slots := 0, locals := 67 } : Room) s m args below meth c H locs 0 0 Q (F0 m 6 ls []) := by
  have hx := S.1
  have hb := S.2.1
  intro n
  induction n with
  | zero =>
    intro v1 σ res hf
    cases hf
  | succ n ih =>
    intro v1 σ res hf H locs ls M hl k40 k54
    rw [f_X9_bothDistancesAgree_L6] at hf
    refine lv_iload_n hx hb dX9_bothDistancesAgree_6 rfl (lv_at hl 1 rfl) ?_
    refine lv_bipush (v := 6) hx hb dX9_bothDistancesAgree_7 (by decide) ?_
    refine lv_icmp_ge (tgt := 54) hx hb dX9_bothDistancesAgree_9 (by decide) (fun c3 => ?_) (fun c3 => ?_)
    · have hf := it_p c3 hf
      cases hf
      exact k54 _ rfl _ _ _ M (lv_sub hl [] rfl)
    · have hf := it_n c3 hf
      refine lv_aload_n hx hb dX9_bothDistancesAgree_12 rfl (lv_at hl 0 rfl) ?_
      refine lv_iload_n hx hb dX9_bothDistancesAgree_13 rfl (lv_at hl 1 rfl) ?_
      obtain ⟨σ5, h4, hf⟩ := bd_x hf
      refine g_callR (st1 := []) (cells' := 0) (slots' := 0) M (g_invV (index := 39) S M C0 hl (c_X9_measureFrom l G H.size lo dd σ v1  h4) k_X9_measureFrom tw_3_96 tw_0_4 tw_3_94 (by decide) (ge_2 rfl) rfl rfl rfl rfl rfl rfl dX9_bothDistancesAgree_14) rfl rfl rfl (fun H locs M => ?_)
      refine lv_iconst (v := 0) hx hb dX9_bothDistancesAgree_17 (by decide) ?_
      refine lv_istore_n (lv' := [(2, .int 0), (0, .ref (G.1 2)), (1, .int v1)]) hx hb dX9_bothDistancesAgree_18 rfl hl (by decide) rfl (fun ls hl => ?_)
      rcases gs2_x hf with ⟨u, h12, hf⟩ | ⟨u, h12, hf⟩
      · refine w_X9_bothDistancesAgree_L19 S C0 v1 σ5 gFU 0 _ h12 _ _ _ M (lv_sub hl [1, 2, 0] rfl) (fun eq H locs ls M hl => ?_) (fun eq => nomatch eq)
        cases eq
        cases hf
        exact k40 _ rfl _ _ _ M (lv_sub hl [] rfl)
      · refine w_X9_bothDistancesAgree_L19 S C0 v1 σ5 gFU 0 _ h12 _ _ _ M (lv_sub hl [1, 2, 0] rfl) (fun eq => nomatch eq) (fun eq H locs ls M hl => ?_)
        cases eq
        obtain ⟨x13, ex13, hf⟩ := nm_x hf
        refine lv_iinc (v := x13) (lv' := [(1, .int x13), (0, .ref (G.1 2))]) hx hb dX9_bothDistancesAgree_48 hl (k := 1) rfl (by rw [ex13]; rfl) (by decide) rfl (fun ls hl => ?_)
        refine lv_goto (tgt := 6) hx hb dX9_bothDistancesAgree_51 (by decide) ?_
        exact ih _ _ _ hf _ _ _ M (lv_sub hl [1, 0] rfl) k40 k54
set_option maxHeartbeats 400000 in
set_option maxRecDepth 100000 in
theorem c_X9_bothDistancesAgree (l : Launch) (G : gT) (sz : Nat) (lo : Int64) (dd : UInt64) (σ : gM) {r : Int32} {o : gM} (hf : f_X9_bothDistancesAgree σ = some (r, o)) : gCT l yX9_bothDistancesAgree cX9_bothDistancesAgree 3 (some .boolean) { frames := 3, cells := 0, slots := 0, locals := 67 } 0 0 G sz [.ref (G.1 2)] lo dd σ (.inl (mkI r, o, lo, dd)) := by
  refine gCT_of (by decide) (Nat.le_of_ble_eq_true rfl) (fun p e s m args below meth c ls S hr hlk hnx hsz C0 hl H locs M => ?_)
  subst hsz
  have hx := S.1
  have hb := S.2.1
  unfold f_X9_bothDistancesAgree at hf
  refine lv_aload_n hx hb dX9_bothDistancesAgree_0 rfl (lv_at hl 0 rfl) ?_
  obtain ⟨σ2, h1, hf⟩ := bd_x hf
  refine g_callR (st1 := []) (cells' := 0) (slots' := 0) M (g_invV (index := 58) S M C0 hl (c_X9_measureByRounds l G H.size lo dd σ   h1) k_X9_measureByRounds tw_3_154 tw_3_155 tw_4_162 (by decide) (ge_2 rfl) rfl rfl rfl rfl rfl rfl dX9_bothDistancesAgree_1) rfl rfl rfl (fun H locs M => ?_)
  refine lv_iconst (v := 0) hx hb dX9_bothDistancesAgree_4 (by decide) ?_
  refine lv_istore_n (lv' := [(1, .int 0), (0, .ref (G.1 2))]) hx hb dX9_bothDistancesAgree_5 rfl hl (by decide) rfl (fun ls hl => ?_)
  rcases gs2_x hf with ⟨σ15, h14, hf⟩ | ⟨σ16, h14, hf⟩
  · refine w_X9_bothDistancesAgree_L6 S C0 gFU 0 σ2 _ h14 _ _ _ M (lv_sub hl [1, 0] rfl) (fun _ eq H locs ls M hl => ?_) (fun _ eq => nomatch eq)
    cases eq
    refine lv_iconst (v := 0) hx hb dX9_bothDistancesAgree_40 (by decide) ?_
    cases hf
    exact g_zret S M hr hlk (by decide) (by decide) (by decide) dX9_bothDistancesAgree_41 rfl
  · refine w_X9_bothDistancesAgree_L6 S C0 gFU 0 σ2 _ h14 _ _ _ M (lv_sub hl [1, 0] rfl) (fun _ eq => nomatch eq) (fun _ eq H locs ls M hl => ?_)
    cases eq
    refine lv_iconst (v := 1) hx hb dX9_bothDistancesAgree_54 (by decide) ?_
    cases hf
    exact g_zret S M hr hlk (by decide) (by decide) (by decide) dX9_bothDistancesAgree_55 rfl
theorem k_X12_handlingAgrees : gMV yX12_handlingAgrees cX12_handlingAgrees 1 (some .boolean) 0 := ⟨tw_4_167, tw_1_1, by decide⟩
set_option maxHeartbeats 400000 in
set_option maxRecDepth 100000 in
theorem c_X12_handlingAgrees (l : Launch) (G : gT) (sz : Nat) (lo : Int64) (dd : UInt64) (σ : gM) {r : Int32} {o : gM} (hf : f_X12_handlingAgrees σ = some (r, o)) : gCT l yX12_handlingAgrees cX12_handlingAgrees 1 (some .boolean) { frames := 3, cells := 0, slots := 0, locals := 80 } 0 0 G sz [.ref (G.1 0)] lo dd σ (.inl (mkI r, o, lo, dd)) := by
  refine gCT_of (by decide) (Nat.le_of_ble_eq_true rfl) (fun p e s m args below meth c ls S hr hlk hnx hsz C0 hl H locs M => ?_)
  subst hsz
  have hx := S.1
  have hb := S.2.1
  unfold f_X12_handlingAgrees at hf
  refine lv_aload_n hx hb dX12_handlingAgrees_0 rfl (lv_at hl 0 rfl) ?_
  refine gf_X12_3 (i := 0) S M (by decide) rfl tw_2_10 dX12_handlingAgrees_1 ?_
  refine lv_aload_n hx hb dX12_handlingAgrees_4 rfl (lv_at hl 0 rfl) ?_
  refine gf_X12_0 (i := 0) S M (by decide) rfl tw_2_7 dX12_handlingAgrees_5 ?_
  obtain ⟨r2, σ3, h1, hf⟩ := bd2_x hf
  refine g_callR (st1 := [.int r2]) (cells' := 0) (slots' := 0) M (g_invV (index := 187) S M C0 hl (c_X4_handledGreedily l G H.size lo dd σ   h1) k_X4_handledGreedily tw_4_14 tw_4_15 tw_4_13 (by decide) (ge_8 rfl) rfl rfl rfl rfl rfl rfl dX12_handlingAgrees_8) rfl rfl rfl (fun H locs M => ?_)
  refine lv_aload_n hx hb dX12_handlingAgrees_11 rfl (lv_at hl 0 rfl) ?_
  refine gf_X12_3 (i := 0) S M (by decide) rfl tw_2_10 dX12_handlingAgrees_12 ?_
  refine lv_aload_n hx hb dX12_handlingAgrees_15 rfl (lv_at hl 0 rfl) ?_
  refine gf_X12_0 (i := 0) S M (by decide) rfl tw_2_7 dX12_handlingAgrees_16 ?_
  obtain ⟨r5, h4, hf⟩ := bd_x hf
  refine g_callR (st1 := [.int r5, .int r2]) (cells' := 0) (slots' := 0) M (g_invV (index := 191) S M C0 hl (c_X4_handledByShortage l G H.size lo dd σ3   h4) k_X4_handledByShortage tw_4_35 tw_4_36 tw_4_34 (by decide) (ge_8 rfl) rfl rfl rfl rfl rfl rfl dX12_handlingAgrees_19) rfl rfl rfl (fun H locs M => ?_)
  refine lv_icmp_ne (tgt := 29) hx hb dX12_handlingAgrees_22 (by decide) (fun c6 => ?_) (fun c6 => ?_)
  · have hf := it_n c6 hf
    refine lv_iconst (v := 0) hx hb dX12_handlingAgrees_29 (by decide) ?_
    cases hf
    exact g_zret S M hr hlk (by decide) (by decide) (by decide) dX12_handlingAgrees_30 rfl
  · have hf := it_p c6 hf
    refine lv_iconst (v := 1) hx hb dX12_handlingAgrees_25 (by decide) ?_
    refine lv_goto (tgt := 30) hx hb dX12_handlingAgrees_26 (by decide) ?_
    cases hf
    exact g_zret S M hr hlk (by decide) (by decide) (by decide) dX12_handlingAgrees_30 rfl
theorem k_X12_sacksAgree : gMV yX12_sacksAgree cX12_sacksAgree 2 (some .boolean) 0 := ⟨tw_4_171, tw_1_1, by decide⟩
set_option maxHeartbeats 400000 in
set_option maxRecDepth 100000 in
theorem w_X12_sacksAgree_L2 {p : Program} {l : Launch} {e : Env} {s : State} {m : MethodId} {args : Array Value} {below : List Frame} {meth : Method} {c : Code} {Q : State → Prop} {G : gT} {lo : Int64} {dd : UInt64} (S : CallFix p m c cX12_sacksAgree 2 s args gTs RX12) (C0 : gCST G (gAA G s.heap.size) s) : ∀ (n : Nat) (v1 : Int32) (σ : gM) (res : (gM) ⊕ ((gM) ⊕ (gM))), f_X12_sacksAgree_L2 n v1 σ = some res → ∀ (H : Heap) (locs : List Loc) (ls : Array Slot), gMS G (gAA G s.heap.size) lo dd σ s H locs → lv_has ls 2 [(0, .ref (G.1 0)), (1, .int v1)] → (k34 : ∀ (τ : gM), res = .inl τ → ∀ (H : Heap) (locs : List Loc) (ls : Array Slot), gMS G (gAA G s.heap.size) lo dd τ s H locs → lv_has ls 2 [] → W p l e ({ frames := 3, cells := 0, slots := 0, locals := 79 } : Room) s m args below meth c H locs 0 0 Q (F0 m 34 ls [])) → (k47 : ∀ (τ : gM), res = .inr (.inl τ) → ∀ (H : Heap) (locs : List Loc) (ls : Array Slot), gMS G (gAA G s.heap.size) lo dd τ s H locs → lv_has ls 2 [] → W p l e ({ frames := 3, cells := 0, slots := 0, locals := 79 } : Room) s m args below meth c H locs 0 0 Q (F0 m 47 ls [])) → (k55 : ∀ (τ : gM), res = .inr (.inr (τ)) → ∀ (H : Heap) (locs : List Loc) (ls : Array Slot), gMS G (gAA G s.heap.size) lo dd τ s H locs → lv_has ls 2 [] → W p l e ({ frames := 3, cells := 0, slots := 0, locals := 79 } : Room) s m args below meth c H locs 0 0 Q (F0 m 55 ls [])) → W p l e ({ frames := 3, cells := 0, slots := 0, locals := 79 } : Room) s m args below meth c H locs 0 0 Q (F0 m 2 ls []) := by
  have hx := S.1
  have hb := S.2.1
  intro n
  induction n with
  | zero =>
    intro v1 σ res hf
    cases hf
  | succ n ih =>
    intro v1 σ res hf H locs ls M hl k34 k47 k55
    rw [f_X12_sacksAgree_L2] at hf
    refine lv_iload_n hx hb dX12_sacksAgree_2 rfl (lv_at hl 1 rfl) ?_
    refine lv_iconst (v := 3) hx hb dX12_sacksAgree_3 (by decide) ?_
    refine lv_icmp_ge (tgt := 55) hx hb dX12_sacksAgree_4 (by decide) (fun c1 => ?_) (fun c1 => ?_)
    · have hf := it_p c1 hf
      cases hf
      exact k55 _ rfl _ _ _ M (lv_sub hl [] rfl)
    · have hf := it_n c1 hf
      refine lv_aload_n hx hb dX12_sacksAgree_7 rfl (lv_at hl 0 rfl) ?_
      refine gf_X12_3 (i := 0) S M (by decide) rfl tw_2_10 dX12_sacksAgree_8 ?_
      refine lv_aload_n hx hb dX12_sacksAgree_11 rfl (lv_at hl 0 rfl) ?_
      refine gf_X12_0 (i := 0) S M (by decide) rfl tw_2_7 dX12_sacksAgree_12 ?_
      refine lv_iload_n hx hb dX12_sacksAgree_15 rfl (lv_at hl 1 rfl) ?_
      obtain ⟨r3, h2, hf⟩ := bd_x hf
      refine g_callR (st1 := [.int r3]) (cells' := 0) (slots' := 0) M (g_invV (index := 209) S M C0 hl (c_X4_fittingGreedily l G H.size lo dd σ v1  h2) k_X4_fittingGreedily tw_4_62 tw_4_63 tw_4_61 (by decide) (ge_8 rfl) rfl rfl rfl rfl rfl rfl dX12_sacksAgree_16) rfl rfl rfl (fun H locs M => ?_)
      refine lv_aload_n hx hb dX12_sacksAgree_19 rfl (lv_at hl 0 rfl) ?_
      refine gf_X12_3 (i := 0) S M (by decide) rfl tw_2_10 dX12_sacksAgree_20 ?_
      refine lv_aload_n hx hb dX12_sacksAgree_23 rfl (lv_at hl 0 rfl) ?_
      refine gf_X12_0 (i := 0) S M (by decide) rfl tw_2_7 dX12_sacksAgree_24 ?_
      refine lv_iload_n hx hb dX12_sacksAgree_27 rfl (lv_at hl 1 rfl) ?_
      obtain ⟨r5, σ6, h4, hf⟩ := bd2_x hf
      refine g_callR (st1 := [.int r5, .int r3]) (cells' := 0) (slots' := 0) M (g_invV (index := 213) S M C0 hl (c_X4_fittingByTable l G H.size lo dd σ v1  h4) k_X4_fittingByTable tw_4_75 tw_4_76 tw_4_74 (by decide) (ge_8 rfl) rfl rfl rfl rfl rfl rfl dX12_sacksAgree_28) rfl rfl rfl (fun H locs M => ?_)
      refine lv_icmp_eq (tgt := 36) hx hb dX12_sacksAgree_31 (by decide) (fun c7 => ?_) (fun c7 => ?_)
      · have hf := it_p c7 hf
        refine lv_aload_n hx hb dX12_sacksAgree_36 rfl (lv_at hl 0 rfl) ?_
        refine gf_X12_0 (i := 0) S M (by decide) rfl tw_2_7 dX12_sacksAgree_37 ?_
        refine lv_iload_n hx hb dX12_sacksAgree_40 rfl (lv_at hl 1 rfl) ?_
        obtain ⟨r9, h8, hf⟩ := bd_x hf
        refine g_callR (st1 := [.int r9]) (cells' := 0) (slots' := 0) M (g_invV (index := 321) S M C0 hl (c_X3_roomIn l G H.size lo dd σ6 v1  h8) k_X3_roomIn tw_3_34 tw_3_35 tw_4_172 (by decide) (ge_1 rfl) rfl rfl rfl rfl rfl rfl dX12_sacksAgree_41) rfl rfl rfl (fun H locs M => ?_)
        refine lv_if_ge (tgt := 49) hx hb dX12_sacksAgree_44 (by decide) (fun c10 => ?_) (fun c10 => ?_)
        · have hf := it_p c10 hf
          obtain ⟨x11, ex11, hf⟩ := nm_x hf
          refine lv_iinc (v := x11) (lv' := [(1, .int x11), (0, .ref (G.1 0))]) hx hb dX12_sacksAgree_49 hl (k := 1) rfl (by rw [ex11]; rfl) (by decide) rfl (fun ls hl => ?_)
          refine lv_goto (tgt := 2) hx hb dX12_sacksAgree_52 (by decide) ?_
          exact ih _ _ _ hf _ _ _ M (lv_sub hl [1, 0] rfl) k34 k47 k55
        · have hf := it_n c10 hf
          cases hf
          exact k47 _ rfl _ _ _ M (lv_sub hl [] rfl)
      · have hf := it_n c7 hf
        cases hf
        exact k34 _ rfl _ _ _ M (lv_sub hl [] rfl)
set_option maxHeartbeats 400000 in
set_option maxRecDepth 100000 in
theorem c_X12_sacksAgree (l : Launch) (G : gT) (sz : Nat) (lo : Int64) (dd : UInt64) (σ : gM) {r : Int32} {o : gM} (hf : f_X12_sacksAgree σ = some (r, o)) : gCT l yX12_sacksAgree cX12_sacksAgree 2 (some .boolean) { frames := 3, cells := 0, slots := 0, locals := 79 } 0 0 G sz [.ref (G.1 0)] lo dd σ (.inl (mkI r, o, lo, dd)) := by
  refine gCT_of (by decide) (Nat.le_of_ble_eq_true rfl) (fun p e s m args below meth c ls S hr hlk hnx hsz C0 hl H locs M => ?_)
  subst hsz
  have hx := S.1
  have hb := S.2.1
  unfold f_X12_sacksAgree at hf
  refine lv_iconst (v := 0) hx hb dX12_sacksAgree_0 (by decide) ?_
  refine lv_istore_n (lv' := [(1, .int 0), (0, .ref (G.1 0))]) hx hb dX12_sacksAgree_1 rfl hl (by decide) rfl (fun ls hl => ?_)
  rcases gs3_x hf with ⟨σ13, h12, hf⟩ | ⟨σ14, h12, hf⟩ | ⟨σ15, h12, hf⟩
  · refine w_X12_sacksAgree_L2 S C0 gFU 0 σ _ h12 _ _ _ M (lv_sub hl [1, 0] rfl) (fun _ eq H locs ls M hl => ?_) (fun _ eq => nomatch eq) (fun _ eq => nomatch eq)
    cases eq
    refine lv_iconst (v := 0) hx hb dX12_sacksAgree_34 (by decide) ?_
    cases hf
    exact g_zret S M hr hlk (by decide) (by decide) (by decide) dX12_sacksAgree_35 rfl
  · refine w_X12_sacksAgree_L2 S C0 gFU 0 σ _ h12 _ _ _ M (lv_sub hl [1, 0] rfl) (fun _ eq => nomatch eq) (fun _ eq H locs ls M hl => ?_) (fun _ eq => nomatch eq)
    cases eq
    refine lv_iconst (v := 0) hx hb dX12_sacksAgree_47 (by decide) ?_
    cases hf
    exact g_zret S M hr hlk (by decide) (by decide) (by decide) dX12_sacksAgree_48 rfl
  · refine w_X12_sacksAgree_L2 S C0 gFU 0 σ _ h12 _ _ _ M (lv_sub hl [1, 0] rfl) (fun _ eq => nomatch eq) (fun _ eq => nomatch eq) (fun _ eq H locs ls M hl => ?_)
    cases eq
    refine lv_iconst (v := 1) hx hb dX12_sacksAgree_55 (by decide) ?_
    cases hf
    exact g_zret S M hr hlk (by decide) (by decide) (by decide) dX12_sacksAgree_56 rfl
