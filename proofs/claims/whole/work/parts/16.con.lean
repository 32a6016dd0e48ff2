theorem k_X13_isAhead : gMV yX13_isAhead cX13_isAhead 5 (some .boolean) 2 := ⟨tw_7_209, tw_1_12, by decide⟩
set_option maxHeartbeats 400000 in
set_option maxRecDepth 100000 in
theorem c_X13_isAhead (l : Launch) (G : gT) (sz : Nat) (lo : Int64) (dd : UInt64) (σ : gM) (a1 : Int32) (a2 : Int32) {o : Int32} (hf : f_X13_isAhead σ a1 a2 = some o) : gCT l yX13_isAhead cX13_isAhead 5 (some .boolean) { frames := 0, cells := 0, slots := 0, locals := 0 } 0 0 G sz [.ref (G.1 219), .int a1, .int a2] lo dd σ (.inl (mkI o, σ, lo, dd)) := by
  refine gCT_of (by decide) (Nat.le_of_ble_eq_true rfl) (fun p e s m args below meth c ls S hr hlk hnx hsz C0 hl H locs M => ?_)
  subst hsz
  have hx := S.1
  have hb := S.2.1
  unfold f_X13_isAhead at hf
  refine lv_aload_n hx hb dX13_isAhead_0 rfl (lv_at hl 0 rfl) ?_
  refine gf_X13_0 (i := 219) S M (by decide) rfl tw_6_107 dX13_isAhead_1 ?_
  refine lv_bipush (v := 40) hx hb dX13_isAhead_4 (by decide) ?_
  refine lv_iload_n hx hb dX13_isAhead_6 rfl (lv_at hl 1 rfl) ?_
  refine lv_iadd hx hb dX13_isAhead_7 ?_
  obtain ⟨h1, hf⟩ := gi_x hf
  refine gk_iald (i := 220) (k := (40 + a1).toNatClampNeg) S M (by decide) (gaa_134 rfl) h1 rfl dX13_isAhead_8 ?_
  refine lv_aload_n hx hb dX13_isAhead_9 rfl (lv_at hl 0 rfl) ?_
  refine gf_X13_0 (i := 219) S M (by decide) rfl tw_6_107 dX13_isAhead_10 ?_
  refine lv_bipush (v := 40) hx hb dX13_isAhead_13 (by decide) ?_
  refine lv_iload_n hx hb dX13_isAhead_15 rfl (lv_at hl 2 rfl) ?_
  refine lv_iadd hx hb dX13_isAhead_16 ?_
  obtain ⟨h2, hf⟩ := gi_x hf
  refine gk_iald (i := 220) (k := (40 + a2).toNatClampNeg) S M (by decide) (gaa_134 rfl) h2 rfl dX13_isAhead_17 ?_
  refine lv_isub hx hb dX13_isAhead_18 ?_
  obtain ⟨x3, ex3, hf⟩ := nm_x hf
  refine g_topi ex3 ?_
  refine lv_istore_n (lv' := [(3, .int x3), (0, .ref (G.1 219)), (1, .int a1), (2, .int a2)]) hx hb dX13_isAhead_19 rfl hl (by decide) rfl (fun ls hl => ?_)
  refine lv_aload_n hx hb dX13_isAhead_20 rfl (lv_at hl 1 rfl) ?_
  refine gf_X13_0 (i := 219) S M (by decide) rfl tw_6_107 dX13_isAhead_21 ?_
  refine lv_bipush (v := 52) hx hb dX13_isAhead_24 (by decide) ?_
  refine lv_iload_n hx hb dX13_isAhead_26 rfl (lv_at hl 2 rfl) ?_
  refine lv_iadd hx hb dX13_isAhead_27 ?_
  obtain ⟨h4, hf⟩ := gi_x hf
  refine gk_iald (i := 220) (k := (52 + a1).toNatClampNeg) S M (by decide) (gaa_134 rfl) h4 rfl dX13_isAhead_28 ?_
  refine lv_aload_n hx hb dX13_isAhead_29 rfl (lv_at hl 1 rfl) ?_
  refine gf_X13_0 (i := 219) S M (by decide) rfl tw_6_107 dX13_isAhead_30 ?_
  refine lv_bipush (v := 52) hx hb dX13_isAhead_33 (by decide) ?_
  refine lv_iload_n hx hb dX13_isAhead_35 rfl (lv_at hl 3 rfl) ?_
  refine lv_iadd hx hb dX13_isAhead_36 ?_
  obtain ⟨h5, hf⟩ := gi_x hf
  refine gk_iald (i := 220) (k := (52 + a2).toNatClampNeg) S M (by decide) (gaa_134 rfl) h5 rfl dX13_isAhead_37 ?_
  refine lv_isub hx hb dX13_isAhead_38 ?_
  obtain ⟨x6, ex6, hf⟩ := nm_x hf
  refine g_topi ex6 ?_
  refine lv_istore (lv' := [(4, .int x6), (3, .int x3), (0, .ref (G.1 219)), (1, .int a1), (2, .int a2)]) hx hb dX13_isAhead_39 hl (by decide) rfl (fun ls hl => ?_)
  refine lv_iload_n hx hb dX13_isAhead_41 rfl (lv_at hl 1 rfl) ?_
  refine lv_if_gt (tgt := 64) hx hb dX13_isAhead_42 (by decide) (fun c7 => ?_) (fun c7 => ?_)
  · have hf := it_p c7 hf
    refine lv_iconst (v := 1) hx hb dX13_isAhead_64 (by decide) ?_
    refine lv_goto (tgt := 69) hx hb dX13_isAhead_65 (by decide) ?_
    cases hf
    exact g_zret S M hr hlk (by decide) (by decide) (by decide) dX13_isAhead_69 rfl
  · have hf := it_n c7 hf
    refine lv_iload_n hx hb dX13_isAhead_45 rfl (lv_at hl 1 rfl) ?_
    refine lv_if_ne (tgt := 68) hx hb dX13_isAhead_46 (by decide) (fun c8 => ?_) (fun c8 => ?_)
    · have hf := it_n c8 hf
      refine lv_iconst (v := 0) hx hb dX13_isAhead_68 (by decide) ?_
      cases hf
      exact g_zret S M hr hlk (by decide) (by decide) (by decide) dX13_isAhead_69 rfl
    · have hf := it_p c8 hf
      refine lv_iload hx hb dX13_isAhead_49 (lv_at hl 0 rfl) ?_
      refine lv_if_gt (tgt := 64) hx hb dX13_isAhead_51 (by decide) (fun c9 => ?_) (fun c9 => ?_)
      · have hf := it_p c9 hf
        refine lv_iconst (v := 1) hx hb dX13_isAhead_64 (by decide) ?_
        refine lv_goto (tgt := 69) hx hb dX13_isAhead_65 (by decide) ?_
        cases hf
        exact g_zret S M hr hlk (by decide) (by decide) (by decide) dX13_isAhead_69 rfl
      · have hf := it_n c9 hf
        refine lv_iload hx hb dX13_isAhead_54 (lv_at hl 0 rfl) ?_
        refine lv_if_ne (tgt := 68) hx hb dX13_isAhead_56 (by decide) (fun c10 => ?_) (fun c10 => ?_)
        · have hf := it_n c10 hf
          refine lv_iconst (v := 0) hx hb dX13_isAhead_68 (by decide) ?_
          cases hf
          exact g_zret S M hr hlk (by decide) (by decide) (by decide) dX13_isAhead_69 rfl
        · have hf := it_p c10 hf
          refine lv_iload_n hx hb dX13_isAhead_59 rfl (lv_at hl 3 rfl) ?_
          refine lv_iload_n hx hb dX13_isAhead_60 rfl (lv_at hl 4 rfl) ?_
          refine lv_icmp_ge (tgt := 68) hx hb dX13_isAhead_61 (by decide) (fun c11 => ?_) (fun c11 => ?_)
          · have hf := it_p c11 hf
            refine lv_iconst (v := 0) hx hb dX13_isAhead_68 (by decide) ?_
            cases hf
            exact g_zret S M hr hlk (by decide) (by decide) (by decide) dX13_isAhead_69 rfl
          · have hf := it_n c11 hf
            refine lv_iconst (v := 1) hx hb dX13_isAhead_64 (by decide) ?_
            refine lv_goto (tgt := 69) hx hb dX13_isAhead_65 (by decide) ?_
            cases hf
            exact g_zret S M hr hlk (by decide) (by decide) (by decide) dX13_isAhead_69 rfl
theorem k_X13_rank : gMV yX13_rank cX13_rank 4 (some .int) 1 := ⟨tw_7_205, tw_1_12, by decide⟩
set_option maxHeartbeats 400000 in
set_option maxRecDepth 100000 in
theorem w_X13_rank_L4 {p : Program} {l : Launch} {e : Env} {s : State} {m : MethodId} {args : Array Value} {below : List Frame} {meth : Method} {c : Code} {Q : State → Prop} {G : gT} {lo : Int64} {dd : UInt64} (S : CallFix p m c cX13_rank 4 s args gTs RX13) (C0 : gCST G (gAA G s.heap.size) s) (p1 : Int32) (σ : gM) : ∀ (n : Nat) (v2 : Int32) (v3 : Int32) (res : Int32), f_X13_rank_L4 p1 σ n v2 v3 = some res → ∀ (H : Heap) (locs : List Loc) (ls : Array Slot), gMS G (gAA G s.heap.size) lo dd σ s H locs → lv_has ls 4 [(0, .ref (G.1 219)), (1, .int p1), (2, .int v2), (3, .int v3)] → (k51 : ∀ (u2 : Int32), res = u2 → ∀ (H : Heap) (locs : List Loc) (ls : Array Slot), gMS G (gAA G s.heap.size) lo dd σ s H locs → lv_has ls 4 [(2, .int u2)] → W p l e ({ frames := 1, cells := 0, slots := 0, locals := 24 } : Room) s m args below meth c H locs 0 0 Q (F0 m 51 ls [])) → W p l e ({ frames := 1, cells := 0, slots := 0, locals := 24 } : Room) s m args below meth c H locs 0 0 Q (F0 m 4 ls []) := by
  have hx := S.1
  have hb := S.2.1
  intro n
  induction n with
  | zero =>
    intro v2 v3 res hf
    cases hf
  | succ n ih =>
    intro v2 v3 res hf H locs ls M hl k51
    rw [f_X13_rank_L4] at hf
    refine lv_iload_n hx hb dX13_rank_4 rfl (lv_at hl 3 rfl) ?_
    refine lv_aload_n hx hb dX13_rank_5 rfl (lv_at hl 0 rfl) ?_
    refine gf_X13_0 (i := 219) S M (by decide) rfl tw_6_107 dX13_rank_6 ?_
    refine lv_bipush (v := 36) hx hb dX13_rank_9 (by decide) ?_
    refine gk_iald (i := 220) (k := 36) S M (by decide) (gaa_134 rfl) (by unfold vp_in; decide) (by decide) dX13_rank_11 ?_
    refine lv_icmp_ge (tgt := 51) hx hb dX13_rank_12 (by decide) (fun c1 => ?_) (fun c1 => ?_)
    · have hf := it_p c1 hf
      cases hf
      exact k51 _ rfl _ _ _ M (lv_sub hl [2] rfl)
    · have hf := it_n c1 hf
      refine lv_iload_n hx hb dX13_rank_15 rfl (lv_at hl 2 rfl) ?_
      refine lv_aload_n hx hb dX13_rank_16 rfl (lv_at hl 0 rfl) ?_
      refine gf_X13_0 (i := 219) S M (by decide) rfl tw_6_107 dX13_rank_17 ?_
      refine lv_bipush (v := 76) hx hb dX13_rank_20 (by decide) ?_
      refine lv_iload_n hx hb dX13_rank_22 rfl (lv_at hl 3 rfl) ?_
      refine lv_iadd hx hb dX13_rank_23 ?_
      obtain ⟨h2, hf⟩ := gi_x hf
      refine gk_iald (i := 220) (k := (76 + v3).toNatClampNeg) S M (by decide) (gaa_134 rfl) h2 rfl dX13_rank_24 ?_
      refine lv_iconst (v := 2) hx hb dX13_rank_25 (by decide) ?_
      refine lv_icmp_eq (tgt := 42) hx hb dX13_rank_26 (by decide) (fun c3 => ?_) (fun c3 => ?_)
      · have hf := it_p c3 hf
        refine lv_iconst (v := 0) hx hb dX13_rank_42 (by decide) ?_
        refine lv_iadd hx hb dX13_rank_43 ?_
        obtain ⟨x4, ex4, hf⟩ := nm_x hf
        refine g_topi ex4 ?_
        refine lv_istore_n (lv' := [(2, .int x4), (0, .ref (G.1 219)), (1, .int p1), (3, .int v3)]) hx hb dX13_rank_44 rfl hl (by decide) rfl (fun ls hl => ?_)
        obtain ⟨x5, ex5, hf⟩ := nm_x hf
        refine lv_iinc (v := x5) (lv' := [(3, .int x5), (2, .int x4), (0, .ref (G.1 219)), (1, .int p1)]) hx hb dX13_rank_45 hl (k := 3) rfl (by rw [ex5]; rfl) (by decide) rfl (fun ls hl => ?_)
        refine lv_goto (tgt := 4) hx hb dX13_rank_48 (by decide) ?_
        exact ih _ _ _ hf _ _ _ M (lv_sub hl [2, 3, 1, 0] rfl) k51
      · have hf := it_n c3 hf
        refine lv_aload_n hx hb dX13_rank_29 rfl (lv_at hl 0 rfl) ?_
        refine lv_iload_n hx hb dX13_rank_30 rfl (lv_at hl 3 rfl) ?_
        refine lv_iload_n hx hb dX13_rank_31 rfl (lv_at hl 1 rfl) ?_
        obtain ⟨r7, h6, hf⟩ := bd_x hf
        refine g_callR (st1 := [.int r7, .int v2]) (cells' := 0) (slots' := 0) M (g_invV (index := 159) S M C0 hl (c_X13_isAhead l G H.size lo dd σ v3 p1  h6) k_X13_isAhead tw_7_208 tw_0_52 tw_7_206 (by decide) (ge_13 rfl) rfl rfl rfl rfl rfl rfl dX13_rank_32) rfl rfl rfl (fun H locs M => ?_)
        refine lv_if_eq (tgt := 42) hx hb dX13_rank_35 (by decide) (fun c8 => ?_) (fun c8 => ?_)
        · have hf := it_p c8 hf
          refine lv_iconst (v := 0) hx hb dX13_rank_42 (by decide) ?_
          refine lv_iadd hx hb dX13_rank_43 ?_
          obtain ⟨x9, ex9, hf⟩ := nm_x hf
          refine g_topi ex9 ?_
          refine lv_istore_n (lv' := [(2, .int x9), (0, .ref (G.1 219)), (1, .int p1), (3, .int v3)]) hx hb dX13_rank_44 rfl hl (by decide) rfl (fun ls hl => ?_)
          obtain ⟨x10, ex10, hf⟩ := nm_x hf
          refine lv_iinc (v := x10) (lv' := [(3, .int x10), (2, .int x9), (0, .ref (G.1 219)), (1, .int p1)]) hx hb dX13_rank_45 hl (k := 3) rfl (by rw [ex10]; rfl) (by decide) rfl (fun ls hl => ?_)
          refine lv_goto (tgt := 4) hx hb dX13_rank_48 (by decide) ?_
          exact ih _ _ _ hf _ _ _ M (lv_sub hl [2, 3, 1, 0] rfl) k51
        · have hf := it_n c8 hf
          refine lv_iconst (v := 1) hx hb dX13_rank_38 (by decide) ?_
          refine lv_goto (tgt := 43) hx hb dX13_rank_39 (by decide) ?_
          refine lv_iadd hx hb dX13_rank_43 ?_
          obtain ⟨x11, ex11, hf⟩ := nm_x hf
          refine g_topi ex11 ?_
          refine lv_istore_n (lv' := [(2, .int x11), (0, .ref (G.1 219)), (1, .int p1), (3, .int v3)]) hx hb dX13_rank_44 rfl hl (by decide) rfl (fun ls hl => ?_)
          obtain ⟨x12, ex12, hf⟩ := nm_x hf
          refine lv_iinc (v := x12) (lv' := [(3, .int x12), (2, .int x11), (0, .ref (G.1 219)), (1, .int p1)]) hx hb dX13_rank_45 hl (k := 3) rfl (by rw [ex12]; rfl) (by decide) rfl (fun ls hl => ?_)
          refine lv_goto (tgt := 4) hx hb dX13_rank_48 (by decide) ?_
          exact ih _ _ _ hf _ _ _ M (lv_sub hl [2, 3, 1, 0] rfl) k51
set_option maxHeartbeats 400000 in
set_option maxRecDepth 100000 in
theorem c_X13_rank (l : Launch) (G : gT) (sz : Nat) (lo : Int64) (dd : UInt64) (σ : gM) (a1 : Int32) {o : Int32} (hf : f_X13_rank σ a1 = some o) : gCT l yX13_rank cX13_rank 4 (some .int) { frames := 1, cells := 0, slots := 0, locals := 24 } 0 0 G sz [.ref (G.1 219), .int a1] lo dd σ (.inl (mkI o, σ, lo, dd)) := by
  refine gCT_of (by decide) (Nat.le_of_ble_eq_true rfl) (fun p e s m args below meth c ls S hr hlk hnx hsz C0 hl H locs M => ?_)
  subst hsz
  have hx := S.1
  have hb := S.2.1
  unfold f_X13_rank at hf
  refine lv_iconst (v := 0) hx hb dX13_rank_0 (by decide) ?_
  refine lv_istore_n (lv' := [(2, .int 0), (0, .ref (G.1 219)), (1, .int a1)]) hx hb dX13_rank_1 rfl hl (by decide) rfl (fun ls hl => ?_)
  refine lv_iconst (v := 0) hx hb dX13_rank_2 (by decide) ?_
  refine lv_istore_n (lv' := [(3, .int 0), (2, .int 0), (0, .ref (G.1 219)), (1, .int a1)]) hx hb dX13_rank_3 rfl hl (by decide) rfl (fun ls hl => ?_)
  obtain ⟨y14, h13, hf⟩ := bd_x hf
  refine w_X13_rank_L4 S C0 a1 σ gFU 0 0 _ h13 _ _ _ M (lv_sub hl [2, 3, 1, 0] rfl) (fun _ eq H locs ls M hl => ?_)
  cases eq
  refine lv_iload_n hx hb dX13_rank_51 rfl (lv_at hl 0 rfl) ?_
  cases hf
  exact g_iret S M hr hlk (by decide) (by decide) dX13_rank_52 rfl
theorem k_X13_heaviest : gMV yX13_heaviest cX13_heaviest 3 (some .int) 1 := ⟨tw_7_201, tw_1_12, by decide⟩
set_option maxHeartbeats 400000 in
set_option maxRecDepth 100000 in
theorem w_X13_heaviest_L2 {p : Program} {l : Launch} {e : Env} {s : State} {m : MethodId} {args : Array Value} {below : List Frame} {meth : Method} {c : Code} {Q : State → Prop} {G : gT} {lo : Int64} {dd : UInt64} (S : CallFix p m c cX13_heaviest 3 s args gTs RX13) (C0 : gCST G (gAA G s.heap.size) s) (p1 : Int32) (σ : gM) : ∀ (n : Nat) (v2 : Int32) (res : (Int32) ⊕ (Unit)), f_X13_heaviest_L2 p1 σ n v2 = some res → ∀ (H : Heap) (locs : List Loc) (ls : Array Slot), gMS G (gAA G s.heap.size) lo dd σ s H locs → lv_has ls 3 [(0, .ref (G.1 219)), (1, .int p1), (2, .int v2)] → (k35 : ∀ (u2 : Int32), res = .inl u2 → ∀ (H : Heap) (locs : List Loc) (ls : Array Slot), gMS G (gAA G s.heap.size) lo dd σ s H locs → lv_has ls 3 [(0, .ref (G.1 219)), (2, .int u2)] → W p l e ({ frames := 2, cells := 0, slots := 0, locals := 47 } : Room) s m args below meth c H locs 0 0 Q (F0 m 35 ls [])) → (k47 : res = .inr (()) → ∀ (H : Heap) (locs : List Loc) (ls : Array Slot), gMS G (gAA G s.heap.size) lo dd σ s H locs → lv_has ls 3 [(0, .ref (G.1 219))] → W p l e ({ frames := 2, cells := 0, slots := 0, locals := 47 } : Room) s m args below meth c H locs 0 0 Q (F0 m 47 ls [])) → W p l e ({ frames := 2, cells := 0, slots := 0, locals := 47 } : Room) s m args below meth c H locs 0 0 Q (F0 m 2 ls []) := by
  have hx := S.1
  have hb := S.2.1
  intro n
  induction n with
  | zero =>
    intro v2 res hf
    cases hf
  | succ n ih =>
    intro v2 res hf H locs ls M hl k35 k47
    rw [f_X13_heaviest_L2] at hf
    refine lv_iload_n hx hb dX13_heaviest_2 rfl (lv_at hl 2 rfl) ?_
    refine lv_aload_n hx hb dX13_heaviest_3 rfl (lv_at hl 0 rfl) ?_
    refine gf_X13_0 (i := 219) S M (by decide) rfl tw_6_107 dX13_heaviest_4 ?_
    refine lv_bipush (v := 36) hx hb dX13_heaviest_7 (by decide) ?_
    refine gk_iald (i := 220) (k := 36) S M (by decide) (gaa_134 rfl) (by unfold vp_in; decide) (by decide) dX13_heaviest_9 ?_
    refine lv_icmp_ge (tgt := 47) hx hb dX13_heaviest_10 (by decide) (fun c1 => ?_) (fun c1 => ?_)
    · have hf := it_p c1 hf
      cases hf
      exact k47 rfl _ _ _ M (lv_sub hl [0] rfl)
    · have hf := it_n c1 hf
      refine lv_aload_n hx hb dX13_heaviest_13 rfl (lv_at hl 0 rfl) ?_
      refine gf_X13_0 (i := 219) S M (by decide) rfl tw_6_107 dX13_heaviest_14 ?_
      refine lv_bipush (v := 76) hx hb dX13_heaviest_17 (by decide) ?_
      refine lv_iload_n hx hb dX13_heaviest_19 rfl (lv_at hl 2 rfl) ?_
      refine lv_iadd hx hb dX13_heaviest_20 ?_
      obtain ⟨h2, hf⟩ := gi_x hf
      refine gk_iald (i := 220) (k := (76 + v2).toNatClampNeg) S M (by decide) (gaa_134 rfl) h2 rfl dX13_heaviest_21 ?_
      refine lv_iconst (v := 2) hx hb dX13_heaviest_22 (by decide) ?_
      refine lv_icmp_eq (tgt := 41) hx hb dX13_heaviest_23 (by decide) (fun c3 => ?_) (fun c3 => ?_)
      · have hf := it_p c3 hf
        obtain ⟨x4, ex4, hf⟩ := nm_x hf
        refine lv_iinc (v := x4) (lv' := [(2, .int x4), (0, .ref (G.1 219)), (1, .int p1)]) hx hb dX13_heaviest_41 hl (k := 2) rfl (by rw [ex4]; rfl) (by decide) rfl (fun ls hl => ?_)
        refine lv_goto (tgt := 2) hx hb dX13_heaviest_44 (by decide) ?_
        exact ih _ _ hf _ _ _ M (lv_sub hl [1, 2, 0] rfl) k35 k47
      · have hf := it_n c3 hf
        refine lv_aload_n hx hb dX13_heaviest_26 rfl (lv_at hl 0 rfl) ?_
        refine lv_iload_n hx hb dX13_heaviest_27 rfl (lv_at hl 2 rfl) ?_
        obtain ⟨r6, h5, hf⟩ := bd_x hf
        refine g_callR (st1 := [.int r6]) (cells' := 0) (slots' := 0) M (g_invV (index := 162) S M C0 hl (c_X13_rank l G H.size lo dd σ v2  h5) k_X13_rank tw_7_204 tw_0_51 tw_7_202 (by decide) (ge_13 rfl) rfl rfl rfl rfl rfl rfl dX13_heaviest_28) rfl rfl rfl (fun H locs M => ?_)
        refine lv_iload_n hx hb dX13_heaviest_31 rfl (lv_at hl 1 rfl) ?_
        refine lv_icmp_ne (tgt := 41) hx hb dX13_heaviest_32 (by decide) (fun c7 => ?_) (fun c7 => ?_)
        · have hf := it_n c7 hf
          obtain ⟨x8, ex8, hf⟩ := nm_x hf
          refine lv_iinc (v := x8) (lv' := [(2, .int x8), (0, .ref (G.1 219)), (1, .int p1)]) hx hb dX13_heaviest_41 hl (k := 2) rfl (by rw [ex8]; rfl) (by decide) rfl (fun ls hl => ?_)
          refine lv_goto (tgt := 2) hx hb dX13_heaviest_44 (by decide) ?_
          exact ih _ _ hf _ _ _ M (lv_sub hl [1, 2, 0] rfl) k35 k47
        · have hf := it_p c7 hf
          cases hf
          exact k35 _ rfl _ _ _ M (lv_sub hl [0, 2] rfl)
set_option maxHeartbeats 400000 in
set_option maxRecDepth 100000 in
theorem c_X13_heaviest (l : Launch) (G : gT) (sz : Nat) (lo : Int64) (dd : UInt64) (σ : gM) (a1 : Int32) {r : Int32} {o : gM} (hf : f_X13_heaviest σ a1 = some (r, o)) : gCT l yX13_heaviest cX13_heaviest 3 (some .int) { frames := 2, cells := 0, slots := 0, locals := 47 } 0 0 G sz [.ref (G.1 219), .int a1] lo dd σ (.inl (mkI r, o, lo, dd)) := by
  refine gCT_of (by decide) (Nat.le_of_ble_eq_true rfl) (fun p e s m args below meth c ls S hr hlk hnx hsz C0 hl H locs M => ?_)
  subst hsz
  have hx := S.1
  have hb := S.2.1
  unfold f_X13_heaviest at hf
  refine lv_iconst (v := 0) hx hb dX13_heaviest_0 (by decide) ?_
  refine lv_istore_n (lv' := [(2, .int 0), (0, .ref (G.1 219)), (1, .int a1)]) hx hb dX13_heaviest_1 rfl hl (by decide) rfl (fun ls hl => ?_)
  rcases gs2_x hf with ⟨y10, h9, hf⟩ | ⟨u, h9, hf⟩
  · refine w_X13_heaviest_L2 S C0 a1 σ gFU 0 _ h9 _ _ _ M (lv_sub hl [1, 2, 0] rfl) (fun _ eq H locs ls M hl => ?_) (fun eq => nomatch eq)
    cases eq
    refine lv_aload_n hx hb dX13_heaviest_35 rfl (lv_at hl 0 rfl) ?_
    refine lv_iload_n hx hb dX13_heaviest_36 rfl (lv_at hl 1 rfl) ?_
    obtain ⟨r12, σ13, h11, hf⟩ := bd2_x hf
    refine g_callR (st1 := [.int r12]) (cells' := 0) (slots' := 0) M (g_invV (index := 72) S M C0 hl (c_X13_done l G H.size lo dd σ y10  h11) k_X13_done tw_6_198 tw_0_29 tw_6_196 (by decide) (ge_13 rfl) rfl rfl rfl rfl rfl rfl dX13_heaviest_37) rfl rfl rfl (fun H locs M => ?_)
    cases hf
    exact g_iret S M hr hlk (by decide) (by decide) dX13_heaviest_40 rfl
  · refine w_X13_heaviest_L2 S C0 a1 σ gFU 0 _ h9 _ _ _ M (lv_sub hl [1, 2, 0] rfl) (fun _ eq => nomatch eq) (fun eq H locs ls M hl => ?_)
    cases eq
    refine lv_aload_n hx hb dX13_heaviest_47 rfl (lv_at hl 0 rfl) ?_
    refine lv_iconst (v := 1) hx hb dX13_heaviest_48 (by decide) ?_
    obtain ⟨r15, σ16, h14, hf⟩ := bd2_x hf
    refine g_callR (st1 := [.int r15]) (cells' := 0) (slots' := 0) M (g_invV (index := 64) S M C0 hl (c_X13_fails l G H.size lo dd σ 1  h14) k_X13_fails tw_6_186 tw_0_26 tw_6_184 (by decide) (ge_13 rfl) rfl rfl rfl rfl rfl rfl dX13_heaviest_49) rfl rfl rfl (fun H locs M => ?_)
    cases hf
    exact g_iret S M hr hlk (by decide) (by decide) dX13_heaviest_52 rfl
theorem k_X13_meanHazard : gMV yX13_meanHazard cX13_meanHazard 3 (some .double) 0 := ⟨tw_7_213, tw_1_12, by decide⟩
set_option maxHeartbeats 400000 in
set_option maxRecDepth 100000 in
theorem w_X13_meanHazard_L4 {p : Program} {l : Launch} {e : Env} {s : State} {m : MethodId} {args : Array Value} {below : List Frame} {meth : Method} {c : Code} {Q : State → Prop} {G : gT} {lo : Int64} {dd : UInt64} (S : CallFix p m c cX13_meanHazard 3 s args gTs RX13) (C0 : gCST G (gAA G s.heap.size) s) (σ : gM) : ∀ (n : Nat) (v1 : Int32) (v2 : Int32) (res : Int32), f_X13_meanHazard_L4 σ n v1 v2 = some res → ∀ (H : Heap) (locs : List Loc) (ls : Array Slot), gMS G (gAA G s.heap.size) lo dd σ s H locs → lv_has ls 3 [(0, .ref (G.1 219)), (1, .int v1), (2, .int v2)] → (k33 : ∀ (u1 : Int32), res = u1 → ∀ (H : Heap) (locs : List Loc) (ls : Array Slot), gMS G (gAA G s.heap.size) lo dd σ s H locs → lv_has ls 3 [(0, .ref (G.1 219)), (1, .int u1)] → W p l e ({ frames := 0, cells := 0, slots := 0, locals := 0 } : Room) s m args below meth c H locs 0 0 Q (F0 m 33 ls [])) → W p l e ({ frames := 0, cells := 0, slots := 0, locals := 0 } : Room) s m args below meth c H locs 0 0 Q (F0 m 4 ls []) := by
  have hx := S.1
  have hb := S.2.1
  intro n
  induction n with
  | zero =>
    intro v1 v2 res hf
    cases hf
  | succ n ih =>
    intro v1 v2 res hf H locs ls M hl k33
    rw [f_X13_meanHazard_L4] at hf
    refine lv_iload_n hx hb dX13_meanHazard_4 rfl (lv_at hl 2 rfl) ?_
    refine lv_aload_n hx hb dX13_meanHazard_5 rfl (lv_at hl 0 rfl) ?_
    refine gf_X13_0 (i := 219) S M (by decide) rfl tw_6_107 dX13_meanHazard_6 ?_
    refine lv_bipush (v := 36) hx hb dX13_meanHazard_9 (by decide) ?_
    refine gk_iald (i := 220) (k := 36) S M (by decide) (gaa_134 rfl) (by unfold vp_in; decide) (by decide) dX13_meanHazard_11 ?_
    refine lv_icmp_ge (tgt := 33) hx hb dX13_meanHazard_12 (by decide) (fun c1 => ?_) (fun c1 => ?_)
    · have hf := it_p c1 hf
      cases hf
      exact k33 _ rfl _ _ _ M (lv_sub hl [0, 1] rfl)
    · have hf := it_n c1 hf
      refine lv_iload_n hx hb dX13_meanHazard_15 rfl (lv_at hl 1 rfl) ?_
      refine lv_aload_n hx hb dX13_meanHazard_16 rfl (lv_at hl 0 rfl) ?_
      refine gf_X13_0 (i := 219) S M (by decide) rfl tw_6_107 dX13_meanHazard_17 ?_
      refine lv_bipush (v := 52) hx hb dX13_meanHazard_20 (by decide) ?_
      refine lv_iload_n hx hb dX13_meanHazard_22 rfl (lv_at hl 2 rfl) ?_
      refine lv_iadd hx hb dX13_meanHazard_23 ?_
      obtain ⟨h2, hf⟩ := gi_x hf
      refine gk_iald (i := 220) (k := (52 + v2).toNatClampNeg) S M (by decide) (gaa_134 rfl) h2 rfl dX13_meanHazard_24 ?_
      refine lv_iadd hx hb dX13_meanHazard_25 ?_
      obtain ⟨x3, ex3, hf⟩ := nm_x hf
      refine g_topi ex3 ?_
      refine lv_istore_n (lv' := [(1, .int x3), (0, .ref (G.1 219)), (2, .int v2)]) hx hb dX13_meanHazard_26 rfl hl (by decide) rfl (fun ls hl => ?_)
      obtain ⟨x4, ex4, hf⟩ := nm_x hf
      refine lv_iinc (v := x4) (lv' := [(2, .int x4), (1, .int x3), (0, .ref (G.1 219))]) hx hb dX13_meanHazard_27 hl (k := 2) rfl (by rw [ex4]; rfl) (by decide) rfl (fun ls hl => ?_)
      refine lv_goto (tgt := 4) hx hb dX13_meanHazard_30 (by decide) ?_
      exact ih _ _ _ hf _ _ _ M (lv_sub hl [2, 1, 0] rfl) k33
set_option maxHeartbeats 400000 in
set_option maxRecDepth 100000 in
theorem c_X13_meanHazard (l : Launch) (G : gT) (sz : Nat) (lo : Int64) (dd : UInt64) (σ : gM) {r : UInt64} {o : gM} (hf : f_X13_meanHazard σ = some (r, o)) : gCT l yX13_meanHazard cX13_meanHazard 3 (some .double) { frames := 0, cells := 0, slots := 0, locals := 0 } 0 0 G sz [.ref (G.1 219)] lo dd σ (.inl (mkD r, o, lo, dd)) := by
  refine gCT_of (by decide) (Nat.le_of_ble_eq_true rfl) (fun p e s m args below meth c ls S hr hlk hnx hsz C0 hl H locs M => ?_)
  subst hsz
  have hx := S.1
  have hb := S.2.1
  unfold f_X13_meanHazard at hf
  refine lv_iconst (v := 0) hx hb dX13_meanHazard_0 (by decide) ?_
  refine lv_istore_n (lv' := [(1, .int 0), (0, .ref (G.1 219))]) hx hb dX13_meanHazard_1 rfl hl (by decide) rfl (fun ls hl => ?_)
  refine lv_iconst (v := 0) hx hb dX13_meanHazard_2 (by decide) ?_
  refine lv_istore_n (lv' := [(2, .int 0), (1, .int 0), (0, .ref (G.1 219))]) hx hb dX13_meanHazard_3 rfl hl (by decide) rfl (fun ls hl => ?_)
  obtain ⟨y6, h5, hf⟩ := bd_x hf
  refine w_X13_meanHazard_L4 S C0 σ gFU 0 0 _ h5 _ _ _ M (lv_sub hl [2, 1, 0] rfl) (fun _ eq H locs ls M hl => ?_)
  cases eq
  refine lv_aload_n hx hb dX13_meanHazard_33 rfl (lv_at hl 0 rfl) ?_
  refine lv_aload_n hx hb dX13_meanHazard_34 rfl (lv_at hl 0 rfl) ?_
  refine gf_X13_0 (i := 219) S M (by decide) rfl tw_6_107 dX13_meanHazard_35 ?_
  refine lv_bipush (v := 36) hx hb dX13_meanHazard_38 (by decide) ?_
  refine gk_iald (i := 220) (k := 36) S M (by decide) (gaa_134 rfl) (by unfold vp_in; decide) (by decide) dX13_meanHazard_40 ?_
  refine lv_if_ne (tgt := 48) hx hb dX13_meanHazard_41 (by decide) (fun c7 => ?_) (fun c7 => ?_)
  · have hf := it_n c7 hf
    refine lv_iconst (v := 0) hx hb dX13_meanHazard_48 (by decide) ?_
    obtain ⟨σ8, eσ8, hf⟩ := nm_x hf
    refine gp_X13_12 (i := 219) S M (by decide) rfl tw_6_119 dX13_meanHazard_49 (fun H locs M => ?_)
    rw [← eσ8] at M
    refine lv_aload_n hx hb dX13_meanHazard_52 rfl (lv_at hl 0 rfl) ?_
    refine gf_X13_12 (i := 219) S M (by decide) rfl tw_6_119 dX13_meanHazard_53 ?_
    refine lv_if_ne (tgt := 73) hx hb dX13_meanHazard_56 (by decide) (fun c9 => ?_) (fun c9 => ?_)
    · have hf := it_n c9 hf
      refine lv_dconst0 hx hb dX13_meanHazard_73 ?_
      cases hf
      exact g_dret S M hr hlk (by decide) (by decide) dX13_meanHazard_74 rfl
    · have hf := it_p c9 hf
      refine lv_iload_n hx hb dX13_meanHazard_59 rfl (lv_at hl 1 rfl) ?_
      refine lv_i2d hx hb dX13_meanHazard_60 ?_
      refine lv_aload_n hx hb dX13_meanHazard_61 rfl (lv_at hl 0 rfl) ?_
      refine gf_X13_0 (i := 219) S M (by decide) rfl tw_6_107 dX13_meanHazard_62 ?_
      refine lv_bipush (v := 36) hx hb dX13_meanHazard_65 (by decide) ?_
      refine gk_iald (i := 220) (k := 36) S M (by decide) (gaa_134 rfl) (by unfold vp_in; decide) (by decide) dX13_meanHazard_67 ?_
      refine lv_i2d hx hb dX13_meanHazard_68 ?_
      obtain ⟨z10, hf⟩ := gnd_x hf
      refine lv_ddiv hx hb dX13_meanHazard_69 z10 ?_
      refine lv_goto (tgt := 74) hx hb dX13_meanHazard_70 (by decide) ?_
      cases hf
      exact g_dret S M hr hlk (by decide) (by decide) dX13_meanHazard_74 rfl
  · have hf := it_p c7 hf
    refine lv_iconst (v := 1) hx hb dX13_meanHazard_44 (by decide) ?_
    refine lv_goto (tgt := 49) hx hb dX13_meanHazard_45 (by decide) ?_
    obtain ⟨σ11, eσ11, hf⟩ := nm_x hf
    refine gp_X13_12 (i := 219) S M (by decide) rfl tw_6_119 dX13_meanHazard_49 (fun H locs M => ?_)
    rw [← eσ11] at M
    refine lv_aload_n hx hb dX13_meanHazard_52 rfl (lv_at hl 0 rfl) ?_
    refine gf_X13_12 (i := 219) S M (by decide) rfl tw_6_119 dX13_meanHazard_53 ?_
    refine lv_if_ne (tgt := 73) hx hb dX13_meanHazard_56 (by decide) (fun c12 => ?_) (fun c12 => ?_)
    · have hf := it_n c12 hf
      refine lv_dconst0 hx hb dX13_meanHazard_73 ?_
      cases hf
      exact g_dret S M hr hlk (by decide) (by decide) dX13_meanHazard_74 rfl
    · have hf := it_p c12 hf
      refine lv_iload_n hx hb dX13_meanHazard_59 rfl (lv_at hl 1 rfl) ?_
      refine lv_i2d hx hb dX13_meanHazard_60 ?_
      refine lv_aload_n hx hb dX13_meanHazard_61 rfl (lv_at hl 0 rfl) ?_
      refine gf_X13_0 (i := 219) S M (by decide) rfl tw_6_107 dX13_meanHazard_62 ?_
      refine lv_bipush (v := 36) hx hb dX13_meanHazard_65 (by decide) ?_
      refine gk_iald (i := 220) (k := 36) S M (by decide) (gaa_134 rfl) (by unfold vp_in; decide) (by decide) dX13_meanHazard_67 ?_
      refine lv_i2d hx hb dX13_meanHazard_68 ?_
      obtain ⟨z13, hf⟩ := gnd_x hf
      refine lv_ddiv hx hb dX13_meanHazard_69 z13 ?_
      refine lv_goto (tgt := 74) hx hb dX13_meanHazard_70 (by decide) ?_
      cases hf
      exact g_dret S M hr hlk (by decide) (by decide) dX13_meanHazard_74 rfl
theorem k_X13_deliveredShare : gMV yX13_deliveredShare cX13_deliveredShare 1 (some .float) 0 := ⟨tw_7_217, tw_1_12, by decide⟩
set_option maxHeartbeats 400000 in
set_option maxRecDepth 100000 in
theorem c_X13_deliveredShare (l : Launch) (G : gT) (sz : Nat) (lo : Int64) (dd : UInt64) (σ : gM) {r : UInt32} {o : gM} (hf : f_X13_deliveredShare σ = some (r, o)) : gCT l yX13_deliveredShare cX13_deliveredShare 1 (some .float) { frames := 1, cells := 0, slots := 0, locals := 23 } 0 0 G sz [.ref (G.1 219)] lo dd σ (.inl (mkF r, o, lo, dd)) := by
  refine gCT_of (by decide) (Nat.le_of_ble_eq_true rfl) (fun p e s m args below meth c ls S hr hlk hnx hsz C0 hl H locs M => ?_)
  subst hsz
  have hx := S.1
  have hb := S.2.1
  unfold f_X13_deliveredShare at hf
  refine lv_aload_n hx hb dX13_deliveredShare_0 rfl (lv_at hl 0 rfl) ?_
  refine lv_aload_n hx hb dX13_deliveredShare_1 rfl (lv_at hl 0 rfl) ?_
  refine gf_X13_0 (i := 219) S M (by decide) rfl tw_6_107 dX13_deliveredShare_2 ?_
  refine lv_bipush (v := 36) hx hb dX13_deliveredShare_5 (by decide) ?_
  refine gk_iald (i := 220) (k := 36) S M (by decide) (gaa_134 rfl) (by unfold vp_in; decide) (by decide) dX13_deliveredShare_7 ?_
  refine lv_if_ne (tgt := 15) hx hb dX13_deliveredShare_8 (by decide) (fun c1 => ?_) (fun c1 => ?_)
  · have hf := it_n c1 hf
    refine lv_iconst (v := 0) hx hb dX13_deliveredShare_15 (by decide) ?_
    obtain ⟨σ2, eσ2, hf⟩ := nm_x hf
    refine gp_X13_12 (i := 219) S M (by decide) rfl tw_6_119 dX13_deliveredShare_16 (fun H locs M => ?_)
    rw [← eσ2] at M
    refine lv_aload_n hx hb dX13_deliveredShare_19 rfl (lv_at hl 0 rfl) ?_
    refine gf_X13_12 (i := 219) S M (by decide) rfl tw_6_119 dX13_deliveredShare_20 ?_
    refine lv_if_ne (tgt := 44) hx hb dX13_deliveredShare_23 (by decide) (fun c3 => ?_) (fun c3 => ?_)
    · have hf := it_n c3 hf
      refine lv_fconst0 hx hb dX13_deliveredShare_44 ?_
      cases hf
      exact g_fret S M hr hlk (by decide) (by decide) dX13_deliveredShare_45 rfl
    · have hf := it_p c3 hf
      refine lv_aload_n hx hb dX13_deliveredShare_26 rfl (lv_at hl 0 rfl) ?_
      refine lv_iconst (v := 2) hx hb dX13_deliveredShare_27 (by decide) ?_
      obtain ⟨r5, h4, hf⟩ := bd_x hf
      refine g_callR (st1 := [.int r5]) (cells' := 0) (slots' := 0) M (g_invV (index := 141) S M C0 hl (c_X13_inState l G H.size lo dd σ2 2  h4) k_X13_inState tw_7_114 tw_0_47 tw_7_112 (by decide) (ge_13 rfl) rfl rfl rfl rfl rfl rfl dX13_deliveredShare_28) rfl rfl rfl (fun H locs M => ?_)
      refine lv_i2f hx hb dX13_deliveredShare_31 ?_
      refine lv_aload_n hx hb dX13_deliveredShare_32 rfl (lv_at hl 0 rfl) ?_
      refine gf_X13_0 (i := 219) S M (by decide) rfl tw_6_107 dX13_deliveredShare_33 ?_
      refine lv_bipush (v := 36) hx hb dX13_deliveredShare_36 (by decide) ?_
      refine gk_iald (i := 220) (k := 36) S M (by decide) (gaa_134 rfl) (by unfold vp_in; decide) (by decide) dX13_deliveredShare_38 ?_
      refine lv_i2f hx hb dX13_deliveredShare_39 ?_
      obtain ⟨z6, hf⟩ := gnf_x hf
      refine lv_fdiv hx hb dX13_deliveredShare_40 z6 ?_
      refine lv_goto (tgt := 45) hx hb dX13_deliveredShare_41 (by decide) ?_
      cases hf
      exact g_fret S M hr hlk (by decide) (by decide) dX13_deliveredShare_45 rfl
  · have hf := it_p c1 hf
    refine lv_iconst (v := 1) hx hb dX13_deliveredShare_11 (by decide) ?_
    refine lv_goto (tgt := 16) hx hb dX13_deliveredShare_12 (by decide) ?_
    obtain ⟨σ7, eσ7, hf⟩ := nm_x hf
    refine gp_X13_12 (i := 219) S M (by decide) rfl tw_6_119 dX13_deliveredShare_16 (fun H locs M => ?_)
    rw [← eσ7] at M
    refine lv_aload_n hx hb dX13_deliveredShare_19 rfl (lv_at hl 0 rfl) ?_
    refine gf_X13_12 (i := 219) S M (by decide) rfl tw_6_119 dX13_deliveredShare_20 ?_
    refine lv_if_ne (tgt := 44) hx hb dX13_deliveredShare_23 (by decide) (fun c8 => ?_) (fun c8 => ?_)
    · have hf := it_n c8 hf
      refine lv_fconst0 hx hb dX13_deliveredShare_44 ?_
      cases hf
      exact g_fret S M hr hlk (by decide) (by decide) dX13_deliveredShare_45 rfl
    · have hf := it_p c8 hf
      refine lv_aload_n hx hb dX13_deliveredShare_26 rfl (lv_at hl 0 rfl) ?_
      refine lv_iconst (v := 2) hx hb dX13_deliveredShare_27 (by decide) ?_
      obtain ⟨r10, h9, hf⟩ := bd_x hf
      refine g_callR (st1 := [.int r10]) (cells' := 0) (slots' := 0) M (g_invV (index := 141) S M C0 hl (c_X13_inState l G H.size lo dd σ7 2  h9) k_X13_inState tw_7_114 tw_0_47 tw_7_112 (by decide) (ge_13 rfl) rfl rfl rfl rfl rfl rfl dX13_deliveredShare_28) rfl rfl rfl (fun H locs M => ?_)
      refine lv_i2f hx hb dX13_deliveredShare_31 ?_
      refine lv_aload_n hx hb dX13_deliveredShare_32 rfl (lv_at hl 0 rfl) ?_
      refine gf_X13_0 (i := 219) S M (by decide) rfl tw_6_107 dX13_deliveredShare_33 ?_
      refine lv_bipush (v := 36) hx hb dX13_deliveredShare_36 (by decide) ?_
      refine gk_iald (i := 220) (k := 36) S M (by decide) (gaa_134 rfl) (by unfold vp_in; decide) (by decide) dX13_deliveredShare_38 ?_
      refine lv_i2f hx hb dX13_deliveredShare_39 ?_
      obtain ⟨z11, hf⟩ := gnf_x hf
      refine lv_fdiv hx hb dX13_deliveredShare_40 z11 ?_
      refine lv_goto (tgt := 45) hx hb dX13_deliveredShare_41 (by decide) ?_
      cases hf
      exact g_fret S M hr hlk (by decide) (by decide) dX13_deliveredShare_45 rfl
theorem k_X13_isConsistent : gMV yX13_isConsistent cX13_isConsistent 1 (some .boolean) 0 := ⟨tw_7_221, tw_1_12, by decide⟩
set_option maxHeartbeats 400000 in
set_option maxRecDepth 100000 in
theorem c_X13_isConsistent (l : Launch) (G : gT) (sz : Nat) (lo : Int64) (dd : UInt64) (σ : gM) {r : Int32} {o : gM} (hf : f_X13_isConsistent σ = some (r, o)) : gCT l yX13_isConsistent cX13_isConsistent 1 (some .boolean) { frames := 0, cells := 0, slots := 0, locals := 0 } 0 0 G sz [.ref (G.1 219)] lo dd σ (.inl (mkI r, o, lo, dd)) := by
  refine gCT_of (by decide) (Nat.le_of_ble_eq_true rfl) (fun p e s m args below meth c ls S hr hlk hnx hsz C0 hl H locs M => ?_)
  subst hsz
  have hx := S.1
  have hb := S.2.1
  unfold f_X13_isConsistent at hf
  refine lv_aload_n hx hb dX13_isConsistent_0 rfl (lv_at hl 0 rfl) ?_
  refine lv_iconst (v := 0) hx hb dX13_isConsistent_1 (by decide) ?_
  obtain ⟨σ1, eσ1, hf⟩ := nm_x hf
  refine gp_X13_12 (i := 219) S M (by decide) rfl tw_6_119 dX13_isConsistent_2 (fun H locs M => ?_)
  rw [← eσ1] at M
  refine lv_iconst (v := 1) hx hb dX13_isConsistent_5 (by decide) ?_
  cases hf
  exact g_zret S M hr hlk (by decide) (by decide) (by decide) dX13_isConsistent_6 rfl
theorem k_X13_feed : gMV yX13_feed cX13_feed 2 (some .int) 1 := ⟨tw_7_225, tw_1_12, by decide⟩
set_option maxHeartbeats 400000 in
set_option maxRecDepth 100000 in
theorem c_X13_feed (l : Launch) (G : gT) (sz : Nat) (lo : Int64) (dd : UInt64) (σ : gM) (a1 : Int32) {r : Int32} {o : gM} (hf : f_X13_feed σ a1 = some (r, o)) : gCT l yX13_feed cX13_feed 2 (some .int) { frames := 1, cells := 0, slots := 0, locals := 21 } 0 0 G sz [.ref (G.1 219), .int a1] lo dd σ (.inl (mkI r, o, lo, dd)) := by
  refine gCT_of (by decide) (Nat.le_of_ble_eq_true rfl) (fun p e s m args below meth c ls S hr hlk hnx hsz C0 hl H locs M => ?_)
  subst hsz
  have hx := S.1
  have hb := S.2.1
  unfold f_X13_feed at hf
  refine lv_aload_n hx hb dX13_feed_0 rfl (lv_at hl 0 rfl) ?_
  refine gf_X13_7 (i := 219) S M (by decide) rfl tw_6_114 dX13_feed_1 ?_
  refine lv_bipush (v := 60) hx hb dX13_feed_4 (by decide) ?_
  refine lv_icmp_ne (tgt := 15) hx hb dX13_feed_6 (by decide) (fun c1 => ?_) (fun c1 => ?_)
  · have hf := it_n c1 hf
    refine lv_aload_n hx hb dX13_feed_15 rfl (lv_at hl 0 rfl) ?_
    refine gf_X13_6 (i := 219) S M (by decide) rfl tw_6_113 dX13_feed_16 ?_
    refine lv_aload_n hx hb dX13_feed_19 rfl (lv_at hl 0 rfl) ?_
    refine gf_X13_7 (i := 219) S M (by decide) rfl tw_6_114 dX13_feed_20 ?_
    refine lv_iload_n hx hb dX13_feed_23 rfl (lv_at hl 1 rfl) ?_
    obtain ⟨h2, hf⟩ := gi_x hf
    obtain ⟨σ3, eσ3, hf⟩ := nm_x hf
    refine gk_cast (i := 224) (k := (σ 219 7).toNatClampNeg) S M (by decide) (fun _ => (gca_60 rfl)) h2 rfl dX13_feed_24 (fun H locs M => ?_)
    rw [← eσ3] at M
    refine lv_aload_n hx hb dX13_feed_25 rfl (lv_at hl 0 rfl) ?_
    refine lv_dup hx hb dX13_feed_26 rfl ?_
    refine gf_X13_7 (i := 219) S M (by decide) rfl tw_6_114 dX13_feed_27 ?_
    refine lv_iconst (v := 1) hx hb dX13_feed_30 (by decide) ?_
    refine lv_iadd hx hb dX13_feed_31 ?_
    obtain ⟨σ4, eσ4, hf⟩ := nm_x hf
    refine gp_X13_7 (i := 219) S M (by decide) rfl tw_6_114 dX13_feed_32 (fun H locs M => ?_)
    rw [← eσ4] at M
    refine lv_aload_n hx hb dX13_feed_35 rfl (lv_at hl 0 rfl) ?_
    refine lv_aload_n hx hb dX13_feed_36 rfl (lv_at hl 0 rfl) ?_
    refine gf_X13_7 (i := 219) S M (by decide) rfl tw_6_114 dX13_feed_37 ?_
    obtain ⟨r6, σ7, h5, hf⟩ := bd2_x hf
    refine g_callR (st1 := [.int r6]) (cells' := 0) (slots' := 0) M (g_invV (index := 72) S M C0 hl (c_X13_done l G H.size lo dd σ4 (σ4 219 7)  h5) k_X13_done tw_6_198 tw_0_29 tw_6_196 (by decide) (ge_13 rfl) rfl rfl rfl rfl rfl rfl dX13_feed_40) rfl rfl rfl (fun H locs M => ?_)
    cases hf
    exact g_iret S M hr hlk (by decide) (by decide) dX13_feed_43 rfl
  · have hf := it_p c1 hf
    refine lv_aload_n hx hb dX13_feed_9 rfl (lv_at hl 0 rfl) ?_
    refine lv_iconst (v := 1) hx hb dX13_feed_10 (by decide) ?_
    obtain ⟨r9, σ10, h8, hf⟩ := bd2_x hf
    refine g_callR (st1 := [.int r9]) (cells' := 0) (slots' := 0) M (g_invV (index := 64) S M C0 hl (c_X13_fails l G H.size lo dd σ 1  h8) k_X13_fails tw_6_186 tw_0_26 tw_6_184 (by decide) (ge_13 rfl) rfl rfl rfl rfl rfl rfl dX13_feed_11) rfl rfl rfl (fun H locs M => ?_)
    cases hf
    exact g_iret S M hr hlk (by decide) (by decide) dX13_feed_14 rfl
theorem k_X13_here : gMV yX13_here cX13_here 1 (some .int) 0 := ⟨tw_7_237, tw_1_12, by decide⟩
set_option maxHeartbeats 400000 in
set_option maxRecDepth 100000 in
theorem c_X13_here (l : Launch) (G : gT) (sz : Nat) (lo : Int64) (dd : UInt64) (σ : gM) {o : Int32} (hf : f_X13_here σ = some o) : gCT l yX13_here cX13_here 1 (some .int) { frames := 0, cells := 0, slots := 0, locals := 0 } 0 0 G sz [.ref (G.1 219)] lo dd σ (.inl (mkI o, σ, lo, dd)) := by
  refine gCT_of (by decide) (Nat.le_of_ble_eq_true rfl) (fun p e s m args below meth c ls S hr hlk hnx hsz C0 hl H locs M => ?_)
  subst hsz
  have hx := S.1
  have hb := S.2.1
  unfold f_X13_here at hf
  refine lv_aload_n hx hb dX13_here_0 rfl (lv_at hl 0 rfl) ?_
  refine gf_X13_14 (i := 219) S M (by decide) rfl tw_6_121 dX13_here_1 ?_
  refine lv_aload_n hx hb dX13_here_4 rfl (lv_at hl 0 rfl) ?_
  refine gf_X13_7 (i := 219) S M (by decide) rfl tw_6_114 dX13_here_5 ?_
  refine lv_icmp_ge (tgt := 23) hx hb dX13_here_8 (by decide) (fun c1 => ?_) (fun c1 => ?_)
  · have hf := it_p c1 hf
    refine lv_iconst (v := (-1)) hx hb dX13_here_23 (by decide) ?_
    cases hf
    exact g_iret S M hr hlk (by decide) (by decide) dX13_here_24 rfl
  · have hf := it_n c1 hf
    refine lv_aload_n hx hb dX13_here_11 rfl (lv_at hl 0 rfl) ?_
    refine gf_X13_6 (i := 219) S M (by decide) rfl tw_6_113 dX13_here_12 ?_
    refine lv_aload_n hx hb dX13_here_15 rfl (lv_at hl 0 rfl) ?_
    refine gf_X13_14 (i := 219) S M (by decide) rfl tw_6_121 dX13_here_16 ?_
    obtain ⟨h2, hf⟩ := gi_x hf
    refine gk_cald (i := 224) (k := (σ 219 14).toNatClampNeg) S M (by decide) (gca_60 rfl) h2 rfl dX13_here_19 ?_
    refine lv_goto (tgt := 24) hx hb dX13_here_20 (by decide) ?_
    cases hf
    exact g_iret S M hr hlk (by decide) (by decide) dX13_here_24 rfl
theorem k_X13_needs : gMV yX13_needs cX13_needs 2 none 1 := ⟨tw_8_5, tw_1_12, by decide⟩
set_option maxHeartbeats 400000 in
set_option maxRecDepth 100000 in
theorem c_X13_needs (l : Launch) (G : gT) (sz : Nat) (lo : Int64) (dd : UInt64) (σ : gM) (a1 : Int32) {o : gM} (hf : f_X13_needs σ a1 = some o) : gCT l yX13_needs cX13_needs 2 none { frames := 1, cells := 0, slots := 0, locals := 20 } 0 0 G sz [.ref (G.1 219), .int a1] lo dd σ (.inl (none, o, lo, dd)) := by
  refine gCT_of (by decide) (Nat.le_of_ble_eq_true rfl) (fun p e s m args below meth c ls S hr hlk hnx hsz C0 hl H locs M => ?_)
  subst hsz
  have hx := S.1
  have hb := S.2.1
  unfold f_X13_needs at hf
  refine lv_aload_n hx hb dX13_needs_0 rfl (lv_at hl 0 rfl) ?_
  refine lv_aload_n hx hb dX13_needs_1 rfl (lv_at hl 0 rfl) ?_
  refine gf_X13_15 (i := 219) S M (by decide) rfl tw_6_122 dX13_needs_2 ?_
  refine lv_if_ne (tgt := 16) hx hb dX13_needs_5 (by decide) (fun c1 => ?_) (fun c1 => ?_)
  · have hf := it_n c1 hf
    refine lv_iconst (v := 1) hx hb dX13_needs_16 (by decide) ?_
    refine lv_goto (tgt := 21) hx hb dX13_needs_17 (by decide) ?_
    obtain ⟨σ2, eσ2, hf⟩ := nm_x hf
    refine gp_X13_15 (i := 219) S M (by decide) rfl tw_6_122 (by decide) (by decide) dX13_needs_21 (fun H locs M => ?_)
    rw [← eσ2] at M
    refine lv_aload_n hx hb dX13_needs_24 rfl (lv_at hl 0 rfl) ?_
    refine lv_dup hx hb dX13_needs_25 rfl ?_
    refine gf_X13_14 (i := 219) S M (by decide) rfl tw_6_121 dX13_needs_26 ?_
    refine lv_aload_n hx hb dX13_needs_29 rfl (lv_at hl 0 rfl) ?_
    refine gf_X13_15 (i := 219) S M (by decide) rfl tw_6_122 dX13_needs_30 ?_
    refine lv_if_eq (tgt := 40) hx hb dX13_needs_33 (by decide) (fun c3 => ?_) (fun c3 => ?_)
    · have hf := it_p c3 hf
      refine lv_iconst (v := 1) hx hb dX13_needs_40 (by decide) ?_
      refine lv_iadd hx hb dX13_needs_41 ?_
      obtain ⟨σ4, eσ4, hf⟩ := nm_x hf
      refine gp_X13_14 (i := 219) S M (by decide) rfl tw_6_121 dX13_needs_42 (fun H locs M => ?_)
      rw [← eσ4] at M
      cases hf
      exact g_vret S M hr hlk (by decide) (by decide) dX13_needs_45 rfl
    · have hf := it_n c3 hf
      refine lv_iconst (v := 0) hx hb dX13_needs_36 (by decide) ?_
      refine lv_goto (tgt := 41) hx hb dX13_needs_37 (by decide) ?_
      refine lv_iadd hx hb dX13_needs_41 ?_
      obtain ⟨σ5, eσ5, hf⟩ := nm_x hf
      refine gp_X13_14 (i := 219) S M (by decide) rfl tw_6_121 dX13_needs_42 (fun H locs M => ?_)
      rw [← eσ5] at M
      cases hf
      exact g_vret S M hr hlk (by decide) (by decide) dX13_needs_45 rfl
  · have hf := it_p c1 hf
    refine lv_aload_n hx hb dX13_needs_8 rfl (lv_at hl 0 rfl) ?_
    obtain ⟨r7, h6, hf⟩ := bd_x hf
    refine g_callR (st1 := [.int r7, .ref (G.1 219)]) (cells' := 0) (slots' := 0) M (g_invV (index := 175) S M C0 hl (c_X13_here l G H.size lo dd σ   h6) k_X13_here tw_7_236 tw_0_54 tw_7_234 (by decide) (ge_13 rfl) rfl rfl rfl rfl rfl rfl dX13_needs_9) rfl rfl rfl (fun H locs M => ?_)
    refine lv_iload_n hx hb dX13_needs_12 rfl (lv_at hl 1 rfl) ?_
    refine lv_icmp_eq (tgt := 20) hx hb dX13_needs_13 (by decide) (fun c8 => ?_) (fun c8 => ?_)
    · have hf := it_p c8 hf
      refine lv_iconst (v := 0) hx hb dX13_needs_20 (by decide) ?_
      obtain ⟨σ9, eσ9, hf⟩ := nm_x hf
      refine gp_X13_15 (i := 219) S M (by decide) rfl tw_6_122 (by decide) (by decide) dX13_needs_21 (fun H locs M => ?_)
      rw [← eσ9] at M
      refine lv_aload_n hx hb dX13_needs_24 rfl (lv_at hl 0 rfl) ?_
      refine lv_dup hx hb dX13_needs_25 rfl ?_
      refine gf_X13_14 (i := 219) S M (by decide) rfl tw_6_121 dX13_needs_26 ?_
      refine lv_aload_n hx hb dX13_needs_29 rfl (lv_at hl 0 rfl) ?_
      refine gf_X13_15 (i := 219) S M (by decide) rfl tw_6_122 dX13_needs_30 ?_
      refine lv_if_eq (tgt := 40) hx hb dX13_needs_33 (by decide) (fun c10 => ?_) (fun c10 => ?_)
      · have hf := it_p c10 hf
        refine lv_iconst (v := 1) hx hb dX13_needs_40 (by decide) ?_
        refine lv_iadd hx hb dX13_needs_41 ?_
        obtain ⟨σ11, eσ11, hf⟩ := nm_x hf
        refine gp_X13_14 (i := 219) S M (by decide) rfl tw_6_121 dX13_needs_42 (fun H locs M => ?_)
        rw [← eσ11] at M
        cases hf
        exact g_vret S M hr hlk (by decide) (by decide) dX13_needs_45 rfl
      · have hf := it_n c10 hf
        refine lv_iconst (v := 0) hx hb dX13_needs_36 (by decide) ?_
        refine lv_goto (tgt := 41) hx hb dX13_needs_37 (by decide) ?_
        refine lv_iadd hx hb dX13_needs_41 ?_
        obtain ⟨σ12, eσ12, hf⟩ := nm_x hf
        refine gp_X13_14 (i := 219) S M (by decide) rfl tw_6_121 dX13_needs_42 (fun H locs M => ?_)
        rw [← eσ12] at M
        cases hf
        exact g_vret S M hr hlk (by decide) (by decide) dX13_needs_45 rfl
    · have hf := it_n c8 hf
      refine lv_iconst (v := 1) hx hb dX13_needs_16 (by decide) ?_
      refine lv_goto (tgt := 21) hx hb dX13_needs_17 (by decide) ?_
      obtain ⟨σ13, eσ13, hf⟩ := nm_x hf
      refine gp_X13_15 (i := 219) S M (by decide) rfl tw_6_122 (by decide) (by decide) dX13_needs_21 (fun H locs M => ?_)
      rw [← eσ13] at M
      refine lv_aload_n hx hb dX13_needs_24 rfl (lv_at hl 0 rfl) ?_
      refine lv_dup hx hb dX13_needs_25 rfl ?_
      refine gf_X13_14 (i := 219) S M (by decide) rfl tw_6_121 dX13_needs_26 ?_
      refine lv_aload_n hx hb dX13_needs_29 rfl (lv_at hl 0 rfl) ?_
      refine gf_X13_15 (i := 219) S M (by decide) rfl tw_6_122 dX13_needs_30 ?_
      refine lv_if_eq (tgt := 40) hx hb dX13_needs_33 (by decide) (fun c14 => ?_) (fun c14 => ?_)
      · have hf := it_p c14 hf
        refine lv_iconst (v := 1) hx hb dX13_needs_40 (by decide) ?_
        refine lv_iadd hx hb dX13_needs_41 ?_
        obtain ⟨σ15, eσ15, hf⟩ := nm_x hf
        refine gp_X13_14 (i := 219) S M (by decide) rfl tw_6_121 dX13_needs_42 (fun H locs M => ?_)
        rw [← eσ15] at M
        cases hf
        exact g_vret S M hr hlk (by decide) (by decide) dX13_needs_45 rfl
      · have hf := it_n c14 hf
        refine lv_iconst (v := 0) hx hb dX13_needs_36 (by decide) ?_
        refine lv_goto (tgt := 41) hx hb dX13_needs_37 (by decide) ?_
        refine lv_iadd hx hb dX13_needs_41 ?_
        obtain ⟨σ16, eσ16, hf⟩ := nm_x hf
        refine gp_X13_14 (i := 219) S M (by decide) rfl tw_6_121 dX13_needs_42 (fun H locs M => ?_)
        rw [← eσ16] at M
        cases hf
        exact g_vret S M hr hlk (by decide) (by decide) dX13_needs_45 rfl
theorem k_X13_needsThree : gMV yX13_needsThree cX13_needsThree 4 none 3 := ⟨tw_8_1, tw_1_12, by decide⟩
set_option maxHeartbeats 400000 in
set_option maxRecDepth 100000 in
theorem c_X13_needsThree (l : Launch) (G : gT) (sz : Nat) (lo : Int64) (dd : UInt64) (σ : gM) (a1 : Int32) (a2 : Int32) (a3 : Int32) {o : gM} (hf : f_X13_needsThree σ a1 a2 a3 = some o) : gCT l yX13_needsThree cX13_needsThree 4 none { frames := 2, cells := 0, slots := 0, locals := 41 } 0 0 G sz [.ref (G.1 219), .int a1, .int a2, .int a3] lo dd σ (.inl (none, o, lo, dd)) := by
  refine gCT_of (by decide) (Nat.le_of_ble_eq_true rfl) (fun p e s m args below meth c ls S hr hlk hnx hsz C0 hl H locs M => ?_)
  subst hsz
  have hx := S.1
  have hb := S.2.1
  unfold f_X13_needsThree at hf
  refine lv_aload_n hx hb dX13_needsThree_0 rfl (lv_at hl 0 rfl) ?_
  refine lv_iload_n hx hb dX13_needsThree_1 rfl (lv_at hl 1 rfl) ?_
  obtain ⟨σ2, h1, hf⟩ := bd_x hf
  refine g_callR (st1 := []) (cells' := 0) (slots' := 0) M (g_invV (index := 178) S M C0 hl (c_X13_needs l G H.size lo dd σ a1  h1) k_X13_needs tw_8_4 tw_0_56 tw_8_2 (by decide) (ge_13 rfl) rfl rfl rfl rfl rfl rfl dX13_needsThree_2) rfl rfl rfl (fun H locs M => ?_)
  refine lv_aload_n hx hb dX13_needsThree_5 rfl (lv_at hl 0 rfl) ?_
  refine lv_iload_n hx hb dX13_needsThree_6 rfl (lv_at hl 2 rfl) ?_
  obtain ⟨σ4, h3, hf⟩ := bd_x hf
  refine g_callR (st1 := []) (cells' := 0) (slots' := 0) M (g_invV (index := 178) S M C0 hl (c_X13_needs l G H.size lo dd σ2 a2  h3) k_X13_needs tw_8_4 tw_0_56 tw_8_2 (by decide) (ge_13 rfl) rfl rfl rfl rfl rfl rfl dX13_needsThree_7) rfl rfl rfl (fun H locs M => ?_)
  refine lv_aload_n hx hb dX13_needsThree_10 rfl (lv_at hl 0 rfl) ?_
  refine lv_iload_n hx hb dX13_needsThree_11 rfl (lv_at hl 3 rfl) ?_
  obtain ⟨σ6, h5, hf⟩ := bd_x hf
  refine g_callR (st1 := []) (cells' := 0) (slots' := 0) M (g_invV (index := 178) S M C0 hl (c_X13_needs l G H.size lo dd σ4 a3  h5) k_X13_needs tw_8_4 tw_0_56 tw_8_2 (by decide) (ge_13 rfl) rfl rfl rfl rfl rfl rfl dX13_needsThree_12) rfl rfl rfl (fun H locs M => ?_)
  cases hf
  exact g_vret S M hr hlk (by decide) (by decide) dX13_needsThree_15 rfl
theorem k_X13_digitsAfter : gMV yX13_digitsAfter cX13_digitsAfter 5 (some .int) 2 := ⟨tw_8_9, tw_1_12, by decide⟩
set_option maxHeartbeats 400000 in
set_option maxRecDepth 100000 in
theorem w_X13_digitsAfter_L40 {p : Program} {l : Launch} {e : Env} {s : State} {m : MethodId} {args : Array Value} {below : List Frame} {meth : Method} {c : Code} {Q : State → Prop} {G : gT} {lo : Int64} {dd : UInt64} (S : CallFix p m c cX13_digitsAfter 5 s args gTs RX13) (C0 : gCST G (gAA G s.heap.size) s) (p2 : Int32) : ∀ (n : Nat) (v3 : Int32) (v4 : Int32) (σ : gM) (res : Int32 × gM), f_X13_digitsAfter_L40 p2 n v3 v4 σ = some res → ∀ (H : Heap) (locs : List Loc) (ls : Array Slot), gMS G (gAA G s.heap.size) lo dd σ s H locs → lv_has ls 5 [(0, .ref (G.1 219)), (2, .int p2), (3, .int v3), (4, .int v4)] → (k96 : ∀ (u3 : Int32) (τ : gM), res = (u3, τ) → ∀ (H : Heap) (locs : List Loc) (ls : Array Slot), gMS G (gAA G s.heap.size) lo dd τ s H locs → lv_has ls 5 [(3, .int u3)] → W p l e ({ frames := 2, cells := 0, slots := 0, locals := 41 } : Room) s m args below meth c H locs 0 0 Q (F0 m 96 ls [])) → W p l e ({ frames := 2, cells := 0, slots := 0, locals := 41 } : Room) s m args below meth c H locs 0 0 Q (F0 m 40 ls []) := by
  have hx := S.1
  have hb := S.2.1
  intro n
  induction n with
  | zero =>
    intro v3 v4 σ res hf
    cases hf
  | succ n ih =>
    intro v3 v4 σ res hf H locs ls M hl k96
    rw [f_X13_digitsAfter_L40] at hf
    refine lv_aload_n hx hb dX13_digitsAfter_40 rfl (lv_at hl 0 rfl) ?_
    refine gf_X13_15 (i := 219) S M (by decide) rfl tw_6_122 dX13_digitsAfter_41 ?_
    refine lv_if_ne (tgt := 96) hx hb dX13_digitsAfter_44 (by decide) (fun c5 => ?_) (fun c5 => ?_)
    · have hf := it_n c5 hf
      cases hf
      exact k96 _ _ rfl _ _ _ M (lv_sub hl [2] rfl)
    · have hf := it_p c5 hf
      refine lv_iload hx hb dX13_digitsAfter_47 (lv_at hl 3 rfl) ?_
      refine lv_iload_n hx hb dX13_digitsAfter_49 rfl (lv_at hl 1 rfl) ?_
      refine lv_icmp_ge (tgt := 96) hx hb dX13_digitsAfter_50 (by decide) (fun c6 => ?_) (fun c6 => ?_)
      · have hf := it_p c6 hf
        cases hf
        exact k96 _ _ rfl _ _ _ M (lv_sub hl [2] rfl)
      · have hf := it_n c6 hf
        refine lv_aload_n hx hb dX13_digitsAfter_53 rfl (lv_at hl 0 rfl) ?_
        obtain ⟨r8, h7, hf⟩ := bd_x hf
        refine g_callR (st1 := [.int r8]) (cells' := 0) (slots' := 0) M (g_invV (index := 175) S M C0 hl (c_X13_here l G H.size lo dd σ   h7) k_X13_here tw_7_236 tw_0_54 tw_7_234 (by decide) (ge_13 rfl) rfl rfl rfl rfl rfl rfl dX13_digitsAfter_54) rfl rfl rfl (fun H locs M => ?_)
        refine lv_bipush (v := 48) hx hb dX13_digitsAfter_57 (by decide) ?_
        refine lv_bipush (v := 57) hx hb dX13_digitsAfter_59 (by decide) ?_
        obtain ⟨r10, h9, hf⟩ := bd_x hf
        refine g_callR (st1 := [.int r10]) (cells' := 0) (slots' := 0) M (g_invS (index := 52) S M C0 hl (c_X13_in l G H.size lo dd σ r8 48 57  h9) k_X13_in tw_6_182 tw_6_181 rfl rfl rfl rfl dX13_digitsAfter_61) rfl rfl rfl (fun H locs M => ?_)
        refine lv_if_eq (tgt := 96) hx hb dX13_digitsAfter_64 (by decide) (fun c11 => ?_) (fun c11 => ?_)
        · have hf := it_p c11 hf
          cases hf
          exact k96 _ _ rfl _ _ _ M (lv_sub hl [2] rfl)
        · have hf := it_n c11 hf
          refine lv_bipush (v := 10) hx hb dX13_digitsAfter_67 (by decide) ?_
          refine lv_iload_n hx hb dX13_digitsAfter_69 rfl (lv_at hl 2 rfl) ?_
          refine lv_imul hx hb dX13_digitsAfter_70 ?_
          refine lv_aload_n hx hb dX13_digitsAfter_71 rfl (lv_at hl 0 rfl) ?_
          obtain ⟨r13, h12, hf⟩ := bd_x hf
          refine g_callR (st1 := [.int r13, .int (10 * v3)]) (cells' := 0) (slots' := 0) M (g_invV (index := 175) S M C0 hl (c_X13_here l G H.size lo dd σ   h12) k_X13_here tw_7_236 tw_0_54 tw_7_234 (by decide) (ge_13 rfl) rfl rfl rfl rfl rfl rfl dX13_digitsAfter_72) rfl rfl rfl (fun H locs M => ?_)
          refine lv_iadd hx hb dX13_digitsAfter_75 ?_
          refine lv_bipush (v := 48) hx hb dX13_digitsAfter_76 (by decide) ?_
          refine lv_isub hx hb dX13_digitsAfter_78 ?_
          obtain ⟨x14, ex14, hf⟩ := nm_x hf
          refine g_topi ex14 ?_
          refine lv_istore_n (lv' := [(3, .int x14), (0, .ref (G.1 219)), (2, .int p2), (4, .int v4)]) hx hb dX13_digitsAfter_79 rfl hl (by decide) rfl (fun ls hl => ?_)
          refine lv_aload_n hx hb dX13_digitsAfter_80 rfl (lv_at hl 1 rfl) ?_
          refine lv_dup hx hb dX13_digitsAfter_81 rfl ?_
          refine gf_X13_14 (i := 219) S M (by decide) rfl tw_6_121 dX13_digitsAfter_82 ?_
          refine lv_iconst (v := 1) hx hb dX13_digitsAfter_85 (by decide) ?_
          refine lv_iadd hx hb dX13_digitsAfter_86 ?_
          obtain ⟨σ15, eσ15, hf⟩ := nm_x hf
          refine gp_X13_14 (i := 219) S M (by decide) rfl tw_6_121 dX13_digitsAfter_87 (fun H locs M => ?_)
          rw [← eσ15] at M
          obtain ⟨x16, ex16, hf⟩ := nm_x hf
          refine lv_iinc (v := x16) (lv' := [(4, .int x16), (3, .int x14), (0, .ref (G.1 219)), (2, .int p2)]) hx hb dX13_digitsAfter_90 hl (k := 3) rfl (by rw [ex16]; rfl) (by decide) rfl (fun ls hl => ?_)
          refine lv_goto (tgt := 40) hx hb dX13_digitsAfter_93 (by decide) ?_
          exact ih _ _ _ _ hf _ _ _ M (lv_sub hl [2, 3, 1, 0] rfl) k96
set_option maxHeartbeats 400000 in
set_option maxRecDepth 100000 in
theorem c_X13_digitsAfter (l : Launch) (G : gT) (sz : Nat) (lo : Int64) (dd : UInt64) (σ : gM) (a1 : Int32) (a2 : Int32) {r : Int32} {o : gM} (hf : f_X13_digitsAfter σ a1 a2 = some (r, o)) : gCT l yX13_digitsAfter cX13_digitsAfter 5 (some .int) { frames := 2, cells := 0, slots := 0, locals := 41 } 0 0 G sz [.ref (G.1 219), .int a1, .int a2] lo dd σ (.inl (mkI r, o, lo, dd)) := by
  refine gCT_of (by decide) (Nat.le_of_ble_eq_true rfl) (fun p e s m args below meth c ls S hr hlk hnx hsz C0 hl H locs M => ?_)
  subst hsz
  have hx := S.1
  have hb := S.2.1
  unfold f_X13_digitsAfter at hf
  refine lv_aload_n hx hb dX13_digitsAfter_0 rfl (lv_at hl 0 rfl) ?_
  refine lv_iload_n hx hb dX13_digitsAfter_1 rfl (lv_at hl 1 rfl) ?_
  obtain ⟨σ2, h1, hf⟩ := bd_x hf
  refine g_callR (st1 := []) (cells' := 0) (slots' := 0) M (g_invV (index := 178) S M C0 hl (c_X13_needs l G H.size lo dd σ a1  h1) k_X13_needs tw_8_4 tw_0_56 tw_8_2 (by decide) (ge_13 rfl) rfl rfl rfl rfl rfl rfl dX13_digitsAfter_2) rfl rfl rfl (fun H locs M => ?_)
  refine lv_aload_n hx hb dX13_digitsAfter_5 rfl (lv_at hl 0 rfl) ?_
  refine lv_aload_n hx hb dX13_digitsAfter_6 rfl (lv_at hl 0 rfl) ?_
  refine gf_X13_15 (i := 219) S M (by decide) rfl tw_6_122 dX13_digitsAfter_7 ?_
  refine lv_if_ne (tgt := 27) hx hb dX13_digitsAfter_10 (by decide) (fun c3 => ?_) (fun c3 => ?_)
  · have hf := it_n c3 hf
    refine lv_iconst (v := 1) hx hb dX13_digitsAfter_27 (by decide) ?_
    refine lv_goto (tgt := 32) hx hb dX13_digitsAfter_28 (by decide) ?_
    obtain ⟨σ4, eσ4, hf⟩ := nm_x hf
    refine gp_X13_15 (i := 219) S M (by decide) rfl tw_6_122 (by decide) (by decide) dX13_digitsAfter_32 (fun H locs M => ?_)
    rw [← eσ4] at M
    refine lv_iconst (v := 0) hx hb dX13_digitsAfter_35 (by decide) ?_
    refine lv_istore_n (lv' := [(3, .int 0), (0, .ref (G.1 219)), (1, .int a1), (2, .int a2)]) hx hb dX13_digitsAfter_36 rfl hl (by decide) rfl (fun ls hl => ?_)
    refine lv_iconst (v := 0) hx hb dX13_digitsAfter_37 (by decide) ?_
    refine lv_istore (lv' := [(4, .int 0), (3, .int 0), (0, .ref (G.1 219)), (1, .int a1), (2, .int a2)]) hx hb dX13_digitsAfter_38 hl (by decide) rfl (fun ls hl => ?_)
    obtain ⟨y18, σ19, h17, hf⟩ := bd2_x hf
    refine w_X13_digitsAfter_L40 S C0 a2 gFU 0 0 σ4 _ h17 _ _ _ M (lv_sub hl [2, 4, 1, 0] rfl) (fun _ _ eq H locs ls M hl => ?_)
    cases eq
    refine lv_iload_n hx hb dX13_digitsAfter_96 rfl (lv_at hl 0 rfl) ?_
    cases hf
    exact g_iret S M hr hlk (by decide) (by decide) dX13_digitsAfter_97 rfl
  · have hf := it_p c3 hf
    refine lv_aload_n hx hb dX13_digitsAfter_13 rfl (lv_at hl 0 rfl) ?_
    obtain ⟨r21, h20, hf⟩ := bd_x hf
    refine g_callR (st1 := [.int r21, .ref (G.1 219)]) (cells' := 0) (slots' := 0) M (g_invV (index := 175) S M C0 hl (c_X13_here l G H.size lo dd σ2   h20) k_X13_here tw_7_236 tw_0_54 tw_7_234 (by decide) (ge_13 rfl) rfl rfl rfl rfl rfl rfl dX13_digitsAfter_14) rfl rfl rfl (fun H locs M => ?_)
    refine lv_bipush (v := 48) hx hb dX13_digitsAfter_17 (by decide) ?_
    refine lv_bipush (v := 57) hx hb dX13_digitsAfter_19 (by decide) ?_
    obtain ⟨r23, h22, hf⟩ := bd_x hf
    refine g_callR (st1 := [.int r23, .ref (G.1 219)]) (cells' := 0) (slots' := 0) M (g_invS (index := 52) S M C0 hl (c_X13_in l G H.size lo dd σ2 r21 48 57  h22) k_X13_in tw_6_182 tw_6_181 rfl rfl rfl rfl dX13_digitsAfter_21) rfl rfl rfl (fun H locs M => ?_)
    refine lv_if_ne (tgt := 31) hx hb dX13_digitsAfter_24 (by decide) (fun c24 => ?_) (fun c24 => ?_)
    · have hf := it_n c24 hf
      refine lv_iconst (v := 0) hx hb dX13_digitsAfter_31 (by decide) ?_
      obtain ⟨σ25, eσ25, hf⟩ := nm_x hf
      refine gp_X13_15 (i := 219) S M (by decide) rfl tw_6_122 (by decide) (by decide) dX13_digitsAfter_32 (fun H locs M => ?_)
      rw [← eσ25] at M
      refine lv_iconst (v := 0) hx hb dX13_digitsAfter_35 (by decide) ?_
      refine lv_istore_n (lv' := [(3, .int 0), (0, .ref (G.1 219)), (1, .int a1), (2, .int a2)]) hx hb dX13_digitsAfter_36 rfl hl (by decide) rfl (fun ls hl => ?_)
      refine lv_iconst (v := 0) hx hb dX13_digitsAfter_37 (by decide) ?_
      refine lv_istore (lv' := [(4, .int 0), (3, .int 0), (0, .ref (G.1 219)), (1, .int a1), (2, .int a2)]) hx hb dX13_digitsAfter_38 hl (by decide) rfl (fun ls hl => ?_)
      obtain ⟨y27, σ28, h26, hf⟩ := bd2_x hf
      refine w_X13_digitsAfter_L40 S C0 a2 gFU 0 0 σ25 _ h26 _ _ _ M (lv_sub hl [2, 4, 1, 0] rfl) (fun _ _ eq H locs ls M hl => ?_)
      cases eq
      refine lv_iload_n hx hb dX13_digitsAfter_96 rfl (lv_at hl 0 rfl) ?_
      cases hf
      exact g_iret S M hr hlk (by decide) (by decide) dX13_digitsAfter_97 rfl
    · have hf := it_p c24 hf
      refine lv_iconst (v := 1) hx hb dX13_digitsAfter_27 (by decide) ?_
      refine lv_goto (tgt := 32) hx hb dX13_digitsAfter_28 (by decide) ?_
      obtain ⟨σ29, eσ29, hf⟩ := nm_x hf
      refine gp_X13_15 (i := 219) S M (by decide) rfl tw_6_122 (by decide) (by decide) dX13_digitsAfter_32 (fun H locs M => ?_)
      rw [← eσ29] at M
      refine lv_iconst (v := 0) hx hb dX13_digitsAfter_35 (by decide) ?_
      refine lv_istore_n (lv' := [(3, .int 0), (0, .ref (G.1 219)), (1, .int a1), (2, .int a2)]) hx hb dX13_digitsAfter_36 rfl hl (by decide) rfl (fun ls hl => ?_)
      refine lv_iconst (v := 0) hx hb dX13_digitsAfter_37 (by decide) ?_
      refine lv_istore (lv' := [(4, .int 0), (3, .int 0), (0, .ref (G.1 219)), (1, .int a1), (2, .int a2)]) hx hb dX13_digitsAfter_38 hl (by decide) rfl (fun ls hl => ?_)
      obtain ⟨y31, σ32, h30, hf⟩ := bd2_x hf
      refine w_X13_digitsAfter_L40 S C0 a2 gFU 0 0 σ29 _ h30 _ _ _ M (lv_sub hl [2, 4, 1, 0] rfl) (fun _ _ eq H locs ls M hl => ?_)
      cases eq
      refine lv_iload_n hx hb dX13_digitsAfter_96 rfl (lv_at hl 0 rfl) ?_
      cases hf
      exact g_iret S M hr hlk (by decide) (by decide) dX13_digitsAfter_97 rfl
theorem k_X13_parsesP : gMV yX13_parsesP cX13_parsesP 2 none 1 := ⟨tw_8_13, tw_1_12, by decide⟩
set_option maxHeartbeats 400000 in
set_option maxRecDepth 100000 in
theorem c_X13_parsesP (l : Launch) (G : gT) (sz : Nat) (lo : Int64) (dd : UInt64) (σ : gM) (a1 : Int32) {o : gM} (hf : f_X13_parsesP σ a1 = some o) : gCT l yX13_parsesP cX13_parsesP 2 none { frames := 3, cells := 0, slots := 0, locals := 65 } 0 0 G sz [.ref (G.1 219), .int a1] lo dd σ (.inl (none, o, lo, dd)) := by
  refine gCT_of (by decide) (Nat.le_of_ble_eq_true rfl) (fun p e s m args below meth c ls S hr hlk hnx hsz C0 hl H locs M => ?_)
  subst hsz
  have hx := S.1
  have hb := S.2.1
  unfold f_X13_parsesP at hf
  refine lv_aload_n hx hb dX13_parsesP_0 rfl (lv_at hl 0 rfl) ?_
  obtain ⟨r2, h1, hf⟩ := bd_x hf
  refine g_callR (st1 := [.int r2]) (cells' := 0) (slots' := 0) M (g_invV (index := 175) S M C0 hl (c_X13_here l G H.size lo dd σ   h1) k_X13_here tw_7_236 tw_0_54 tw_7_234 (by decide) (ge_13 rfl) rfl rfl rfl rfl rfl rfl dX13_parsesP_1) rfl rfl rfl (fun H locs M => ?_)
  refine lv_bipush (v := 117) hx hb dX13_parsesP_4 (by decide) ?_
  refine lv_icmp_ne (tgt := 62) hx hb dX13_parsesP_6 (by decide) (fun c3 => ?_) (fun c3 => ?_)
  · have hf := it_n c3 hf
    refine lv_aload_n hx hb dX13_parsesP_62 rfl (lv_at hl 0 rfl) ?_
    refine lv_bipush (v := 97) hx hb dX13_parsesP_63 (by decide) ?_
    refine lv_bipush (v := 114) hx hb dX13_parsesP_65 (by decide) ?_
    refine lv_bipush (v := 99) hx hb dX13_parsesP_67 (by decide) ?_
    obtain ⟨σ5, h4, hf⟩ := bd_x hf
    refine g_callR (st1 := []) (cells' := 0) (slots' := 0) M (g_invV (index := 184) S M C0 hl (c_X13_needsThree l G H.size lo dd σ 97 114 99  h4) k_X13_needsThree tw_8_0 tw_0_55 tw_7_238 (by decide) (ge_13 rfl) rfl rfl rfl rfl rfl rfl dX13_parsesP_69) rfl rfl rfl (fun H locs M => ?_)
    refine lv_aload_n hx hb dX13_parsesP_72 rfl (lv_at hl 0 rfl) ?_
    refine lv_bipush (v := 101) hx hb dX13_parsesP_73 (by decide) ?_
    obtain ⟨σ7, h6, hf⟩ := bd_x hf
    refine g_callR (st1 := []) (cells' := 0) (slots' := 0) M (g_invV (index := 178) S M C0 hl (c_X13_needs l G H.size lo dd σ5 101  h6) k_X13_needs tw_8_4 tw_0_56 tw_8_2 (by decide) (ge_13 rfl) rfl rfl rfl rfl rfl rfl dX13_parsesP_75) rfl rfl rfl (fun H locs M => ?_)
    refine lv_aload_n hx hb dX13_parsesP_78 rfl (lv_at hl 0 rfl) ?_
    refine lv_bipush (v := 108) hx hb dX13_parsesP_79 (by decide) ?_
    obtain ⟨σ9, h8, hf⟩ := bd_x hf
    refine g_callR (st1 := []) (cells' := 0) (slots' := 0) M (g_invV (index := 178) S M C0 hl (c_X13_needs l G H.size lo dd σ7 108  h8) k_X13_needs tw_8_4 tw_0_56 tw_8_2 (by decide) (ge_13 rfl) rfl rfl rfl rfl rfl rfl dX13_parsesP_81) rfl rfl rfl (fun H locs M => ?_)
    refine lv_aload_n hx hb dX13_parsesP_84 rfl (lv_at hl 0 rfl) ?_
    refine gf_X13_16 (i := 219) S M (by decide) rfl tw_6_123 dX13_parsesP_85 ?_
    refine lv_iload_n hx hb dX13_parsesP_88 rfl (lv_at hl 1 rfl) ?_
    refine lv_iconst (v := 1) hx hb dX13_parsesP_89 (by decide) ?_
    refine lv_iadd hx hb dX13_parsesP_90 ?_
    refine lv_aload_n hx hb dX13_parsesP_91 rfl (lv_at hl 0 rfl) ?_
    refine lv_bipush (v := 32) hx hb dX13_parsesP_92 (by decide) ?_
    refine lv_iconst (v := 2) hx hb dX13_parsesP_94 (by decide) ?_
    obtain ⟨r11, σ12, h10, hf⟩ := bd2_x hf
    refine g_callR (st1 := [.int r11, .int (a1 + 1), .ref (G.1 227)]) (cells' := 0) (slots' := 0) M (g_invV (index := 181) S M C0 hl (c_X13_digitsAfter l G H.size lo dd σ9 32 2  h10) k_X13_digitsAfter tw_8_8 tw_0_57 tw_8_6 (by decide) (ge_13 rfl) rfl rfl rfl rfl rfl rfl dX13_parsesP_95) rfl rfl rfl (fun H locs M => ?_)
    obtain ⟨h13, hf⟩ := gi_x hf
    obtain ⟨σ14, eσ14, hf⟩ := nm_x hf
    refine gk_iast (i := 227) (k := (a1 + 1).toNatClampNeg) S M (by decide) (fun _ => (gaa_240 rfl)) h13 rfl dX13_parsesP_98 (fun H locs M => ?_)
    rw [← eσ14] at M
    refine lv_aload_n hx hb dX13_parsesP_99 rfl (lv_at hl 0 rfl) ?_
    refine gf_X13_16 (i := 219) S M (by decide) rfl tw_6_123 dX13_parsesP_100 ?_
    refine lv_iload_n hx hb dX13_parsesP_103 rfl (lv_at hl 1 rfl) ?_
    refine lv_iconst (v := 2) hx hb dX13_parsesP_104 (by decide) ?_
    refine lv_iadd hx hb dX13_parsesP_105 ?_
    refine lv_aload_n hx hb dX13_parsesP_106 rfl (lv_at hl 0 rfl) ?_
    refine lv_bipush (v := 32) hx hb dX13_parsesP_107 (by decide) ?_
    refine lv_iconst (v := 1) hx hb dX13_parsesP_109 (by decide) ?_
    obtain ⟨r16, σ17, h15, hf⟩ := bd2_x hf
    refine g_callR (st1 := [.int r16, .int (a1 + 2), .ref (G.1 227)]) (cells' := 0) (slots' := 0) M (g_invV (index := 181) S M C0 hl (c_X13_digitsAfter l G H.size lo dd σ14 32 1  h15) k_X13_digitsAfter tw_8_8 tw_0_57 tw_8_6 (by decide) (ge_13 rfl) rfl rfl rfl rfl rfl rfl dX13_parsesP_110) rfl rfl rfl (fun H locs M => ?_)
    obtain ⟨h18, hf⟩ := gi_x hf
    obtain ⟨σ19, eσ19, hf⟩ := nm_x hf
    refine gk_iast (i := 227) (k := (a1 + 2).toNatClampNeg) S M (by decide) (fun _ => (gaa_240 rfl)) h18 rfl dX13_parsesP_113 (fun H locs M => ?_)
    rw [← eσ19] at M
    refine lv_aload_n hx hb dX13_parsesP_114 rfl (lv_at hl 0 rfl) ?_
    refine gf_X13_16 (i := 219) S M (by decide) rfl tw_6_123 dX13_parsesP_115 ?_
    refine lv_iload_n hx hb dX13_parsesP_118 rfl (lv_at hl 1 rfl) ?_
    refine lv_iconst (v := 3) hx hb dX13_parsesP_119 (by decide) ?_
    refine lv_iadd hx hb dX13_parsesP_120 ?_
    refine lv_aload_n hx hb dX13_parsesP_121 rfl (lv_at hl 0 rfl) ?_
    refine lv_bipush (v := 32) hx hb dX13_parsesP_122 (by decide) ?_
    refine lv_iconst (v := 1) hx hb dX13_parsesP_124 (by decide) ?_
    obtain ⟨r21, σ22, h20, hf⟩ := bd2_x hf
    refine g_callR (st1 := [.int r21, .int (a1 + 3), .ref (G.1 227)]) (cells' := 0) (slots' := 0) M (g_invV (index := 181) S M C0 hl (c_X13_digitsAfter l G H.size lo dd σ19 32 1  h20) k_X13_digitsAfter tw_8_8 tw_0_57 tw_8_6 (by decide) (ge_13 rfl) rfl rfl rfl rfl rfl rfl dX13_parsesP_125) rfl rfl rfl (fun H locs M => ?_)
    obtain ⟨h23, hf⟩ := gi_x hf
    obtain ⟨σ24, eσ24, hf⟩ := nm_x hf
    refine gk_iast (i := 227) (k := (a1 + 3).toNatClampNeg) S M (by decide) (fun _ => (gaa_240 rfl)) h23 rfl dX13_parsesP_128 (fun H locs M => ?_)
    rw [← eσ24] at M
    cases hf
    exact g_vret S M hr hlk (by decide) (by decide) dX13_parsesP_129 rfl
  · have hf := it_p c3 hf
    refine lv_aload_n hx hb dX13_parsesP_9 rfl (lv_at hl 0 rfl) ?_
    refine gf_X13_16 (i := 219) S M (by decide) rfl tw_6_123 dX13_parsesP_10 ?_
    refine lv_iload_n hx hb dX13_parsesP_13 rfl (lv_at hl 1 rfl) ?_
    refine lv_bipush (v := 117) hx hb dX13_parsesP_14 (by decide) ?_
    obtain ⟨h25, hf⟩ := gi_x hf
    obtain ⟨σ26, eσ26, hf⟩ := nm_x hf
    refine gk_iast (i := 227) (k := a1.toNatClampNeg) S M (by decide) (fun _ => (gaa_240 rfl)) h25 rfl dX13_parsesP_16 (fun H locs M => ?_)
    rw [← eσ26] at M
    refine lv_aload_n hx hb dX13_parsesP_17 rfl (lv_at hl 0 rfl) ?_
    refine lv_bipush (v := 117) hx hb dX13_parsesP_18 (by decide) ?_
    obtain ⟨σ28, h27, hf⟩ := bd_x hf
    refine g_callR (st1 := []) (cells' := 0) (slots' := 0) M (g_invV (index := 178) S M C0 hl (c_X13_needs l G H.size lo dd σ26 117  h27) k_X13_needs tw_8_4 tw_0_56 tw_8_2 (by decide) (ge_13 rfl) rfl rfl rfl rfl rfl rfl dX13_parsesP_20) rfl rfl rfl (fun H locs M => ?_)
    refine lv_aload_n hx hb dX13_parsesP_23 rfl (lv_at hl 0 rfl) ?_
    refine lv_bipush (v := 116) hx hb dX13_parsesP_24 (by decide) ?_
    obtain ⟨σ30, h29, hf⟩ := bd_x hf
    refine g_callR (st1 := []) (cells' := 0) (slots' := 0) M (g_invV (index := 178) S M C0 hl (c_X13_needs l G H.size lo dd σ28 116  h29) k_X13_needs tw_8_4 tw_0_56 tw_8_2 (by decide) (ge_13 rfl) rfl rfl rfl rfl rfl rfl dX13_parsesP_26) rfl rfl rfl (fun H locs M => ?_)
    refine lv_aload_n hx hb dX13_parsesP_29 rfl (lv_at hl 0 rfl) ?_
    refine gf_X13_16 (i := 219) S M (by decide) rfl tw_6_123 dX13_parsesP_30 ?_
    refine lv_iload_n hx hb dX13_parsesP_33 rfl (lv_at hl 1 rfl) ?_
    refine lv_iconst (v := 1) hx hb dX13_parsesP_34 (by decide) ?_
    refine lv_iadd hx hb dX13_parsesP_35 ?_
    refine lv_aload_n hx hb dX13_parsesP_36 rfl (lv_at hl 0 rfl) ?_
    refine lv_bipush (v := 32) hx hb dX13_parsesP_37 (by decide) ?_
    refine lv_iconst (v := 2) hx hb dX13_parsesP_39 (by decide) ?_
    obtain ⟨r32, σ33, h31, hf⟩ := bd2_x hf
    refine g_callR (st1 := [.int r32, .int (a1 + 1), .ref (G.1 227)]) (cells' := 0) (slots' := 0) M (g_invV (index := 181) S M C0 hl (c_X13_digitsAfter l G H.size lo dd σ30 32 2  h31) k_X13_digitsAfter tw_8_8 tw_0_57 tw_8_6 (by decide) (ge_13 rfl) rfl rfl rfl rfl rfl rfl dX13_parsesP_40) rfl rfl rfl (fun H locs M => ?_)
    obtain ⟨h34, hf⟩ := gi_x hf
    obtain ⟨σ35, eσ35, hf⟩ := nm_x hf
    refine gk_iast (i := 227) (k := (a1 + 1).toNatClampNeg) S M (by decide) (fun _ => (gaa_240 rfl)) h34 rfl dX13_parsesP_43 (fun H locs M => ?_)
    rw [← eσ35] at M
    refine lv_aload_n hx hb dX13_parsesP_44 rfl (lv_at hl 0 rfl) ?_
    refine gf_X13_16 (i := 219) S M (by decide) rfl tw_6_123 dX13_parsesP_45 ?_
    refine lv_iload_n hx hb dX13_parsesP_48 rfl (lv_at hl 1 rfl) ?_
    refine lv_iconst (v := 2) hx hb dX13_parsesP_49 (by decide) ?_
    refine lv_iadd hx hb dX13_parsesP_50 ?_
    refine lv_aload_n hx hb dX13_parsesP_51 rfl (lv_at hl 0 rfl) ?_
    refine lv_bipush (v := 32) hx hb dX13_parsesP_52 (by decide) ?_
    refine lv_iconst (v := 1) hx hb dX13_parsesP_54 (by decide) ?_
    obtain ⟨r37, σ38, h36, hf⟩ := bd2_x hf
    refine g_callR (st1 := [.int r37, .int (a1 + 2), .ref (G.1 227)]) (cells' := 0) (slots' := 0) M (g_invV (index := 181) S M C0 hl (c_X13_digitsAfter l G H.size lo dd σ35 32 1  h36) k_X13_digitsAfter tw_8_8 tw_0_57 tw_8_6 (by decide) (ge_13 rfl) rfl rfl rfl rfl rfl rfl dX13_parsesP_55) rfl rfl rfl (fun H locs M => ?_)
    obtain ⟨h39, hf⟩ := gi_x hf
    obtain ⟨σ40, eσ40, hf⟩ := nm_x hf
    refine gk_iast (i := 227) (k := (a1 + 2).toNatClampNeg) S M (by decide) (fun _ => (gaa_240 rfl)) h39 rfl dX13_parsesP_58 (fun H locs M => ?_)
    rw [← eσ40] at M
    refine lv_goto (tgt := 129) hx hb dX13_parsesP_59 (by decide) ?_
    cases hf
    exact g_vret S M hr hlk (by decide) (by decide) dX13_parsesP_129 rfl
theorem k_X13_parsesCommand : gMV yX13_parsesCommand cX13_parsesCommand 3 none 1 := ⟨tw_7_233, tw_1_12, by decide⟩
set_option maxHeartbeats 400000 in
set_option maxRecDepth 100000 in
theorem c_X13_parsesCommand (l : Launch) (G : gT) (sz : Nat) (lo : Int64) (dd : UInt64) (σ : gM) (a1 : Int32) {o : gM} (hf : f_X13_parsesCommand σ a1 = some o) : gCT l yX13_parsesCommand cX13_parsesCommand 3 none { frames := 4, cells := 0, slots := 0, locals := 86 } 0 0 G sz [.ref (G.1 219), .int a1] lo dd σ (.inl (none, o, lo, dd)) := by
  refine gCT_of (by decide) (Nat.le_of_ble_eq_true rfl) (fun p e s m args below meth c ls S hr hlk hnx hsz C0 hl H locs M => ?_)
  subst hsz
  have hx := S.1
  have hb := S.2.1
  unfold f_X13_parsesCommand at hf
  refine lv_aload_n hx hb dX13_parsesCommand_0 rfl (lv_at hl 0 rfl) ?_
  obtain ⟨r2, h1, hf⟩ := bd_x hf
  refine g_callR (st1 := [.int r2]) (cells' := 0) (slots' := 0) M (g_invV (index := 175) S M C0 hl (c_X13_here l G H.size lo dd σ   h1) k_X13_here tw_7_236 tw_0_54 tw_7_234 (by decide) (ge_13 rfl) rfl rfl rfl rfl rfl rfl dX13_parsesCommand_1) rfl rfl rfl (fun H locs M => ?_)
  refine lv_istore_n (lv' := [(2, .int r2), (0, .ref (G.1 219)), (1, .int a1)]) hx hb dX13_parsesCommand_4 rfl hl (by decide) rfl (fun ls hl => ?_)
  refine lv_aload_n hx hb dX13_parsesCommand_5 rfl (lv_at hl 1 rfl) ?_
  refine lv_dup hx hb dX13_parsesCommand_6 rfl ?_
  refine gf_X13_14 (i := 219) S M (by decide) rfl tw_6_121 dX13_parsesCommand_7 ?_
  refine lv_iconst (v := 1) hx hb dX13_parsesCommand_10 (by decide) ?_
  refine lv_iadd hx hb dX13_parsesCommand_11 ?_
  obtain ⟨σ3, eσ3, hf⟩ := nm_x hf
  refine gp_X13_14 (i := 219) S M (by decide) rfl tw_6_121 dX13_parsesCommand_12 (fun H locs M => ?_)
  rw [← eσ3] at M
  refine lv_aload_n hx hb dX13_parsesCommand_15 rfl (lv_at hl 1 rfl) ?_
  refine gf_X13_16 (i := 219) S M (by decide) rfl tw_6_123 dX13_parsesCommand_16 ?_
  refine lv_iload_n hx hb dX13_parsesCommand_19 rfl (lv_at hl 2 rfl) ?_
  refine lv_iload_n hx hb dX13_parsesCommand_20 rfl (lv_at hl 0 rfl) ?_
  obtain ⟨h4, hf⟩ := gi_x hf
  obtain ⟨σ5, eσ5, hf⟩ := nm_x hf
  refine gk_iast (i := 227) (k := a1.toNatClampNeg) S M (by decide) (fun _ => (gaa_240 rfl)) h4 rfl dX13_parsesCommand_21 (fun H locs M => ?_)
  rw [← eσ5] at M
  refine lv_iload_n hx hb dX13_parsesCommand_22 rfl (lv_at hl 0 rfl) ?_
  by_cases c6 : r2 = 98
  · have hf := it_p c6 hf
    refine g_top c6 ?_
    refine lv_tableIn (off := 260) (tgt := 283) hx hb dX13_parsesCommand_23 (by decide) (by decide) rfl (by decide) ?_
    refine lv_aload_n hx hb dX13_parsesCommand_283 rfl (lv_at hl 1 rfl) ?_
    refine lv_bipush (v := 97) hx hb dX13_parsesCommand_284 (by decide) ?_
    refine lv_bipush (v := 99) hx hb dX13_parsesCommand_286 (by decide) ?_
    refine lv_bipush (v := 107) hx hb dX13_parsesCommand_288 (by decide) ?_
    obtain ⟨σ8, h7, hf⟩ := bd_x hf
    refine g_callR (st1 := []) (cells' := 0) (slots' := 0) M (g_invV (index := 184) S M C0 hl (c_X13_needsThree l G H.size lo dd σ5 97 99 107  h7) k_X13_needsThree tw_8_0 tw_0_55 tw_7_238 (by decide) (ge_13 rfl) rfl rfl rfl rfl rfl rfl dX13_parsesCommand_290) rfl rfl rfl (fun H locs M => ?_)
    refine lv_aload_n hx hb dX13_parsesCommand_293 rfl (lv_at hl 1 rfl) ?_
    refine gf_X13_16 (i := 219) S M (by decide) rfl tw_6_123 dX13_parsesCommand_294 ?_
    refine lv_iload_n hx hb dX13_parsesCommand_297 rfl (lv_at hl 2 rfl) ?_
    refine lv_iconst (v := 1) hx hb dX13_parsesCommand_298 (by decide) ?_
    refine lv_iadd hx hb dX13_parsesCommand_299 ?_
    refine lv_aload_n hx hb dX13_parsesCommand_300 rfl (lv_at hl 1 rfl) ?_
    refine lv_bipush (v := 32) hx hb dX13_parsesCommand_301 (by decide) ?_
    refine lv_iconst (v := 2) hx hb dX13_parsesCommand_303 (by decide) ?_
    obtain ⟨r10, σ11, h9, hf⟩ := bd2_x hf
    refine g_callR (st1 := [.int r10, .int (a1 + 1), .ref (G.1 227)]) (cells' := 0) (slots' := 0) M (g_invV (index := 181) S M C0 hl (c_X13_digitsAfter l G H.size lo dd σ8 32 2  h9) k_X13_digitsAfter tw_8_8 tw_0_57 tw_8_6 (by decide) (ge_13 rfl) rfl rfl rfl rfl rfl rfl dX13_parsesCommand_304) rfl rfl rfl (fun H locs M => ?_)
    obtain ⟨h12, hf⟩ := gi_x hf
    obtain ⟨σ13, eσ13, hf⟩ := nm_x hf
    refine gk_iast (i := 227) (k := (a1 + 1).toNatClampNeg) S M (by decide) (fun _ => (gaa_240 rfl)) h12 rfl dX13_parsesCommand_307 (fun H locs M => ?_)
    rw [← eσ13] at M
    refine lv_goto (tgt := 326) hx hb dX13_parsesCommand_308 (by decide) ?_
    cases hf
    exact g_vret S M hr hlk (by decide) (by decide) dX13_parsesCommand_326 rfl
  · have hf := it_n c6 hf
    by_cases c14 : r2 = 99
    · have hf := it_p c14 hf
      refine g_top c14 ?_
      refine lv_tableIn (off := 211) (tgt := 234) hx hb dX13_parsesCommand_23 (by decide) (by decide) rfl (by decide) ?_
      refine lv_aload_n hx hb dX13_parsesCommand_234 rfl (lv_at hl 1 rfl) ?_
      refine lv_bipush (v := 97) hx hb dX13_parsesCommand_235 (by decide) ?_
      refine lv_bipush (v := 114) hx hb dX13_parsesCommand_237 (by decide) ?_
      refine lv_bipush (v := 114) hx hb dX13_parsesCommand_239 (by decide) ?_
      obtain ⟨σ16, h15, hf⟩ := bd_x hf
      refine g_callR (st1 := []) (cells' := 0) (slots' := 0) M (g_invV (index := 184) S M C0 hl (c_X13_needsThree l G H.size lo dd σ5 97 114 114  h15) k_X13_needsThree tw_8_0 tw_0_55 tw_7_238 (by decide) (ge_13 rfl) rfl rfl rfl rfl rfl rfl dX13_parsesCommand_241) rfl rfl rfl (fun H locs M => ?_)
      refine lv_aload_n hx hb dX13_parsesCommand_244 rfl (lv_at hl 1 rfl) ?_
      refine lv_bipush (v := 121) hx hb dX13_parsesCommand_245 (by decide) ?_
      obtain ⟨σ18, h17, hf⟩ := bd_x hf
      refine g_callR (st1 := []) (cells' := 0) (slots' := 0) M (g_invV (index := 178) S M C0 hl (c_X13_needs l G H.size lo dd σ16 121  h17) k_X13_needs tw_8_4 tw_0_56 tw_8_2 (by decide) (ge_13 rfl) rfl rfl rfl rfl rfl rfl dX13_parsesCommand_247) rfl rfl rfl (fun H locs M => ?_)
      refine lv_aload_n hx hb dX13_parsesCommand_250 rfl (lv_at hl 1 rfl) ?_
      refine gf_X13_16 (i := 219) S M (by decide) rfl tw_6_123 dX13_parsesCommand_251 ?_
      refine lv_iload_n hx hb dX13_parsesCommand_254 rfl (lv_at hl 2 rfl) ?_
      refine lv_iconst (v := 1) hx hb dX13_parsesCommand_255 (by decide) ?_
      refine lv_iadd hx hb dX13_parsesCommand_256 ?_
      refine lv_aload_n hx hb dX13_parsesCommand_257 rfl (lv_at hl 1 rfl) ?_
      refine lv_bipush (v := 32) hx hb dX13_parsesCommand_258 (by decide) ?_
      refine lv_iconst (v := 1) hx hb dX13_parsesCommand_260 (by decide) ?_
      obtain ⟨r20, σ21, h19, hf⟩ := bd2_x hf
      refine g_callR (st1 := [.int r20, .int (a1 + 1), .ref (G.1 227)]) (cells' := 0) (slots' := 0) M (g_invV (index := 181) S M C0 hl (c_X13_digitsAfter l G H.size lo dd σ18 32 1  h19) k_X13_digitsAfter tw_8_8 tw_0_57 tw_8_6 (by decide) (ge_13 rfl) rfl rfl rfl rfl rfl rfl dX13_parsesCommand_261) rfl rfl rfl (fun H locs M => ?_)
      obtain ⟨h22, hf⟩ := gi_x hf
      obtain ⟨σ23, eσ23, hf⟩ := nm_x hf
      refine gk_iast (i := 227) (k := (a1 + 1).toNatClampNeg) S M (by decide) (fun _ => (gaa_240 rfl)) h22 rfl dX13_parsesCommand_264 (fun H locs M => ?_)
      rw [← eσ23] at M
      refine lv_aload_n hx hb dX13_parsesCommand_265 rfl (lv_at hl 1 rfl) ?_
      refine gf_X13_16 (i := 219) S M (by decide) rfl tw_6_123 dX13_parsesCommand_266 ?_
      refine lv_iload_n hx hb dX13_parsesCommand_269 rfl (lv_at hl 2 rfl) ?_
      refine lv_iconst (v := 2) hx hb dX13_parsesCommand_270 (by decide) ?_
      refine lv_iadd hx hb dX13_parsesCommand_271 ?_
      refine lv_aload_n hx hb dX13_parsesCommand_272 rfl (lv_at hl 1 rfl) ?_
      refine lv_bipush (v := 32) hx hb dX13_parsesCommand_273 (by decide) ?_
      refine lv_iconst (v := 1) hx hb dX13_parsesCommand_275 (by decide) ?_
      obtain ⟨r25, σ26, h24, hf⟩ := bd2_x hf
      refine g_callR (st1 := [.int r25, .int (a1 + 2), .ref (G.1 227)]) (cells' := 0) (slots' := 0) M (g_invV (index := 181) S M C0 hl (c_X13_digitsAfter l G H.size lo dd σ23 32 1  h24) k_X13_digitsAfter tw_8_8 tw_0_57 tw_8_6 (by decide) (ge_13 rfl) rfl rfl rfl rfl rfl rfl dX13_parsesCommand_276) rfl rfl rfl (fun H locs M => ?_)
      obtain ⟨h27, hf⟩ := gi_x hf
      obtain ⟨σ28, eσ28, hf⟩ := nm_x hf
      refine gk_iast (i := 227) (k := (a1 + 2).toNatClampNeg) S M (by decide) (fun _ => (gaa_240 rfl)) h27 rfl dX13_parsesCommand_279 (fun H locs M => ?_)
      rw [← eσ28] at M
      refine lv_goto (tgt := 326) hx hb dX13_parsesCommand_280 (by decide) ?_
      cases hf
      exact g_vret S M hr hlk (by decide) (by decide) dX13_parsesCommand_326 rfl
    · have hf := it_n c14 hf
      by_cases c29 : r2 = 103
      · have hf := it_p c29 hf
        refine g_top c29 ?_
        refine lv_tableIn (off := 147) (tgt := 170) hx hb dX13_parsesCommand_23 (by decide) (by decide) rfl (by decide) ?_
        refine lv_aload_n hx hb dX13_parsesCommand_170 rfl (lv_at hl 1 rfl) ?_
        refine lv_bipush (v := 108) hx hb dX13_parsesCommand_171 (by decide) ?_
        refine lv_bipush (v := 111) hx hb dX13_parsesCommand_173 (by decide) ?_
        refine lv_bipush (v := 118) hx hb dX13_parsesCommand_175 (by decide) ?_
        obtain ⟨σ31, h30, hf⟩ := bd_x hf
        refine g_callR (st1 := []) (cells' := 0) (slots' := 0) M (g_invV (index := 184) S M C0 hl (c_X13_needsThree l G H.size lo dd σ5 108 111 118  h30) k_X13_needsThree tw_8_0 tw_0_55 tw_7_238 (by decide) (ge_13 rfl) rfl rfl rfl rfl rfl rfl dX13_parsesCommand_177) rfl rfl rfl (fun H locs M => ?_)
        refine lv_aload_n hx hb dX13_parsesCommand_180 rfl (lv_at hl 1 rfl) ?_
        refine lv_bipush (v := 101) hx hb dX13_parsesCommand_181 (by decide) ?_
        obtain ⟨σ33, h32, hf⟩ := bd_x hf
        refine g_callR (st1 := []) (cells' := 0) (slots' := 0) M (g_invV (index := 178) S M C0 hl (c_X13_needs l G H.size lo dd σ31 101  h32) k_X13_needs tw_8_4 tw_0_56 tw_8_2 (by decide) (ge_13 rfl) rfl rfl rfl rfl rfl rfl dX13_parsesCommand_183) rfl rfl rfl (fun H locs M => ?_)
        refine lv_aload_n hx hb dX13_parsesCommand_186 rfl (lv_at hl 1 rfl) ?_
        refine gf_X13_16 (i := 219) S M (by decide) rfl tw_6_123 dX13_parsesCommand_187 ?_
        refine lv_iload_n hx hb dX13_parsesCommand_190 rfl (lv_at hl 2 rfl) ?_
        refine lv_iconst (v := 1) hx hb dX13_parsesCommand_191 (by decide) ?_
        refine lv_iadd hx hb dX13_parsesCommand_192 ?_
        refine lv_aload_n hx hb dX13_parsesCommand_193 rfl (lv_at hl 1 rfl) ?_
        refine lv_bipush (v := 32) hx hb dX13_parsesCommand_194 (by decide) ?_
        refine lv_iconst (v := 1) hx hb dX13_parsesCommand_196 (by decide) ?_
        obtain ⟨r35, σ36, h34, hf⟩ := bd2_x hf
        refine g_callR (st1 := [.int r35, .int (a1 + 1), .ref (G.1 227)]) (cells' := 0) (slots' := 0) M (g_invV (index := 181) S M C0 hl (c_X13_digitsAfter l G H.size lo dd σ33 32 1  h34) k_X13_digitsAfter tw_8_8 tw_0_57 tw_8_6 (by decide) (ge_13 rfl) rfl rfl rfl rfl rfl rfl dX13_parsesCommand_197) rfl rfl rfl (fun H locs M => ?_)
        obtain ⟨h37, hf⟩ := gi_x hf
        obtain ⟨σ38, eσ38, hf⟩ := nm_x hf
        refine gk_iast (i := 227) (k := (a1 + 1).toNatClampNeg) S M (by decide) (fun _ => (gaa_240 rfl)) h37 rfl dX13_parsesCommand_200 (fun H locs M => ?_)
        rw [← eσ38] at M
        refine lv_goto (tgt := 326) hx hb dX13_parsesCommand_201 (by decide) ?_
        cases hf
        exact g_vret S M hr hlk (by decide) (by decide) dX13_parsesCommand_326 rfl
      · have hf := it_n c29 hf
        by_cases c39 : r2 = 111
        · have hf := it_p c39 hf
          refine g_top c39 ?_
          refine lv_tableIn (off := 181) (tgt := 204) hx hb dX13_parsesCommand_23 (by decide) (by decide) rfl (by decide) ?_
          refine lv_aload_n hx hb dX13_parsesCommand_204 rfl (lv_at hl 1 rfl) ?_
          refine lv_bipush (v := 117) hx hb dX13_parsesCommand_205 (by decide) ?_
          obtain ⟨σ41, h40, hf⟩ := bd_x hf
          refine g_callR (st1 := []) (cells' := 0) (slots' := 0) M (g_invV (index := 178) S M C0 hl (c_X13_needs l G H.size lo dd σ5 117  h40) k_X13_needs tw_8_4 tw_0_56 tw_8_2 (by decide) (ge_13 rfl) rfl rfl rfl rfl rfl rfl dX13_parsesCommand_207) rfl rfl rfl (fun H locs M => ?_)
          refine lv_aload_n hx hb dX13_parsesCommand_210 rfl (lv_at hl 1 rfl) ?_
          refine lv_bipush (v := 116) hx hb dX13_parsesCommand_211 (by decide) ?_
          obtain ⟨σ43, h42, hf⟩ := bd_x hf
          refine g_callR (st1 := []) (cells' := 0) (slots' := 0) M (g_invV (index := 178) S M C0 hl (c_X13_needs l G H.size lo dd σ41 116  h42) k_X13_needs tw_8_4 tw_0_56 tw_8_2 (by decide) (ge_13 rfl) rfl rfl rfl rfl rfl rfl dX13_parsesCommand_213) rfl rfl rfl (fun H locs M => ?_)
          refine lv_aload_n hx hb dX13_parsesCommand_216 rfl (lv_at hl 1 rfl) ?_
          refine gf_X13_16 (i := 219) S M (by decide) rfl tw_6_123 dX13_parsesCommand_217 ?_
          refine lv_iload_n hx hb dX13_parsesCommand_220 rfl (lv_at hl 2 rfl) ?_
          refine lv_iconst (v := 1) hx hb dX13_parsesCommand_221 (by decide) ?_
          refine lv_iadd hx hb dX13_parsesCommand_222 ?_
          refine lv_aload_n hx hb dX13_parsesCommand_223 rfl (lv_at hl 1 rfl) ?_
          refine lv_bipush (v := 32) hx hb dX13_parsesCommand_224 (by decide) ?_
          refine lv_iconst (v := 2) hx hb dX13_parsesCommand_226 (by decide) ?_
          obtain ⟨r45, σ46, h44, hf⟩ := bd2_x hf
          refine g_callR (st1 := [.int r45, .int (a1 + 1), .ref (G.1 227)]) (cells' := 0) (slots' := 0) M (g_invV (index := 181) S M C0 hl (c_X13_digitsAfter l G H.size lo dd σ43 32 2  h44) k_X13_digitsAfter tw_8_8 tw_0_57 tw_8_6 (by decide) (ge_13 rfl) rfl rfl rfl rfl rfl rfl dX13_parsesCommand_227) rfl rfl rfl (fun H locs M => ?_)
          obtain ⟨h47, hf⟩ := gi_x hf
          obtain ⟨σ48, eσ48, hf⟩ := nm_x hf
          refine gk_iast (i := 227) (k := (a1 + 1).toNatClampNeg) S M (by decide) (fun _ => (gaa_240 rfl)) h47 rfl dX13_parsesCommand_230 (fun H locs M => ?_)
          rw [← eσ48] at M
          refine lv_goto (tgt := 326) hx hb dX13_parsesCommand_231 (by decide) ?_
          cases hf
          exact g_vret S M hr hlk (by decide) (by decide) dX13_parsesCommand_326 rfl
        · have hf := it_n c39 hf
          by_cases c49 : r2 = 112
          · have hf := it_p c49 hf
            refine g_top c49 ?_
            refine lv_tableIn (off := 139) (tgt := 162) hx hb dX13_parsesCommand_23 (by decide) (by decide) rfl (by decide) ?_
            refine lv_aload_n hx hb dX13_parsesCommand_162 rfl (lv_at hl 1 rfl) ?_
            refine lv_iload_n hx hb dX13_parsesCommand_163 rfl (lv_at hl 2 rfl) ?_
            obtain ⟨σ51, h50, hf⟩ := bd_x hf
            refine g_callR (st1 := []) (cells' := 0) (slots' := 0) M (g_invV (index := 188) S M C0 hl (c_X13_parsesP l G H.size lo dd σ5 a1  h50) k_X13_parsesP tw_8_12 tw_0_58 tw_8_10 (by decide) (ge_13 rfl) rfl rfl rfl rfl rfl rfl dX13_parsesCommand_164) rfl rfl rfl (fun H locs M => ?_)
            refine lv_goto (tgt := 326) hx hb dX13_parsesCommand_167 (by decide) ?_
            cases hf
            exact g_vret S M hr hlk (by decide) (by decide) dX13_parsesCommand_326 rfl
          · have hf := it_n c49 hf
            by_cases c52 : r2 = 114
            · have hf := it_p c52 hf
              refine g_top c52 ?_
              refine lv_tableIn (off := 81) (tgt := 104) hx hb dX13_parsesCommand_23 (by decide) (by decide) rfl (by decide) ?_
              refine lv_aload_n hx hb dX13_parsesCommand_104 rfl (lv_at hl 1 rfl) ?_
              refine lv_bipush (v := 111) hx hb dX13_parsesCommand_105 (by decide) ?_
              refine lv_bipush (v := 97) hx hb dX13_parsesCommand_107 (by decide) ?_
              refine lv_bipush (v := 100) hx hb dX13_parsesCommand_109 (by decide) ?_
              obtain ⟨σ54, h53, hf⟩ := bd_x hf
              refine g_callR (st1 := []) (cells' := 0) (slots' := 0) M (g_invV (index := 184) S M C0 hl (c_X13_needsThree l G H.size lo dd σ5 111 97 100  h53) k_X13_needsThree tw_8_0 tw_0_55 tw_7_238 (by decide) (ge_13 rfl) rfl rfl rfl rfl rfl rfl dX13_parsesCommand_111) rfl rfl rfl (fun H locs M => ?_)
              refine lv_aload_n hx hb dX13_parsesCommand_114 rfl (lv_at hl 1 rfl) ?_
              refine gf_X13_16 (i := 219) S M (by decide) rfl tw_6_123 dX13_parsesCommand_115 ?_
              refine lv_iload_n hx hb dX13_parsesCommand_118 rfl (lv_at hl 2 rfl) ?_
              refine lv_iconst (v := 1) hx hb dX13_parsesCommand_119 (by decide) ?_
              refine lv_iadd hx hb dX13_parsesCommand_120 ?_
              refine lv_aload_n hx hb dX13_parsesCommand_121 rfl (lv_at hl 1 rfl) ?_
              refine lv_bipush (v := 32) hx hb dX13_parsesCommand_122 (by decide) ?_
              refine lv_iconst (v := 1) hx hb dX13_parsesCommand_124 (by decide) ?_
              obtain ⟨r56, σ57, h55, hf⟩ := bd2_x hf
              refine g_callR (st1 := [.int r56, .int (a1 + 1), .ref (G.1 227)]) (cells' := 0) (slots' := 0) M (g_invV (index := 181) S M C0 hl (c_X13_digitsAfter l G H.size lo dd σ54 32 1  h55) k_X13_digitsAfter tw_8_8 tw_0_57 tw_8_6 (by decide) (ge_13 rfl) rfl rfl rfl rfl rfl rfl dX13_parsesCommand_125) rfl rfl rfl (fun H locs M => ?_)
              obtain ⟨h58, hf⟩ := gi_x hf
              obtain ⟨σ59, eσ59, hf⟩ := nm_x hf
              refine gk_iast (i := 227) (k := (a1 + 1).toNatClampNeg) S M (by decide) (fun _ => (gaa_240 rfl)) h58 rfl dX13_parsesCommand_128 (fun H locs M => ?_)
              rw [← eσ59] at M
              refine lv_aload_n hx hb dX13_parsesCommand_129 rfl (lv_at hl 1 rfl) ?_
              refine gf_X13_16 (i := 219) S M (by decide) rfl tw_6_123 dX13_parsesCommand_130 ?_
              refine lv_iload_n hx hb dX13_parsesCommand_133 rfl (lv_at hl 2 rfl) ?_
              refine lv_iconst (v := 2) hx hb dX13_parsesCommand_134 (by decide) ?_
              refine lv_iadd hx hb dX13_parsesCommand_135 ?_
              refine lv_aload_n hx hb dX13_parsesCommand_136 rfl (lv_at hl 1 rfl) ?_
              refine lv_bipush (v := 45) hx hb dX13_parsesCommand_137 (by decide) ?_
              refine lv_iconst (v := 1) hx hb dX13_parsesCommand_139 (by decide) ?_
              obtain ⟨r61, σ62, h60, hf⟩ := bd2_x hf
              refine g_callR (st1 := [.int r61, .int (a1 + 2), .ref (G.1 227)]) (cells' := 0) (slots' := 0) M (g_invV (index := 181) S M C0 hl (c_X13_digitsAfter l G H.size lo dd σ59 45 1  h60) k_X13_digitsAfter tw_8_8 tw_0_57 tw_8_6 (by decide) (ge_13 rfl) rfl rfl rfl rfl rfl rfl dX13_parsesCommand_140) rfl rfl rfl (fun H locs M => ?_)
              obtain ⟨h63, hf⟩ := gi_x hf
              obtain ⟨σ64, eσ64, hf⟩ := nm_x hf
              refine gk_iast (i := 227) (k := (a1 + 2).toNatClampNeg) S M (by decide) (fun _ => (gaa_240 rfl)) h63 rfl dX13_parsesCommand_143 (fun H locs M => ?_)
              rw [← eσ64] at M
              refine lv_aload_n hx hb dX13_parsesCommand_144 rfl (lv_at hl 1 rfl) ?_
              refine gf_X13_16 (i := 219) S M (by decide) rfl tw_6_123 dX13_parsesCommand_145 ?_
              refine lv_iload_n hx hb dX13_parsesCommand_148 rfl (lv_at hl 2 rfl) ?_
              refine lv_iconst (v := 3) hx hb dX13_parsesCommand_149 (by decide) ?_
              refine lv_iadd hx hb dX13_parsesCommand_150 ?_
              refine lv_aload_n hx hb dX13_parsesCommand_151 rfl (lv_at hl 1 rfl) ?_
              refine lv_bipush (v := 32) hx hb dX13_parsesCommand_152 (by decide) ?_
              refine lv_iconst (v := 2) hx hb dX13_parsesCommand_154 (by decide) ?_
              obtain ⟨r66, σ67, h65, hf⟩ := bd2_x hf
              refine g_callR (st1 := [.int r66, .int (a1 + 3), .ref (G.1 227)]) (cells' := 0) (slots' := 0) M (g_invV (index := 181) S M C0 hl (c_X13_digitsAfter l G H.size lo dd σ64 32 2  h65) k_X13_digitsAfter tw_8_8 tw_0_57 tw_8_6 (by decide) (ge_13 rfl) rfl rfl rfl rfl rfl rfl dX13_parsesCommand_155) rfl rfl rfl (fun H locs M => ?_)
              obtain ⟨h68, hf⟩ := gi_x hf
              obtain ⟨σ69, eσ69, hf⟩ := nm_x hf
              refine gk_iast (i := 227) (k := (a1 + 3).toNatClampNeg) S M (by decide) (fun _ => (gaa_240 rfl)) h68 rfl dX13_parsesCommand_158 (fun H locs M => ?_)
              rw [← eσ69] at M
              refine lv_goto (tgt := 326) hx hb dX13_parsesCommand_159 (by decide) ?_
              cases hf
              exact g_vret S M hr hlk (by decide) (by decide) dX13_parsesCommand_326 rfl
            · have hf := it_n c52 hf
              refine g_tswD (tgt := 311) hx hb dX13_parsesCommand_23 (by decide) (by decide) (fun i hi => ?_) ?_
              · have hd : ∀ i : Nat, i < 17 → (i ∈ [0, 1, 5, 13, 14, 16]) ∨ (#[(260 : Int), (211 : Int), (288 : Int), (288 : Int), (288 : Int), (147 : Int), (288 : Int), (288 : Int), (288 : Int), (288 : Int), (288 : Int), (288 : Int), (288 : Int), (181 : Int), (139 : Int), (288 : Int), (81 : Int)])[i]? = some (288 : Int) := by decide
                rcases hd i hi with h | h
                · simp only [List.mem_cons, List.not_mem_nil, or_false] at h
                  rcases h with rfl | rfl | rfl | rfl | rfl | rfl
                  · exact Or.inr (fun q => c6 (g_toInt_inj (q.trans (by decide))))
                  · exact Or.inr (fun q => c14 (g_toInt_inj (q.trans (by decide))))
                  · exact Or.inr (fun q => c29 (g_toInt_inj (q.trans (by decide))))
                  · exact Or.inr (fun q => c39 (g_toInt_inj (q.trans (by decide))))
                  · exact Or.inr (fun q => c49 (g_toInt_inj (q.trans (by decide))))
                  · exact Or.inr (fun q => c52 (g_toInt_inj (q.trans (by decide))))
                · exact Or.inl h
              · refine lv_aload_n hx hb dX13_parsesCommand_311 rfl (lv_at hl 1 rfl) ?_
                refine lv_iconst (v := 1) hx hb dX13_parsesCommand_312 (by decide) ?_
                obtain ⟨σ70, eσ70, hf⟩ := nm_x hf
                refine gp_X13_15 (i := 219) S M (by decide) rfl tw_6_122 (by decide) (by decide) dX13_parsesCommand_313 (fun H locs M => ?_)
                rw [← eσ70] at M
                refine lv_aload_n hx hb dX13_parsesCommand_316 rfl (lv_at hl 1 rfl) ?_
                refine lv_dup hx hb dX13_parsesCommand_317 rfl ?_
                refine gf_X13_14 (i := 219) S M (by decide) rfl tw_6_121 dX13_parsesCommand_318 ?_
                refine lv_iconst (v := 1) hx hb dX13_parsesCommand_321 (by decide) ?_
                refine lv_isub hx hb dX13_parsesCommand_322 ?_
                obtain ⟨σ71, eσ71, hf⟩ := nm_x hf
                refine gp_X13_14 (i := 219) S M (by decide) rfl tw_6_121 dX13_parsesCommand_323 (fun H locs M => ?_)
                rw [← eσ71] at M
                cases hf
                exact g_vret S M hr hlk (by decide) (by decide) dX13_parsesCommand_326 rfl
theorem k_X13_carriesOut : gMV yX13_carriesOut cX13_carriesOut 4 (some .int) 1 := ⟨tw_8_17, tw_1_12, by decide⟩
set_option maxHeartbeats 400000 in
set_option maxRecDepth 100000 in
theorem c_X13_carriesOut (l : Launch) (G : gT) (sz : Nat) (lo : Int64) (dd : UInt64) (σ : gM) (a1 : Int32) {r : Int32} {o : gM} (hf : f_X13_carriesOut σ a1 = some (r, o)) : gCT l yX13_carriesOut cX13_carriesOut 4 (some .int) { frames := 4, cells := 0, slots := 0, locals := 95 } 0 0 G sz [.ref (G.1 219), .int a1] lo dd σ (.inl (mkI r, o, lo, dd)) := by
  refine gCT_of (by decide) (Nat.le_of_ble_eq_true rfl) (fun p e s m args below meth c ls S hr hlk hnx hsz C0 hl H locs M => ?_)
  subst hsz
  have hx := S.1
  have hb := S.2.1
  unfold f_X13_carriesOut at hf
  refine lv_aload_n hx hb dX13_carriesOut_0 rfl (lv_at hl 0 rfl) ?_
  refine gf_X13_16 (i := 219) S M (by decide) rfl tw_6_123 dX13_carriesOut_1 ?_
  refine lv_iload_n hx hb dX13_carriesOut_4 rfl (lv_at hl 1 rfl) ?_
  refine lv_iconst (v := 1) hx hb dX13_carriesOut_5 (by decide) ?_
  refine lv_iadd hx hb dX13_carriesOut_6 ?_
  obtain ⟨h1, hf⟩ := gi_x hf
  refine gk_iald (i := 227) (k := (a1 + 1).toNatClampNeg) S M (by decide) (gaa_240 rfl) h1 rfl dX13_carriesOut_7 ?_
  obtain ⟨x2, ex2, hf⟩ := nm_x hf
  refine g_topi ex2 ?_
  refine lv_istore_n (lv' := [(2, .int x2), (0, .ref (G.1 219)), (1, .int a1)]) hx hb dX13_carriesOut_8 rfl hl (by decide) rfl (fun ls hl => ?_)
  refine lv_aload_n hx hb dX13_carriesOut_9 rfl (lv_at hl 1 rfl) ?_
  refine gf_X13_16 (i := 219) S M (by decide) rfl tw_6_123 dX13_carriesOut_10 ?_
  refine lv_iload_n hx hb dX13_carriesOut_13 rfl (lv_at hl 2 rfl) ?_
  refine lv_iconst (v := 2) hx hb dX13_carriesOut_14 (by decide) ?_
  refine lv_iadd hx hb dX13_carriesOut_15 ?_
  obtain ⟨h3, hf⟩ := gi_x hf
  refine gk_iald (i := 227) (k := (a1 + 2).toNatClampNeg) S M (by decide) (gaa_240 rfl) h3 rfl dX13_carriesOut_16 ?_
  obtain ⟨x4, ex4, hf⟩ := nm_x hf
  refine g_topi ex4 ?_
  refine lv_istore_n (lv' := [(3, .int x4), (2, .int x2), (0, .ref (G.1 219)), (1, .int a1)]) hx hb dX13_carriesOut_17 rfl hl (by decide) rfl (fun ls hl => ?_)
  refine lv_aload_n hx hb dX13_carriesOut_18 rfl (lv_at hl 2 rfl) ?_
  refine gf_X13_16 (i := 219) S M (by decide) rfl tw_6_123 dX13_carriesOut_19 ?_
  refine lv_iload_n hx hb dX13_carriesOut_22 rfl (lv_at hl 3 rfl) ?_
  obtain ⟨h5, hf⟩ := gi_x hf
  refine gk_iald (i := 227) (k := a1.toNatClampNeg) S M (by decide) (gaa_240 rfl) h5 rfl dX13_carriesOut_23 ?_
  by_cases c6 : (σ 227 a1.toNatClampNeg) = 99
  · have hf := it_p c6 hf
    refine g_top c6 ?_
    refine lv_tableIn (off := 141) (tgt := 165) hx hb dX13_carriesOut_24 (by decide) (by decide) rfl (by decide) ?_
    refine lv_aload_n hx hb dX13_carriesOut_165 rfl (lv_at hl 2 rfl) ?_
    refine lv_iload_n hx hb dX13_carriesOut_166 rfl (lv_at hl 1 rfl) ?_
    refine lv_iload_n hx hb dX13_carriesOut_167 rfl (lv_at hl 0 rfl) ?_
    obtain ⟨r8, σ9, h7, hf⟩ := bd2_x hf
    refine g_callR (st1 := [.int r8]) (cells' := 0) (slots' := 0) M (g_invV (index := 129) S M C0 hl (c_X13_carries l G H.size lo dd σ x2 x4  h7) k_X13_carries tw_7_37 tw_0_42 tw_7_35 (by decide) (ge_13 rfl) rfl rfl rfl rfl rfl rfl dX13_carriesOut_168) rfl rfl rfl (fun H locs M => ?_)
    cases hf
    exact g_iret S M hr hlk (by decide) (by decide) dX13_carriesOut_171 rfl
  · have hf := it_n c6 hf
    by_cases c10 : (σ 227 a1.toNatClampNeg) = 103
    · have hf := it_p c10 hf
      refine g_top c10 ?_
      refine lv_tableIn (off := 122) (tgt := 146) hx hb dX13_carriesOut_24 (by decide) (by decide) rfl (by decide) ?_
      refine lv_aload_n hx hb dX13_carriesOut_146 rfl (lv_at hl 2 rfl) ?_
      refine lv_iload_n hx hb dX13_carriesOut_147 rfl (lv_at hl 1 rfl) ?_
      obtain ⟨r12, σ13, h11, hf⟩ := bd2_x hf
      refine g_callR (st1 := [.int r12]) (cells' := 0) (slots' := 0) M (g_invV (index := 92) S M C0 hl (c_X13_buys l G H.size lo dd σ x2  h11) k_X13_buys tw_6_218 tw_0_32 tw_6_216 (by decide) (ge_13 rfl) rfl rfl rfl rfl rfl rfl dX13_carriesOut_148) rfl rfl rfl (fun H locs M => ?_)
      cases hf
      exact g_iret S M hr hlk (by decide) (by decide) dX13_carriesOut_151 rfl
    · have hf := it_n c10 hf
      by_cases c14 : (σ 227 a1.toNatClampNeg) = 111
      · have hf := it_p c14 hf
        refine g_top c14 ?_
        refine lv_tableIn (off := 135) (tgt := 159) hx hb dX13_carriesOut_24 (by decide) (by decide) rfl (by decide) ?_
        refine lv_aload_n hx hb dX13_carriesOut_159 rfl (lv_at hl 2 rfl) ?_
        refine lv_iload_n hx hb dX13_carriesOut_160 rfl (lv_at hl 1 rfl) ?_
        obtain ⟨r16, σ17, h15, hf⟩ := bd2_x hf
        refine g_callR (st1 := [.int r16]) (cells' := 0) (slots' := 0) M (g_invV (index := 123) S M C0 hl (c_X13_takes l G H.size lo dd σ x2  h15) k_X13_takes tw_7_29 tw_0_41 tw_7_27 (by decide) (ge_13 rfl) rfl rfl rfl rfl rfl rfl dX13_carriesOut_161) rfl rfl rfl (fun H locs M => ?_)
        cases hf
        exact g_iret S M hr hlk (by decide) (by decide) dX13_carriesOut_164 rfl
      · have hf := it_n c14 hf
        by_cases c18 : (σ 227 a1.toNatClampNeg) = 112
        · have hf := it_p c18 hf
          refine g_top c18 ?_
          refine lv_tableIn (off := 107) (tgt := 131) hx hb dX13_carriesOut_24 (by decide) (by decide) rfl (by decide) ?_
          refine lv_aload_n hx hb dX13_carriesOut_131 rfl (lv_at hl 2 rfl) ?_
          refine lv_iload_n hx hb dX13_carriesOut_132 rfl (lv_at hl 1 rfl) ?_
          refine lv_iload_n hx hb dX13_carriesOut_133 rfl (lv_at hl 0 rfl) ?_
          refine lv_aload_n hx hb dX13_carriesOut_134 rfl (lv_at hl 2 rfl) ?_
          refine gf_X13_16 (i := 219) S M (by decide) rfl tw_6_123 dX13_carriesOut_135 ?_
          refine lv_iload_n hx hb dX13_carriesOut_138 rfl (lv_at hl 3 rfl) ?_
          refine lv_iconst (v := 3) hx hb dX13_carriesOut_139 (by decide) ?_
          refine lv_iadd hx hb dX13_carriesOut_140 ?_
          obtain ⟨h19, hf⟩ := gi_x hf
          refine gk_iald (i := 227) (k := (a1 + 3).toNatClampNeg) S M (by decide) (gaa_240 rfl) h19 rfl dX13_carriesOut_141 ?_
          obtain ⟨r21, σ22, h20, hf⟩ := bd2_x hf
          refine g_callR (st1 := [.int r21]) (cells' := 0) (slots' := 0) M (g_invV (index := 89) S M C0 hl (c_X13_accepts l G H.size lo dd σ x2 x4 (σ 227 (a1 + 3).toNatClampNeg)  h20) k_X13_accepts tw_6_210 tw_0_31 tw_6_208 (by decide) (ge_13 rfl) rfl rfl rfl rfl rfl rfl dX13_carriesOut_142) rfl rfl rfl (fun H locs M => ?_)
          cases hf
          exact g_iret S M hr hlk (by decide) (by decide) dX13_carriesOut_145 rfl
        · have hf := it_n c18 hf
          by_cases c23 : (σ 227 a1.toNatClampNeg) = 114
          · have hf := it_p c23 hf
            refine g_top c23 ?_
            refine lv_tableIn (off := 92) (tgt := 116) hx hb dX13_carriesOut_24 (by decide) (by decide) rfl (by decide) ?_
            refine lv_aload_n hx hb dX13_carriesOut_116 rfl (lv_at hl 2 rfl) ?_
            refine lv_iload_n hx hb dX13_carriesOut_117 rfl (lv_at hl 1 rfl) ?_
            refine lv_iload_n hx hb dX13_carriesOut_118 rfl (lv_at hl 0 rfl) ?_
            refine lv_aload_n hx hb dX13_carriesOut_119 rfl (lv_at hl 2 rfl) ?_
            refine gf_X13_16 (i := 219) S M (by decide) rfl tw_6_123 dX13_carriesOut_120 ?_
            refine lv_iload_n hx hb dX13_carriesOut_123 rfl (lv_at hl 3 rfl) ?_
            refine lv_iconst (v := 3) hx hb dX13_carriesOut_124 (by decide) ?_
            refine lv_iadd hx hb dX13_carriesOut_125 ?_
            obtain ⟨h24, hf⟩ := gi_x hf
            refine gk_iald (i := 227) (k := (a1 + 3).toNatClampNeg) S M (by decide) (gaa_240 rfl) h24 rfl dX13_carriesOut_126 ?_
            obtain ⟨r26, σ27, h25, hf⟩ := bd2_x hf
            refine g_callR (st1 := [.int r26]) (cells' := 0) (slots' := 0) M (g_invV (index := 78) S M C0 hl (c_X13_builds l G H.size lo dd σ x2 x4 (σ 227 (a1 + 3).toNatClampNeg)  h25) k_X13_builds tw_6_176 tw_0_25 tw_6_174 (by decide) (ge_13 rfl) rfl rfl rfl rfl rfl rfl dX13_carriesOut_127) rfl rfl rfl (fun H locs M => ?_)
            cases hf
            exact g_iret S M hr hlk (by decide) (by decide) dX13_carriesOut_130 rfl
          · have hf := it_n c23 hf
            by_cases c28 : (σ 227 a1.toNatClampNeg) = 117
            · have hf := it_p c28 hf
              refine g_top c28 ?_
              refine lv_tableIn (off := 128) (tgt := 152) hx hb dX13_carriesOut_24 (by decide) (by decide) rfl (by decide) ?_
              refine lv_aload_n hx hb dX13_carriesOut_152 rfl (lv_at hl 2 rfl) ?_
              refine lv_iload_n hx hb dX13_carriesOut_153 rfl (lv_at hl 1 rfl) ?_
              refine lv_iload_n hx hb dX13_carriesOut_154 rfl (lv_at hl 0 rfl) ?_
              obtain ⟨r30, σ31, h29, hf⟩ := bd2_x hf
              refine g_callR (st1 := [.int r30]) (cells' := 0) (slots' := 0) M (g_invV (index := 120) S M C0 hl (c_X13_puts l G H.size lo dd σ x2 x4  h29) k_X13_puts tw_7_1 tw_0_35 tw_6_239 (by decide) (ge_13 rfl) rfl rfl rfl rfl rfl rfl dX13_carriesOut_155) rfl rfl rfl (fun H locs M => ?_)
              cases hf
              exact g_iret S M hr hlk (by decide) (by decide) dX13_carriesOut_158 rfl
            · have hf := it_n c28 hf
              refine g_tswD (tgt := 172) hx hb dX13_carriesOut_24 (by decide) (by decide) (fun i hi => ?_) ?_
              · have hd : ∀ i : Nat, i < 19 → (i ∈ [0, 4, 12, 13, 15, 18]) ∨ (#[(141 : Int), (148 : Int), (148 : Int), (148 : Int), (122 : Int), (148 : Int), (148 : Int), (148 : Int), (148 : Int), (148 : Int), (148 : Int), (148 : Int), (135 : Int), (107 : Int), (148 : Int), (92 : Int), (148 : Int), (148 : Int), (128 : Int)])[i]? = some (148 : Int) := by decide
                rcases hd i hi with h | h
                · simp only [List.mem_cons, List.not_mem_nil, or_false] at h
                  rcases h with rfl | rfl | rfl | rfl | rfl | rfl
                  · exact Or.inr (fun q => c6 (g_toInt_inj (q.trans (by decide))))
                  · exact Or.inr (fun q => c10 (g_toInt_inj (q.trans (by decide))))
                  · exact Or.inr (fun q => c14 (g_toInt_inj (q.trans (by decide))))
                  · exact Or.inr (fun q => c18 (g_toInt_inj (q.trans (by decide))))
                  · exact Or.inr (fun q => c23 (g_toInt_inj (q.trans (by decide))))
                  · exact Or.inr (fun q => c28 (g_toInt_inj (q.trans (by decide))))
                · exact Or.inl h
              · refine lv_aload_n hx hb dX13_carriesOut_172 rfl (lv_at hl 2 rfl) ?_
                refine lv_iload_n hx hb dX13_carriesOut_173 rfl (lv_at hl 1 rfl) ?_
                obtain ⟨r33, σ34, h32, hf⟩ := bd2_x hf
                refine g_callR (st1 := [.int r33]) (cells' := 0) (slots' := 0) M (g_invV (index := 132) S M C0 hl (c_X13_comes l G H.size lo dd σ x2  h32) k_X13_comes tw_7_53 tw_0_45 tw_7_51 (by decide) (ge_13 rfl) rfl rfl rfl rfl rfl rfl dX13_carriesOut_174) rfl rfl rfl (fun H locs M => ?_)
                cases hf
                exact g_iret S M hr hlk (by decide) (by decide) dX13_carriesOut_177 rfl
theorem k_X13_runCommands : gMV yX13_runCommands cX13_runCommands 5 (some .int) 0 := ⟨tw_7_229, tw_1_12, by decide⟩
set_option maxHeartbeats 400000 in
set_option maxRecDepth 100000 in
theorem w_X13_runCommands_L14 {p : Program} {l : Launch} {e : Env} {s : State} {m : MethodId} {args : Array Value} {below : List Frame} {meth : Method} {c : Code} {Q : State → Prop} {G : gT} {lo : Int64} {dd : UInt64} (S : CallFix p m c cX13_runCommands 5 s args gTs RX13) (C0 : gCST G (gAA G s.heap.size) s) : ∀ (n : Nat) (v1 : Int32) (v2 : Int32) (σ : gM) (res : Int32 × gM), f_X13_runCommands_L14 n v1 v2 σ = some res → ∀ (H : Heap) (locs : List Loc) (ls : Array Slot), gMS G (gAA G s.heap.size) lo dd σ s H locs → lv_has ls 5 [(0, .ref (G.1 219)), (1, .int v1), (2, .int v2)] → (k71 : ∀ (u1 : Int32) (τ : gM), res = (u1, τ) → ∀ (H : Heap) (locs : List Loc) (ls : Array Slot), gMS G (gAA G s.heap.size) lo dd τ s H locs → lv_has ls 5 [(0, .ref (G.1 219)), (1, .int u1)] → W p l e ({ frames := 5, cells := 0, slots := 0, locals := 118 } : Room) s m args below meth c H locs 0 0 Q (F0 m 71 ls [])) → W p l e ({ frames := 5, cells := 0, slots := 0, locals := 118 } : Room) s m args below meth c H locs 0 0 Q (F0 m 14 ls []) := by
  have hx := S.1
  have hb := S.2.1
  intro n
  induction n with
  | zero =>
    intro v1 v2 σ res hf
    cases hf
  | succ n ih =>
    intro v1 v2 σ res hf H locs ls M hl k71
    rw [f_X13_runCommands_L14] at hf
    refine lv_iload_n hx hb dX13_runCommands_14 rfl (lv_at hl 2 rfl) ?_
    refine lv_if_eq (tgt := 71) hx hb dX13_runCommands_15 (by decide) (fun c3 => ?_) (fun c3 => ?_)
    · have hf := it_p c3 hf
      cases hf
      exact k71 _ _ rfl _ _ _ M (lv_sub hl [0, 1] rfl)
    · have hf := it_n c3 hf
      refine lv_aload_n hx hb dX13_runCommands_18 rfl (lv_at hl 0 rfl) ?_
      refine lv_iconst (v := 4) hx hb dX13_runCommands_19 (by decide) ?_
      refine lv_iload_n hx hb dX13_runCommands_20 rfl (lv_at hl 1 rfl) ?_
      refine lv_imul hx hb dX13_runCommands_21 ?_
      obtain ⟨σ5, h4, hf⟩ := bd_x hf
      refine g_callR (st1 := []) (cells' := 0) (slots' := 0) M (g_invV (index := 191) S M C0 hl (c_X13_parsesCommand l G H.size lo dd σ (4 * v1)  h4) k_X13_parsesCommand tw_7_232 tw_0_53 tw_7_230 (by decide) (ge_13 rfl) rfl rfl rfl rfl rfl rfl dX13_runCommands_22) rfl rfl rfl (fun H locs M => ?_)
      obtain ⟨x6, ex6, hf⟩ := nm_x hf
      refine lv_iinc (v := x6) (lv' := [(1, .int x6), (0, .ref (G.1 219)), (2, .int v2)]) hx hb dX13_runCommands_25 hl (k := 1) rfl (by rw [ex6]; rfl) (by decide) rfl (fun ls hl => ?_)
      refine lv_aload_n hx hb dX13_runCommands_28 rfl (lv_at hl 1 rfl) ?_
      refine gf_X13_15 (i := 219) S M (by decide) rfl tw_6_122 dX13_runCommands_29 ?_
      refine lv_if_ne (tgt := 48) hx hb dX13_runCommands_32 (by decide) (fun c7 => ?_) (fun c7 => ?_)
      · have hf := it_n c7 hf
        refine lv_iconst (v := 0) hx hb dX13_runCommands_48 (by decide) ?_
        refine lv_istore_n (lv' := [(2, .int 0), (1, .int x6), (0, .ref (G.1 219))]) hx hb dX13_runCommands_49 rfl hl (by decide) rfl (fun ls hl => ?_)
        refine lv_aload_n hx hb dX13_runCommands_50 rfl (lv_at hl 2 rfl) ?_
        refine lv_dup hx hb dX13_runCommands_51 rfl ?_
        refine gf_X13_14 (i := 219) S M (by decide) rfl tw_6_121 dX13_runCommands_52 ?_
        refine lv_iload_n hx hb dX13_runCommands_55 rfl (lv_at hl 0 rfl) ?_
        refine lv_if_eq (tgt := 63) hx hb dX13_runCommands_56 (by decide) (fun c8 => ?_) (fun c8 => ?_)
        · refine lv_iconst (v := 0) hx hb dX13_runCommands_63 (by decide) ?_
          refine lv_iadd hx hb dX13_runCommands_64 ?_
          obtain ⟨σ9, eσ9, hf⟩ := nm_x hf
          refine gp_X13_14 (i := 219) S M (by decide) rfl tw_6_121 dX13_runCommands_65 (fun H locs M => ?_)
          rw [← eσ9] at M
          refine lv_goto (tgt := 14) hx hb dX13_runCommands_68 (by decide) ?_
          exact ih _ _ _ _ hf _ _ _ M (lv_sub hl [2, 1, 0] rfl) k71
        · exact absurd c8 (by decide)
      · have hf := it_p c7 hf
        refine lv_aload_n hx hb dX13_runCommands_35 rfl (lv_at hl 1 rfl) ?_
        obtain ⟨r11, h10, hf⟩ := bd_x hf
        refine g_callR (st1 := [.int r11]) (cells' := 0) (slots' := 0) M (g_invV (index := 175) S M C0 hl (c_X13_here l G H.size lo dd σ5   h10) k_X13_here tw_7_236 tw_0_54 tw_7_234 (by decide) (ge_13 rfl) rfl rfl rfl rfl rfl rfl dX13_runCommands_36) rfl rfl rfl (fun H locs M => ?_)
        refine lv_bipush (v := 59) hx hb dX13_runCommands_39 (by decide) ?_
        refine lv_icmp_ne (tgt := 48) hx hb dX13_runCommands_41 (by decide) (fun c12 => ?_) (fun c12 => ?_)
        · have hf := it_n c12 hf
          refine lv_iconst (v := 0) hx hb dX13_runCommands_48 (by decide) ?_
          refine lv_istore_n (lv' := [(2, .int 0), (1, .int x6), (0, .ref (G.1 219))]) hx hb dX13_runCommands_49 rfl hl (by decide) rfl (fun ls hl => ?_)
          refine lv_aload_n hx hb dX13_runCommands_50 rfl (lv_at hl 2 rfl) ?_
          refine lv_dup hx hb dX13_runCommands_51 rfl ?_
          refine gf_X13_14 (i := 219) S M (by decide) rfl tw_6_121 dX13_runCommands_52 ?_
          refine lv_iload_n hx hb dX13_runCommands_55 rfl (lv_at hl 0 rfl) ?_
          refine lv_if_eq (tgt := 63) hx hb dX13_runCommands_56 (by decide) (fun c13 => ?_) (fun c13 => ?_)
          · refine lv_iconst (v := 0) hx hb dX13_runCommands_63 (by decide) ?_
            refine lv_iadd hx hb dX13_runCommands_64 ?_
            obtain ⟨σ14, eσ14, hf⟩ := nm_x hf
            refine gp_X13_14 (i := 219) S M (by decide) rfl tw_6_121 dX13_runCommands_65 (fun H locs M => ?_)
            rw [← eσ14] at M
            refine lv_goto (tgt := 14) hx hb dX13_runCommands_68 (by decide) ?_
            exact ih _ _ _ _ hf _ _ _ M (lv_sub hl [2, 1, 0] rfl) k71
          · exact absurd c13 (by decide)
        · have hf := it_p c12 hf
          refine lv_iconst (v := 1) hx hb dX13_runCommands_44 (by decide) ?_
          refine lv_goto (tgt := 49) hx hb dX13_runCommands_45 (by decide) ?_
          refine lv_istore_n (lv' := [(2, .int 1), (1, .int x6), (0, .ref (G.1 219))]) hx hb dX13_runCommands_49 rfl hl (by decide) rfl (fun ls hl => ?_)
          refine lv_aload_n hx hb dX13_runCommands_50 rfl (lv_at hl 2 rfl) ?_
          refine lv_dup hx hb dX13_runCommands_51 rfl ?_
          refine gf_X13_14 (i := 219) S M (by decide) rfl tw_6_121 dX13_runCommands_52 ?_
          refine lv_iload_n hx hb dX13_runCommands_55 rfl (lv_at hl 0 rfl) ?_
          refine lv_if_eq (tgt := 63) hx hb dX13_runCommands_56 (by decide) (fun c15 => ?_) (fun c15 => ?_)
          · exact absurd c15 (by decide)
          · refine lv_iconst (v := 1) hx hb dX13_runCommands_59 (by decide) ?_
            refine lv_goto (tgt := 64) hx hb dX13_runCommands_60 (by decide) ?_
            refine lv_iadd hx hb dX13_runCommands_64 ?_
            obtain ⟨σ16, eσ16, hf⟩ := nm_x hf
            refine gp_X13_14 (i := 219) S M (by decide) rfl tw_6_121 dX13_runCommands_65 (fun H locs M => ?_)
            rw [← eσ16] at M
            refine lv_goto (tgt := 14) hx hb dX13_runCommands_68 (by decide) ?_
            exact ih _ _ _ _ hf _ _ _ M (lv_sub hl [2, 1, 0] rfl) k71
set_option maxHeartbeats 400000 in
set_option maxRecDepth 100000 in
theorem w_X13_runCommands_L130 {p : Program} {l : Launch} {e : Env} {s : State} {m : MethodId} {args : Array Value} {below : List Frame} {meth : Method} {c : Code} {Q : State → Prop} {G : gT} {lo : Int64} {dd : UInt64} (S : CallFix p m c cX13_runCommands 5 s args gTs RX13) (C0 : gCST G (gAA G s.heap.size) s) (p1 : Int32) : ∀ (n : Nat) (v3 : Int32) (σ : gM) (res : (Int32 × Int32 × gM) ⊕ (gM)), f_X13_runCommands_L130 p1 n v3 σ = some res → ∀ (H : Heap) (locs : List Loc) (ls : Array Slot), gMS G (gAA G s.heap.size) lo dd σ s H locs → lv_has ls 5 [(0, .ref (G.1 219)), (1, .int p1), (3, .int v3)] → (k151 : ∀ (u3 : Int32) (u4 : Int32) (τ : gM), res = .inl (u3, u4, τ) → ∀ (H : Heap) (locs : List Loc) (ls : Array Slot), gMS G (gAA G s.heap.size) lo dd τ s H locs → lv_has ls 5 [(0, .ref (G.1 219)), (3, .int u3), (4, .int u4)] → W p l e ({ frames := 5, cells := 0, slots := 0, locals := 118 } : Room) s m args below meth c H locs 0 0 Q (F0 m 151 ls [])) → (k174 : ∀ (τ : gM), res = .inr (τ) → ∀ (H : Heap) (locs : List Loc) (ls : Array Slot), gMS G (gAA G s.heap.size) lo dd τ s H locs → lv_has ls 5 [(0, .ref (G.1 219)), (1, .int p1)] → W p l e ({ frames := 5, cells := 0, slots := 0, locals := 118 } : Room) s m args below meth c H locs 0 0 Q (F0 m 174 ls [])) → W p l e ({ frames := 5, cells := 0, slots := 0, locals := 118 } : Room) s m args below meth c H locs 0 0 Q (F0 m 130 ls []) := by
  have hx := S.1
  have hb := S.2.1
  intro n
  induction n with
  | zero =>
    intro v3 σ res hf
    cases hf
  | succ n ih =>
    intro v3 σ res hf H locs ls M hl k151 k174
    rw [f_X13_runCommands_L130] at hf
    refine lv_iload_n hx hb dX13_runCommands_130 rfl (lv_at hl 2 rfl) ?_
    refine lv_iload_n hx hb dX13_runCommands_131 rfl (lv_at hl 1 rfl) ?_
    refine lv_icmp_ge (tgt := 174) hx hb dX13_runCommands_132 (by decide) (fun c26 => ?_) (fun c26 => ?_)
    · have hf := it_p c26 hf
      cases hf
      exact k174 _ rfl _ _ _ M (lv_sub hl [0, 1] rfl)
    · have hf := it_n c26 hf
      refine lv_aload_n hx hb dX13_runCommands_135 rfl (lv_at hl 0 rfl) ?_
      refine lv_iconst (v := 4) hx hb dX13_runCommands_136 (by decide) ?_
      refine lv_iload_n hx hb dX13_runCommands_137 rfl (lv_at hl 2 rfl) ?_
      refine lv_imul hx hb dX13_runCommands_138 ?_
      obtain ⟨r28, σ29, h27, hf⟩ := bd2_x hf
      refine g_callR (st1 := [.int r28]) (cells' := 0) (slots' := 0) M (g_invV (index := 194) S M C0 hl (c_X13_carriesOut l G H.size lo dd σ (4 * v3)  h27) k_X13_carriesOut tw_8_16 tw_0_59 tw_8_14 (by decide) (ge_13 rfl) rfl rfl rfl rfl rfl rfl dX13_runCommands_139) rfl rfl rfl (fun H locs M => ?_)
      refine lv_istore (lv' := [(4, .int r28), (0, .ref (G.1 219)), (1, .int p1), (3, .int v3)]) hx hb dX13_runCommands_142 hl (by decide) rfl (fun ls hl => ?_)
      refine lv_aload_n hx hb dX13_runCommands_144 rfl (lv_at hl 1 rfl) ?_
      refine gf_X13_12 (i := 219) S M (by decide) rfl tw_6_119 dX13_runCommands_145 ?_
      refine lv_if_eq (tgt := 168) hx hb dX13_runCommands_148 (by decide) (fun c30 => ?_) (fun c30 => ?_)
      · have hf := it_p c30 hf
        obtain ⟨x31, ex31, hf⟩ := nm_x hf
        refine lv_iinc (v := x31) (lv' := [(3, .int x31), (4, .int r28), (0, .ref (G.1 219)), (1, .int p1)]) hx hb dX13_runCommands_168 hl (k := 3) rfl (by rw [ex31]; rfl) (by decide) rfl (fun ls hl => ?_)
        refine lv_goto (tgt := 130) hx hb dX13_runCommands_171 (by decide) ?_
        exact ih _ _ _ hf _ _ _ M (lv_sub hl [2, 3, 0] rfl) k151 k174
      · have hf := it_n c30 hf
        cases hf
        exact k151 _ _ _ rfl _ _ _ M (lv_sub hl [1, 3, 0] rfl)
set_option maxHeartbeats 400000 in
set_option maxRecDepth 100000 in
theorem c_X13_runCommands (l : Launch) (G : gT) (sz : Nat) (lo : Int64) (dd : UInt64) (σ : gM) {r : Int32} {o : gM} (hf : f_X13_runCommands σ = some (r, o)) : gCT l yX13_runCommands cX13_runCommands 5 (some .int) { frames := 5, cells := 0, slots := 0, locals := 118 } 0 0 G sz [.ref (G.1 219)] lo dd σ (.inl (mkI r, o, lo, dd)) := by
  refine gCT_of (by decide) (Nat.le_of_ble_eq_true rfl) (fun p e s m args below meth c ls S hr hlk hnx hsz C0 hl H locs M => ?_)
  subst hsz
  have hx := S.1
  have hb := S.2.1
  unfold f_X13_runCommands at hf
  refine lv_aload_n hx hb dX13_runCommands_0 rfl (lv_at hl 0 rfl) ?_
  refine lv_iconst (v := 0) hx hb dX13_runCommands_1 (by decide) ?_
  obtain ⟨σ1, eσ1, hf⟩ := nm_x hf
  refine gp_X13_14 (i := 219) S M (by decide) rfl tw_6_121 dX13_runCommands_2 (fun H locs M => ?_)
  rw [← eσ1] at M
  refine lv_aload_n hx hb dX13_runCommands_5 rfl (lv_at hl 0 rfl) ?_
  refine lv_iconst (v := 0) hx hb dX13_runCommands_6 (by decide) ?_
  obtain ⟨σ2, eσ2, hf⟩ := nm_x hf
  refine gp_X13_15 (i := 219) S M (by decide) rfl tw_6_122 (by decide) (by decide) dX13_runCommands_7 (fun H locs M => ?_)
  rw [← eσ2] at M
  refine lv_iconst (v := 0) hx hb dX13_runCommands_10 (by decide) ?_
  refine lv_istore_n (lv' := [(1, .int 0), (0, .ref (G.1 219))]) hx hb dX13_runCommands_11 rfl hl (by decide) rfl (fun ls hl => ?_)
  refine lv_iconst (v := 1) hx hb dX13_runCommands_12 (by decide) ?_
  refine lv_istore_n (lv' := [(2, .int 1), (1, .int 0), (0, .ref (G.1 219))]) hx hb dX13_runCommands_13 rfl hl (by decide) rfl (fun ls hl => ?_)
  obtain ⟨y18, σ19, h17, hf⟩ := bd2_x hf
  refine w_X13_runCommands_L14 S C0 gFU 0 1 σ2 _ h17 _ _ _ M (lv_sub hl [2, 1, 0] rfl) (fun _ _ eq H locs ls M hl => ?_)
  cases eq
  refine lv_aload_n hx hb dX13_runCommands_71 rfl (lv_at hl 0 rfl) ?_
  refine lv_aload_n hx hb dX13_runCommands_72 rfl (lv_at hl 0 rfl) ?_
  refine gf_X13_15 (i := 219) S M (by decide) rfl tw_6_122 dX13_runCommands_73 ?_
  refine lv_if_ne (tgt := 90) hx hb dX13_runCommands_76 (by decide) (fun c20 => ?_) (fun c20 => ?_)
  · have hf := it_n c20 hf
    refine lv_iconst (v := 1) hx hb dX13_runCommands_90 (by decide) ?_
    refine lv_goto (tgt := 95) hx hb dX13_runCommands_91 (by decide) ?_
    obtain ⟨σ21, eσ21, hf⟩ := nm_x hf
    refine gp_X13_15 (i := 219) S M (by decide) rfl tw_6_122 (by decide) (by decide) dX13_runCommands_95 (fun H locs M => ?_)
    rw [← eσ21] at M
    refine lv_aload_n hx hb dX13_runCommands_98 rfl (lv_at hl 0 rfl) ?_
    refine lv_iconst (v := 0) hx hb dX13_runCommands_99 (by decide) ?_
    obtain ⟨σ22, eσ22, hf⟩ := nm_x hf
    refine gp_X13_7 (i := 219) S M (by decide) rfl tw_6_114 dX13_runCommands_100 (fun H locs M => ?_)
    rw [← eσ22] at M
    refine lv_aload_n hx hb dX13_runCommands_103 rfl (lv_at hl 0 rfl) ?_
    refine gf_X13_15 (i := 219) S M (by decide) rfl tw_6_122 dX13_runCommands_104 ?_
    refine lv_if_eq (tgt := 124) hx hb dX13_runCommands_107 (by decide) (fun c23 => ?_) (fun c23 => ?_)
    · have hf := it_p c23 hf
      refine lv_aload_n hx hb dX13_runCommands_124 rfl (lv_at hl 0 rfl) ?_
      obtain ⟨σ25, h24, hf⟩ := bd_x hf
      refine g_callR (st1 := []) (cells' := 0) (slots' := 0) M (g_invV (index := 75) S M C0 hl (c_X13_begin l G H.size lo dd σ22   h24) k_X13_begin tw_6_169 tw_0_24 tw_6_167 (by decide) (ge_13 rfl) rfl rfl rfl rfl rfl rfl dX13_runCommands_125) rfl rfl rfl (fun H locs M => ?_)
      refine lv_iconst (v := 0) hx hb dX13_runCommands_128 (by decide) ?_
      refine lv_istore_n (lv' := [(3, .int 0), (0, .ref (G.1 219)), (1, .int y18)]) hx hb dX13_runCommands_129 rfl hl (by decide) rfl (fun ls hl => ?_)
      rcases gs2_x hf with ⟨⟨y33, y34, σ35⟩, h32, hf⟩ | ⟨σ41, h32, hf⟩
      · have hf := un3_x hf
        refine w_X13_runCommands_L130 S C0 y18 gFU 0 σ25 _ h32 _ _ _ M (lv_sub hl [1, 2, 0] rfl) (fun _ _ _ eq H locs ls M hl => ?_) (fun _ eq => nomatch eq)
        cases eq
        refine lv_aload_n hx hb dX13_runCommands_151 rfl (lv_at hl 0 rfl) ?_
        refine lv_iload_n hx hb dX13_runCommands_152 rfl (lv_at hl 1 rfl) ?_
        obtain ⟨σ36, eσ36, hf⟩ := nm_x hf
        refine gp_X13_9 (i := 219) S M (by decide) rfl tw_6_116 dX13_runCommands_153 (fun H locs M => ?_)
        rw [← eσ36] at M
        refine lv_aload_n hx hb dX13_runCommands_156 rfl (lv_at hl 0 rfl) ?_
        refine lv_iconst (v := 2) hx hb dX13_runCommands_157 (by decide) ?_
        obtain ⟨σ37, eσ37, hf⟩ := nm_x hf
        refine gp_X13_12 (i := 219) S M (by decide) rfl tw_6_119 dX13_runCommands_158 (fun H locs M => ?_)
        rw [← eσ37] at M
        refine lv_aload_n hx hb dX13_runCommands_161 rfl (lv_at hl 0 rfl) ?_
        refine lv_iload hx hb dX13_runCommands_162 (lv_at hl 2 rfl) ?_
        obtain ⟨r39, σ40, h38, hf⟩ := bd2_x hf
        refine g_callR (st1 := [.int r39]) (cells' := 0) (slots' := 0) M (g_invV (index := 82) S M C0 hl (c_X13_kept l G H.size lo dd σ37 y34  h38) k_X13_kept tw_6_202 tw_0_30 tw_6_200 (by decide) (ge_13 rfl) rfl rfl rfl rfl rfl rfl dX13_runCommands_164) rfl rfl rfl (fun H locs M => ?_)
        cases hf
        exact g_iret S M hr hlk (by decide) (by decide) dX13_runCommands_167 rfl
      · refine w_X13_runCommands_L130 S C0 y18 gFU 0 σ25 _ h32 _ _ _ M (lv_sub hl [1, 2, 0] rfl) (fun _ _ _ eq => nomatch eq) (fun _ eq H locs ls M hl => ?_)
        cases eq
        refine lv_aload_n hx hb dX13_runCommands_174 rfl (lv_at hl 0 rfl) ?_
        refine lv_aload_n hx hb dX13_runCommands_175 rfl (lv_at hl 0 rfl) ?_
        refine lv_iload_n hx hb dX13_runCommands_176 rfl (lv_at hl 1 rfl) ?_
        obtain ⟨r43, σ44, h42, hf⟩ := bd2_x hf
        refine g_callR (st1 := [.int r43, .ref (G.1 219)]) (cells' := 0) (slots' := 0) M (g_invV (index := 72) S M C0 hl (c_X13_done l G H.size lo dd σ41 y18  h42) k_X13_done tw_6_198 tw_0_29 tw_6_196 (by decide) (ge_13 rfl) rfl rfl rfl rfl rfl rfl dX13_runCommands_177) rfl rfl rfl (fun H locs M => ?_)
        obtain ⟨r46, σ47, h45, hf⟩ := bd2_x hf
        refine g_callR (st1 := [.int r46]) (cells' := 0) (slots' := 0) M (g_invV (index := 82) S M C0 hl (c_X13_kept l G H.size lo dd σ44 r43  h45) k_X13_kept tw_6_202 tw_0_30 tw_6_200 (by decide) (ge_13 rfl) rfl rfl rfl rfl rfl rfl dX13_runCommands_180) rfl rfl rfl (fun H locs M => ?_)
        cases hf
        exact g_iret S M hr hlk (by decide) (by decide) dX13_runCommands_183 rfl
    · have hf := it_n c23 hf
      refine lv_aload_n hx hb dX13_runCommands_110 rfl (lv_at hl 0 rfl) ?_
      refine lv_aload_n hx hb dX13_runCommands_111 rfl (lv_at hl 0 rfl) ?_
      refine gf_X13_14 (i := 219) S M (by decide) rfl tw_6_121 dX13_runCommands_112 ?_
      obtain ⟨σ48, eσ48, hf⟩ := nm_x hf
      refine gp_X13_8 (i := 219) S M (by decide) rfl tw_6_115 dX13_runCommands_115 (fun H locs M => ?_)
      rw [← eσ48] at M
      refine lv_aload_n hx hb dX13_runCommands_118 rfl (lv_at hl 0 rfl) ?_
      refine lv_iconst (v := 1) hx hb dX13_runCommands_119 (by decide) ?_
      obtain ⟨r50, σ51, h49, hf⟩ := bd2_x hf
      refine g_callR (st1 := [.int r50]) (cells' := 0) (slots' := 0) M (g_invV (index := 64) S M C0 hl (c_X13_fails l G H.size lo dd σ48 1  h49) k_X13_fails tw_6_186 tw_0_26 tw_6_184 (by decide) (ge_13 rfl) rfl rfl rfl rfl rfl rfl dX13_runCommands_120) rfl rfl rfl (fun H locs M => ?_)
      cases hf
      exact g_iret S M hr hlk (by decide) (by decide) dX13_runCommands_123 rfl
  · have hf := it_p c20 hf
    refine lv_aload_n hx hb dX13_runCommands_79 rfl (lv_at hl 0 rfl) ?_
    refine gf_X13_14 (i := 219) S M (by decide) rfl tw_6_121 dX13_runCommands_80 ?_
    refine lv_aload_n hx hb dX13_runCommands_83 rfl (lv_at hl 0 rfl) ?_
    refine gf_X13_7 (i := 219) S M (by decide) rfl tw_6_114 dX13_runCommands_84 ?_
    refine lv_icmp_ge (tgt := 94) hx hb dX13_runCommands_87 (by decide) (fun c52 => ?_) (fun c52 => ?_)
    · have hf := it_p c52 hf
      refine lv_iconst (v := 0) hx hb dX13_runCommands_94 (by decide) ?_
      obtain ⟨σ53, eσ53, hf⟩ := nm_x hf
      refine gp_X13_15 (i := 219) S M (by decide) rfl tw_6_122 (by decide) (by decide) dX13_runCommands_95 (fun H locs M => ?_)
      rw [← eσ53] at M
      refine lv_aload_n hx hb dX13_runCommands_98 rfl (lv_at hl 0 rfl) ?_
      refine lv_iconst (v := 0) hx hb dX13_runCommands_99 (by decide) ?_
      obtain ⟨σ54, eσ54, hf⟩ := nm_x hf
      refine gp_X13_7 (i := 219) S M (by decide) rfl tw_6_114 dX13_runCommands_100 (fun H locs M => ?_)
      rw [← eσ54] at M
      refine lv_aload_n hx hb dX13_runCommands_103 rfl (lv_at hl 0 rfl) ?_
      refine gf_X13_15 (i := 219) S M (by decide) rfl tw_6_122 dX13_runCommands_104 ?_
      refine lv_if_eq (tgt := 124) hx hb dX13_runCommands_107 (by decide) (fun c55 => ?_) (fun c55 => ?_)
      · have hf := it_p c55 hf
        refine lv_aload_n hx hb dX13_runCommands_124 rfl (lv_at hl 0 rfl) ?_
        obtain ⟨σ57, h56, hf⟩ := bd_x hf
        refine g_callR (st1 := []) (cells' := 0) (slots' := 0) M (g_invV (index := 75) S M C0 hl (c_X13_begin l G H.size lo dd σ54   h56) k_X13_begin tw_6_169 tw_0_24 tw_6_167 (by decide) (ge_13 rfl) rfl rfl rfl rfl rfl rfl dX13_runCommands_125) rfl rfl rfl (fun H locs M => ?_)
        refine lv_iconst (v := 0) hx hb dX13_runCommands_128 (by decide) ?_
        refine lv_istore_n (lv' := [(3, .int 0), (0, .ref (G.1 219)), (1, .int y18)]) hx hb dX13_runCommands_129 rfl hl (by decide) rfl (fun ls hl => ?_)
        rcases gs2_x hf with ⟨⟨y59, y60, σ61⟩, h58, hf⟩ | ⟨σ67, h58, hf⟩
        · have hf := un3_x hf
          refine w_X13_runCommands_L130 S C0 y18 gFU 0 σ57 _ h58 _ _ _ M (lv_sub hl [1, 2, 0] rfl) (fun _ _ _ eq H locs ls M hl => ?_) (fun _ eq => nomatch eq)
          cases eq
          refine lv_aload_n hx hb dX13_runCommands_151 rfl (lv_at hl 0 rfl) ?_
          refine lv_iload_n hx hb dX13_runCommands_152 rfl (lv_at hl 1 rfl) ?_
          obtain ⟨σ62, eσ62, hf⟩ := nm_x hf
          refine gp_X13_9 (i := 219) S M (by decide) rfl tw_6_116 dX13_runCommands_153 (fun H locs M => ?_)
          rw [← eσ62] at M
          refine lv_aload_n hx hb dX13_runCommands_156 rfl (lv_at hl 0 rfl) ?_
          refine lv_iconst (v := 2) hx hb dX13_runCommands_157 (by decide) ?_
          obtain ⟨σ63, eσ63, hf⟩ := nm_x hf
          refine gp_X13_12 (i := 219) S M (by decide) rfl tw_6_119 dX13_runCommands_158 (fun H locs M => ?_)
          rw [← eσ63] at M
          refine lv_aload_n hx hb dX13_runCommands_161 rfl (lv_at hl 0 rfl) ?_
          refine lv_iload hx hb dX13_runCommands_162 (lv_at hl 2 rfl) ?_
          obtain ⟨r65, σ66, h64, hf⟩ := bd2_x hf
          refine g_callR (st1 := [.int r65]) (cells' := 0) (slots' := 0) M (g_invV (index := 82) S M C0 hl (c_X13_kept l G H.size lo dd σ63 y60  h64) k_X13_kept tw_6_202 tw_0_30 tw_6_200 (by decide) (ge_13 rfl) rfl rfl rfl rfl rfl rfl dX13_runCommands_164) rfl rfl rfl (fun H locs M => ?_)
          cases hf
          exact g_iret S M hr hlk (by decide) (by decide) dX13_runCommands_167 rfl
        · refine w_X13_runCommands_L130 S C0 y18 gFU 0 σ57 _ h58 _ _ _ M (lv_sub hl [1, 2, 0] rfl) (fun _ _ _ eq => nomatch eq) (fun _ eq H locs ls M hl => ?_)
          cases eq
          refine lv_aload_n hx hb dX13_runCommands_174 rfl (lv_at hl 0 rfl) ?_
          refine lv_aload_n hx hb dX13_runCommands_175 rfl (lv_at hl 0 rfl) ?_
          refine lv_iload_n hx hb dX13_runCommands_176 rfl (lv_at hl 1 rfl) ?_
          obtain ⟨r69, σ70, h68, hf⟩ := bd2_x hf
          refine g_callR (st1 := [.int r69, .ref (G.1 219)]) (cells' := 0) (slots' := 0) M (g_invV (index := 72) S M C0 hl (c_X13_done l G H.size lo dd σ67 y18  h68) k_X13_done tw_6_198 tw_0_29 tw_6_196 (by decide) (ge_13 rfl) rfl rfl rfl rfl rfl rfl dX13_runCommands_177) rfl rfl rfl (fun H locs M => ?_)
          obtain ⟨r72, σ73, h71, hf⟩ := bd2_x hf
          refine g_callR (st1 := [.int r72]) (cells' := 0) (slots' := 0) M (g_invV (index := 82) S M C0 hl (c_X13_kept l G H.size lo dd σ70 r69  h71) k_X13_kept tw_6_202 tw_0_30 tw_6_200 (by decide) (ge_13 rfl) rfl rfl rfl rfl rfl rfl dX13_runCommands_180) rfl rfl rfl (fun H locs M => ?_)
          cases hf
          exact g_iret S M hr hlk (by decide) (by decide) dX13_runCommands_183 rfl
      · have hf := it_n c55 hf
        refine lv_aload_n hx hb dX13_runCommands_110 rfl (lv_at hl 0 rfl) ?_
        refine lv_aload_n hx hb dX13_runCommands_111 rfl (lv_at hl 0 rfl) ?_
        refine gf_X13_14 (i := 219) S M (by decide) rfl tw_6_121 dX13_runCommands_112 ?_
        obtain ⟨σ74, eσ74, hf⟩ := nm_x hf
        refine gp_X13_8 (i := 219) S M (by decide) rfl tw_6_115 dX13_runCommands_115 (fun H locs M => ?_)
        rw [← eσ74] at M
        refine lv_aload_n hx hb dX13_runCommands_118 rfl (lv_at hl 0 rfl) ?_
        refine lv_iconst (v := 1) hx hb dX13_runCommands_119 (by decide) ?_
        obtain ⟨r76, σ77, h75, hf⟩ := bd2_x hf
        refine g_callR (st1 := [.int r76]) (cells' := 0) (slots' := 0) M (g_invV (index := 64) S M C0 hl (c_X13_fails l G H.size lo dd σ74 1  h75) k_X13_fails tw_6_186 tw_0_26 tw_6_184 (by decide) (ge_13 rfl) rfl rfl rfl rfl rfl rfl dX13_runCommands_120) rfl rfl rfl (fun H locs M => ?_)
        cases hf
        exact g_iret S M hr hlk (by decide) (by decide) dX13_runCommands_123 rfl
    · have hf := it_n c52 hf
      refine lv_iconst (v := 1) hx hb dX13_runCommands_90 (by decide) ?_
      refine lv_goto (tgt := 95) hx hb dX13_runCommands_91 (by decide) ?_
      obtain ⟨σ78, eσ78, hf⟩ := nm_x hf
      refine gp_X13_15 (i := 219) S M (by decide) rfl tw_6_122 (by decide) (by decide) dX13_runCommands_95 (fun H locs M => ?_)
      rw [← eσ78] at M
      refine lv_aload_n hx hb dX13_runCommands_98 rfl (lv_at hl 0 rfl) ?_
      refine lv_iconst (v := 0) hx hb dX13_runCommands_99 (by decide) ?_
      obtain ⟨σ79, eσ79, hf⟩ := nm_x hf
      refine gp_X13_7 (i := 219) S M (by decide) rfl tw_6_114 dX13_runCommands_100 (fun H locs M => ?_)
      rw [← eσ79] at M
      refine lv_aload_n hx hb dX13_runCommands_103 rfl (lv_at hl 0 rfl) ?_
      refine gf_X13_15 (i := 219) S M (by decide) rfl tw_6_122 dX13_runCommands_104 ?_
      refine lv_if_eq (tgt := 124) hx hb dX13_runCommands_107 (by decide) (fun c80 => ?_) (fun c80 => ?_)
      · have hf := it_p c80 hf
        refine lv_aload_n hx hb dX13_runCommands_124 rfl (lv_at hl 0 rfl) ?_
        obtain ⟨σ82, h81, hf⟩ := bd_x hf
        refine g_callR (st1 := []) (cells' := 0) (slots' := 0) M (g_invV (index := 75) S M C0 hl (c_X13_begin l G H.size lo dd σ79   h81) k_X13_begin tw_6_169 tw_0_24 tw_6_167 (by decide) (ge_13 rfl) rfl rfl rfl rfl rfl rfl dX13_runCommands_125) rfl rfl rfl (fun H locs M => ?_)
        refine lv_iconst (v := 0) hx hb dX13_runCommands_128 (by decide) ?_
        refine lv_istore_n (lv' := [(3, .int 0), (0, .ref (G.1 219)), (1, .int y18)]) hx hb dX13_runCommands_129 rfl hl (by decide) rfl (fun ls hl => ?_)
        rcases gs2_x hf with ⟨⟨y84, y85, σ86⟩, h83, hf⟩ | ⟨σ92, h83, hf⟩
        · have hf := un3_x hf
          refine w_X13_runCommands_L130 S C0 y18 gFU 0 σ82 _ h83 _ _ _ M (lv_sub hl [1, 2, 0] rfl) (fun _ _ _ eq H locs ls M hl => ?_) (fun _ eq => nomatch eq)
          cases eq
          refine lv_aload_n hx hb dX13_runCommands_151 rfl (lv_at hl 0 rfl) ?_
          refine lv_iload_n hx hb dX13_runCommands_152 rfl (lv_at hl 1 rfl) ?_
          obtain ⟨σ87, eσ87, hf⟩ := nm_x hf
          refine gp_X13_9 (i := 219) S M (by decide) rfl tw_6_116 dX13_runCommands_153 (fun H locs M => ?_)
          rw [← eσ87] at M
          refine lv_aload_n hx hb dX13_runCommands_156 rfl (lv_at hl 0 rfl) ?_
          refine lv_iconst (v := 2) hx hb dX13_runCommands_157 (by decide) ?_
          obtain ⟨σ88, eσ88, hf⟩ := nm_x hf
          refine gp_X13_12 (i := 219) S M (by decide) rfl tw_6_119 dX13_runCommands_158 (fun H locs M => ?_)
          rw [← eσ88] at M
          refine lv_aload_n hx hb dX13_runCommands_161 rfl (lv_at hl 0 rfl) ?_
          refine lv_iload hx hb dX13_runCommands_162 (lv_at hl 2 rfl) ?_
          obtain ⟨r90, σ91, h89, hf⟩ := bd2_x hf
          refine g_callR (st1 := [.int r90]) (cells' := 0) (slots' := 0) M (g_invV (index := 82) S M C0 hl (c_X13_kept l G H.size lo dd σ88 y85  h89) k_X13_kept tw_6_202 tw_0_30 tw_6_200 (by decide) (ge_13 rfl) rfl rfl rfl rfl rfl rfl dX13_runCommands_164) rfl rfl rfl (fun H locs M => ?_)
          cases hf
          exact g_iret S M hr hlk (by decide) (by decide) dX13_runCommands_167 rfl
        · refine w_X13_runCommands_L130 S C0 y18 gFU 0 σ82 _ h83 _ _ _ M (lv_sub hl [1, 2, 0] rfl) (fun _ _ _ eq => nomatch eq) (fun _ eq H locs ls M hl => ?_)
          cases eq
          refine lv_aload_n hx hb dX13_runCommands_174 rfl (lv_at hl 0 rfl) ?_
          refine lv_aload_n hx hb dX13_runCommands_175 rfl (lv_at hl 0 rfl) ?_
          refine lv_iload_n hx hb dX13_runCommands_176 rfl (lv_at hl 1 rfl) ?_
          obtain ⟨r94, σ95, h93, hf⟩ := bd2_x hf
          refine g_callR (st1 := [.int r94, .ref (G.1 219)]) (cells' := 0) (slots' := 0) M (g_invV (index := 72) S M C0 hl (c_X13_done l G H.size lo dd σ92 y18  h93) k_X13_done tw_6_198 tw_0_29 tw_6_196 (by decide) (ge_13 rfl) rfl rfl rfl rfl rfl rfl dX13_runCommands_177) rfl rfl rfl (fun H locs M => ?_)
          obtain ⟨r97, σ98, h96, hf⟩ := bd2_x hf
          refine g_callR (st1 := [.int r97]) (cells' := 0) (slots' := 0) M (g_invV (index := 82) S M C0 hl (c_X13_kept l G H.size lo dd σ95 r94  h96) k_X13_kept tw_6_202 tw_0_30 tw_6_200 (by decide) (ge_13 rfl) rfl rfl rfl rfl rfl rfl dX13_runCommands_180) rfl rfl rfl (fun H locs M => ?_)
          cases hf
          exact g_iret S M hr hlk (by decide) (by decide) dX13_runCommands_183 rfl
      · have hf := it_n c80 hf
        refine lv_aload_n hx hb dX13_runCommands_110 rfl (lv_at hl 0 rfl) ?_
        refine lv_aload_n hx hb dX13_runCommands_111 rfl (lv_at hl 0 rfl) ?_
        refine gf_X13_14 (i := 219) S M (by decide) rfl tw_6_121 dX13_runCommands_112 ?_
        obtain ⟨σ99, eσ99, hf⟩ := nm_x hf
        refine gp_X13_8 (i := 219) S M (by decide) rfl tw_6_115 dX13_runCommands_115 (fun H locs M => ?_)
        rw [← eσ99] at M
        refine lv_aload_n hx hb dX13_runCommands_118 rfl (lv_at hl 0 rfl) ?_
        refine lv_iconst (v := 1) hx hb dX13_runCommands_119 (by decide) ?_
        obtain ⟨r101, σ102, h100, hf⟩ := bd2_x hf
        refine g_callR (st1 := [.int r101]) (cells' := 0) (slots' := 0) M (g_invV (index := 64) S M C0 hl (c_X13_fails l G H.size lo dd σ99 1  h100) k_X13_fails tw_6_186 tw_0_26 tw_6_184 (by decide) (ge_13 rfl) rfl rfl rfl rfl rfl rfl dX13_runCommands_120) rfl rfl rfl (fun H locs M => ?_)
        cases hf
        exact g_iret S M hr hlk (by decide) (by decide) dX13_runCommands_123 rfl
theorem k_X13_errorPosition : gMV yX13_errorPosition cX13_errorPosition 1 (some .int) 0 := ⟨tw_8_21, tw_1_12, by decide⟩
set_option maxHeartbeats 400000 in
set_option maxRecDepth 100000 in
theorem c_X13_errorPosition (l : Launch) (G : gT) (sz : Nat) (lo : Int64) (dd : UInt64) (σ : gM) {r : Int32} {o : gM} (hf : f_X13_errorPosition σ = some (r, o)) : gCT l yX13_errorPosition cX13_errorPosition 1 (some .int) { frames := 1, cells := 0, slots := 0, locals := 21 } 0 0 G sz [.ref (G.1 219)] lo dd σ (.inl (mkI r, o, lo, dd)) := by
  refine gCT_of (by decide) (Nat.le_of_ble_eq_true rfl) (fun p e s m args below meth c ls S hr hlk hnx hsz C0 hl H locs M => ?_)
  subst hsz
  have hx := S.1
  have hb := S.2.1
  unfold f_X13_errorPosition at hf
  refine lv_aload_n hx hb dX13_errorPosition_0 rfl (lv_at hl 0 rfl) ?_
  refine gf_X13_8 (i := 219) S M (by decide) rfl tw_6_115 dX13_errorPosition_1 ?_
  refine lv_iconst (v := (-1)) hx hb dX13_errorPosition_4 (by decide) ?_
  refine lv_icmp_ne (tgt := 16) hx hb dX13_errorPosition_5 (by decide) (fun c1 => ?_) (fun c1 => ?_)
  · have hf := it_n c1 hf
    refine lv_aload_n hx hb dX13_errorPosition_16 rfl (lv_at hl 0 rfl) ?_
    refine lv_aload_n hx hb dX13_errorPosition_17 rfl (lv_at hl 0 rfl) ?_
    refine gf_X13_8 (i := 219) S M (by decide) rfl tw_6_115 dX13_errorPosition_18 ?_
    obtain ⟨r3, σ4, h2, hf⟩ := bd2_x hf
    refine g_callR (st1 := [.int r3]) (cells' := 0) (slots' := 0) M (g_invV (index := 72) S M C0 hl (c_X13_done l G H.size lo dd σ (σ 219 8)  h2) k_X13_done tw_6_198 tw_0_29 tw_6_196 (by decide) (ge_13 rfl) rfl rfl rfl rfl rfl rfl dX13_errorPosition_21) rfl rfl rfl (fun H locs M => ?_)
    cases hf
    exact g_iret S M hr hlk (by decide) (by decide) dX13_errorPosition_24 rfl
  · have hf := it_p c1 hf
    refine lv_aload_n hx hb dX13_errorPosition_8 rfl (lv_at hl 0 rfl) ?_
    refine lv_iconst (v := 1) hx hb dX13_errorPosition_9 (by decide) ?_
    obtain ⟨r6, σ7, h5, hf⟩ := bd2_x hf
    refine g_callR (st1 := [.int r6]) (cells' := 0) (slots' := 0) M (g_invV (index := 64) S M C0 hl (c_X13_fails l G H.size lo dd σ 1  h5) k_X13_fails tw_6_186 tw_0_26 tw_6_184 (by decide) (ge_13 rfl) rfl rfl rfl rfl rfl rfl dX13_errorPosition_10) rfl rfl rfl (fun H locs M => ?_)
    refine lv_goto (tgt := 24) hx hb dX13_errorPosition_13 (by decide) ?_
    cases hf
    exact g_iret S M hr hlk (by decide) (by decide) dX13_errorPosition_24 rfl
theorem k_X13_failedCommand : gMV yX13_failedCommand cX13_failedCommand 1 (some .int) 0 := ⟨tw_8_25, tw_1_12, by decide⟩
set_option maxHeartbeats 400000 in
set_option maxRecDepth 100000 in
theorem c_X13_failedCommand (l : Launch) (G : gT) (sz : Nat) (lo : Int64) (dd : UInt64) (σ : gM) {r : Int32} {o : gM} (hf : f_X13_failedCommand σ = some (r, o)) : gCT l yX13_failedCommand cX13_failedCommand 1 (some .int) { frames := 1, cells := 0, slots := 0, locals := 21 } 0 0 G sz [.ref (G.1 219)] lo dd σ (.inl (mkI r, o, lo, dd)) := by
  refine gCT_of (by decide) (Nat.le_of_ble_eq_true rfl) (fun p e s m args below meth c ls S hr hlk hnx hsz C0 hl H locs M => ?_)
  subst hsz
  have hx := S.1
  have hb := S.2.1
  unfold f_X13_failedCommand at hf
  refine lv_aload_n hx hb dX13_failedCommand_0 rfl (lv_at hl 0 rfl) ?_
  refine gf_X13_9 (i := 219) S M (by decide) rfl tw_6_116 dX13_failedCommand_1 ?_
  refine lv_iconst (v := (-1)) hx hb dX13_failedCommand_4 (by decide) ?_
  refine lv_icmp_ne (tgt := 16) hx hb dX13_failedCommand_5 (by decide) (fun c1 => ?_) (fun c1 => ?_)
  · have hf := it_n c1 hf
    refine lv_aload_n hx hb dX13_failedCommand_16 rfl (lv_at hl 0 rfl) ?_
    refine lv_aload_n hx hb dX13_failedCommand_17 rfl (lv_at hl 0 rfl) ?_
    refine gf_X13_9 (i := 219) S M (by decide) rfl tw_6_116 dX13_failedCommand_18 ?_
    obtain ⟨r3, σ4, h2, hf⟩ := bd2_x hf
    refine g_callR (st1 := [.int r3]) (cells' := 0) (slots' := 0) M (g_invV (index := 72) S M C0 hl (c_X13_done l G H.size lo dd σ (σ 219 9)  h2) k_X13_done tw_6_198 tw_0_29 tw_6_196 (by decide) (ge_13 rfl) rfl rfl rfl rfl rfl rfl dX13_failedCommand_21) rfl rfl rfl (fun H locs M => ?_)
    cases hf
    exact g_iret S M hr hlk (by decide) (by decide) dX13_failedCommand_24 rfl
  · have hf := it_p c1 hf
    refine lv_aload_n hx hb dX13_failedCommand_8 rfl (lv_at hl 0 rfl) ?_
    refine lv_iconst (v := 1) hx hb dX13_failedCommand_9 (by decide) ?_
    obtain ⟨r6, σ7, h5, hf⟩ := bd2_x hf
    refine g_callR (st1 := [.int r6]) (cells' := 0) (slots' := 0) M (g_invV (index := 64) S M C0 hl (c_X13_fails l G H.size lo dd σ 1  h5) k_X13_fails tw_6_186 tw_0_26 tw_6_184 (by decide) (ge_13 rfl) rfl rfl rfl rfl rfl rfl dX13_failedCommand_10) rfl rfl rfl (fun H locs M => ?_)
    refine lv_goto (tgt := 24) hx hb dX13_failedCommand_13 (by decide) ?_
    cases hf
    exact g_iret S M hr hlk (by decide) (by decide) dX13_failedCommand_24 rfl
theorem k_X13_writes : gMV yX13_writes cX13_writes 2 none 1 := ⟨tw_8_33, tw_1_12, by decide⟩
set_option maxHeartbeats 400000 in
set_option maxRecDepth 100000 in
theorem c_X13_writes (l : Launch) (G : gT) (sz : Nat) (lo : Int64) (dd : UInt64) (σ : gM) (a1 : Int32) {o : gM} (hf : f_X13_writes σ a1 = some o) : gCT l yX13_writes cX13_writes 2 none { frames := 0, cells := 0, slots := 0, locals := 0 } 0 0 G sz [.ref (G.1 219), .int a1] lo dd σ (.inl (none, o, lo, dd)) := by
  refine gCT_of (by decide) (Nat.le_of_ble_eq_true rfl) (fun p e s m args below meth c ls S hr hlk hnx hsz C0 hl H locs M => ?_)
  subst hsz
  have hx := S.1
  have hb := S.2.1
  unfold f_X13_writes at hf
  refine lv_aload_n hx hb dX13_writes_0 rfl (lv_at hl 0 rfl) ?_
  refine gf_X13_10 (i := 219) S M (by decide) rfl tw_6_117 dX13_writes_1 ?_
  refine lv_aload_n hx hb dX13_writes_4 rfl (lv_at hl 0 rfl) ?_
  refine gf_X13_11 (i := 219) S M (by decide) rfl tw_6_118 dX13_writes_5 ?_
  refine lv_iload_n hx hb dX13_writes_8 rfl (lv_at hl 1 rfl) ?_
  refine lv_i2c hx hb dX13_writes_9 rfl ?_
  obtain ⟨h1, hf⟩ := gi_x hf
  obtain ⟨σ2, eσ2, hf⟩ := nm_x hf
  refine gk_cast (i := 225) (k := (σ 219 11).toNatClampNeg) S M (by decide) (fun _ => (gca_200 rfl)) h1 rfl dX13_writes_10 (fun H locs M => ?_)
  rw [← eσ2] at M
  refine lv_aload_n hx hb dX13_writes_11 rfl (lv_at hl 0 rfl) ?_
  refine lv_dup hx hb dX13_writes_12 rfl ?_
  refine gf_X13_11 (i := 219) S M (by decide) rfl tw_6_118 dX13_writes_13 ?_
  refine lv_iconst (v := 1) hx hb dX13_writes_16 (by decide) ?_
  refine lv_iadd hx hb dX13_writes_17 ?_
  obtain ⟨σ3, eσ3, hf⟩ := nm_x hf
  refine gp_X13_11 (i := 219) S M (by decide) rfl tw_6_118 dX13_writes_18 (fun H locs M => ?_)
  rw [← eσ3] at M
  cases hf
  exact g_vret S M hr hlk (by decide) (by decide) dX13_writes_21 rfl
theorem k_X13_writesParcel : gMV yX13_writesParcel cX13_writesParcel 3 none 1 := ⟨tw_8_37, tw_1_12, by decide⟩
set_option maxHeartbeats 400000 in
set_option maxRecDepth 100000 in
theorem w_X13_writesParcel_L60 {p : Program} {l : Launch} {e : Env} {s : State} {m : MethodId} {args : Array Value} {below : List Frame} {meth : Method} {c : Code} {Q : State → Prop} {G : gT} {lo : Int64} {dd : UInt64} (S : CallFix p m c cX13_writesParcel 3 s args gTs RX13) (C0 : gCST G (gAA G s.heap.size) s) (p1 : Int32) : ∀ (n : Nat) (v2 : Int32) (σ : gM) (res : gM), f_X13_writesParcel_L60 p1 n v2 σ = some res → ∀ (H : Heap) (locs : List Loc) (ls : Array Slot), gMS G (gAA G s.heap.size) lo dd σ s H locs → lv_has ls 3 [(0, .ref (G.1 219)), (1, .int p1), (2, .int v2)] → (k85 : ∀ (τ : gM), res = τ → ∀ (H : Heap) (locs : List Loc) (ls : Array Slot), gMS G (gAA G s.heap.size) lo dd τ s H locs → lv_has ls 3 [(0, .ref (G.1 219)), (1, .int p1)] → W p l e ({ frames := 1, cells := 0, slots := 0, locals := 21 } : Room) s m args below meth c H locs 0 0 Q (F0 m 85 ls [])) → W p l e ({ frames := 1, cells := 0, slots := 0, locals := 21 } : Room) s m args below meth c H locs 0 0 Q (F0 m 60 ls []) := by
  have hx := S.1
  have hb := S.2.1
  intro n
  induction n with
  | zero =>
    intro v2 σ res hf
    cases hf
  | succ n ih =>
    intro v2 σ res hf H locs ls M hl k85
    rw [f_X13_writesParcel_L60] at hf
    refine lv_iload_n hx hb dX13_writesParcel_60 rfl (lv_at hl 2 rfl) ?_
    refine lv_aload_n hx hb dX13_writesParcel_61 rfl (lv_at hl 0 rfl) ?_
    refine gf_X13_0 (i := 219) S M (by decide) rfl tw_6_107 dX13_writesParcel_62 ?_
    refine lv_bipush (v := 52) hx hb dX13_writesParcel_65 (by decide) ?_
    refine lv_iload_n hx hb dX13_writesParcel_67 rfl (lv_at hl 1 rfl) ?_
    refine lv_iadd hx hb dX13_writesParcel_68 ?_
    obtain ⟨h8, hf⟩ := gi_x hf
    refine gk_iald (i := 220) (k := (52 + p1).toNatClampNeg) S M (by decide) (gaa_134 rfl) h8 rfl dX13_writesParcel_69 ?_
    refine lv_icmp_ge (tgt := 85) hx hb dX13_writesParcel_70 (by decide) (fun c9 => ?_) (fun c9 => ?_)
    · have hf := it_p c9 hf
      cases hf
      exact k85 _ rfl _ _ _ M (lv_sub hl [0, 1] rfl)
    · have hf := it_n c9 hf
      refine lv_aload_n hx hb dX13_writesParcel_73 rfl (lv_at hl 0 rfl) ?_
      refine lv_bipush (v := 104) hx hb dX13_writesParcel_74 (by decide) ?_
      obtain ⟨σ11, h10, hf⟩ := bd_x hf
      refine g_callR (st1 := []) (cells' := 0) (slots' := 0) M (g_invV (index := 200) S M C0 hl (c_X13_writes l G H.size lo dd σ 104  h10) k_X13_writes tw_8_32 tw_0_60 tw_8_30 (by decide) (ge_13 rfl) rfl rfl rfl rfl rfl rfl dX13_writesParcel_76) rfl rfl rfl (fun H locs M => ?_)
      obtain ⟨x12, ex12, hf⟩ := nm_x hf
      refine lv_iinc (v := x12) (lv' := [(2, .int x12), (0, .ref (G.1 219)), (1, .int p1)]) hx hb dX13_writesParcel_79 hl (k := 2) rfl (by rw [ex12]; rfl) (by decide) rfl (fun ls hl => ?_)
      refine lv_goto (tgt := 60) hx hb dX13_writesParcel_82 (by decide) ?_
      exact ih _ _ _ hf _ _ _ M (lv_sub hl [1, 2, 0] rfl) k85
set_option maxHeartbeats 400000 in
set_option maxRecDepth 100000 in
theorem c_X13_writesParcel (l : Launch) (G : gT) (sz : Nat) (lo : Int64) (dd : UInt64) (σ : gM) (a1 : Int32) {o : gM} (hf : f_X13_writesParcel σ a1 = some o) : gCT l yX13_writesParcel cX13_writesParcel 3 none { frames := 1, cells := 0, slots := 0, locals := 21 } 0 0 G sz [.ref (G.1 219), .int a1] lo dd σ (.inl (none, o, lo, dd)) := by
  refine gCT_of (by decide) (Nat.le_of_ble_eq_true rfl) (fun p e s m args below meth c ls S hr hlk hnx hsz C0 hl H locs M => ?_)
  subst hsz
  have hx := S.1
  have hb := S.2.1
  unfold f_X13_writesParcel at hf
  refine lv_aload_n hx hb dX13_writesParcel_0 rfl (lv_at hl 0 rfl) ?_
  refine lv_bipush (v := 32) hx hb dX13_writesParcel_1 (by decide) ?_
  obtain ⟨σ2, h1, hf⟩ := bd_x hf
  refine g_callR (st1 := []) (cells' := 0) (slots' := 0) M (g_invV (index := 200) S M C0 hl (c_X13_writes l G H.size lo dd σ 32  h1) k_X13_writes tw_8_32 tw_0_60 tw_8_30 (by decide) (ge_13 rfl) rfl rfl rfl rfl rfl rfl dX13_writesParcel_3) rfl rfl rfl (fun H locs M => ?_)
  refine lv_aload_n hx hb dX13_writesParcel_6 rfl (lv_at hl 0 rfl) ?_
  refine gf_X13_0 (i := 219) S M (by decide) rfl tw_6_107 dX13_writesParcel_7 ?_
  refine lv_bipush (v := 40) hx hb dX13_writesParcel_10 (by decide) ?_
  refine lv_iload_n hx hb dX13_writesParcel_12 rfl (lv_at hl 1 rfl) ?_
  refine lv_iadd hx hb dX13_writesParcel_13 ?_
  obtain ⟨h3, hf⟩ := gi_x hf
  refine gk_iald (i := 220) (k := (40 + a1).toNatClampNeg) S M (by decide) (gaa_134 rfl) h3 rfl dX13_writesParcel_14 ?_
  refine lv_bipush (v := 9) hx hb dX13_writesParcel_15 (by decide) ?_
  refine lv_icmp_le (tgt := 39) hx hb dX13_writesParcel_17 (by decide) (fun c4 => ?_) (fun c4 => ?_)
  · have hf := it_p c4 hf
    refine lv_aload_n hx hb dX13_writesParcel_39 rfl (lv_at hl 0 rfl) ?_
    refine lv_bipush (v := 48) hx hb dX13_writesParcel_40 (by decide) ?_
    refine lv_aload_n hx hb dX13_writesParcel_42 rfl (lv_at hl 0 rfl) ?_
    refine gf_X13_0 (i := 219) S M (by decide) rfl tw_6_107 dX13_writesParcel_43 ?_
    refine lv_bipush (v := 40) hx hb dX13_writesParcel_46 (by decide) ?_
    refine lv_iload_n hx hb dX13_writesParcel_48 rfl (lv_at hl 1 rfl) ?_
    refine lv_iadd hx hb dX13_writesParcel_49 ?_
    obtain ⟨h5, hf⟩ := gi_x hf
    refine gk_iald (i := 220) (k := (40 + a1).toNatClampNeg) S M (by decide) (gaa_134 rfl) h5 rfl dX13_writesParcel_50 ?_
    refine lv_bipush (v := 10) hx hb dX13_writesParcel_51 (by decide) ?_
    refine lv_irem hx hb dX13_writesParcel_53 (by decide) ?_
    refine lv_iadd hx hb dX13_writesParcel_54 ?_
    obtain ⟨σ7, h6, hf⟩ := bd_x hf
    refine g_callR (st1 := []) (cells' := 0) (slots' := 0) M (g_invV (index := 200) S M C0 hl (c_X13_writes l G H.size lo dd σ2 (48 + ((σ2 220 (40 + a1).toNatClampNeg) - (σ2 220 (40 + a1).toNatClampNeg) / 10 * 10))  h6) k_X13_writes tw_8_32 tw_0_60 tw_8_30 (by decide) (ge_13 rfl) rfl rfl rfl rfl rfl rfl dX13_writesParcel_55) rfl rfl rfl (fun H locs M => ?_)
    refine lv_iconst (v := 0) hx hb dX13_writesParcel_58 (by decide) ?_
    refine lv_istore_n (lv' := [(2, .int 0), (0, .ref (G.1 219)), (1, .int a1)]) hx hb dX13_writesParcel_59 rfl hl (by decide) rfl (fun ls hl => ?_)
    obtain ⟨σ14, h13, hf⟩ := bd_x hf
    refine w_X13_writesParcel_L60 S C0 a1 gFU 0 σ7 _ h13 _ _ _ M (lv_sub hl [1, 2, 0] rfl) (fun _ eq H locs ls M hl => ?_)
    cases eq
    refine lv_aload_n hx hb dX13_writesParcel_85 rfl (lv_at hl 0 rfl) ?_
    refine lv_bipush (v := 62) hx hb dX13_writesParcel_86 (by decide) ?_
    obtain ⟨σ16, h15, hf⟩ := bd_x hf
    refine g_callR (st1 := []) (cells' := 0) (slots' := 0) M (g_invV (index := 200) S M C0 hl (c_X13_writes l G H.size lo dd σ14 62  h15) k_X13_writes tw_8_32 tw_0_60 tw_8_30 (by decide) (ge_13 rfl) rfl rfl rfl rfl rfl rfl dX13_writesParcel_88) rfl rfl rfl (fun H locs M => ?_)
    refine lv_aload_n hx hb dX13_writesParcel_91 rfl (lv_at hl 0 rfl) ?_
    refine lv_bipush (v := 48) hx hb dX13_writesParcel_92 (by decide) ?_
    refine lv_aload_n hx hb dX13_writesParcel_94 rfl (lv_at hl 0 rfl) ?_
    refine gf_X13_0 (i := 219) S M (by decide) rfl tw_6_107 dX13_writesParcel_95 ?_
    refine lv_bipush (v := 64) hx hb dX13_writesParcel_98 (by decide) ?_
    refine lv_iload_n hx hb dX13_writesParcel_100 rfl (lv_at hl 1 rfl) ?_
    refine lv_iadd hx hb dX13_writesParcel_101 ?_
    obtain ⟨h17, hf⟩ := gi_x hf
    refine gk_iald (i := 220) (k := (64 + a1).toNatClampNeg) S M (by decide) (gaa_134 rfl) h17 rfl dX13_writesParcel_102 ?_
    refine lv_iadd hx hb dX13_writesParcel_103 ?_
    obtain ⟨σ19, h18, hf⟩ := bd_x hf
    refine g_callR (st1 := []) (cells' := 0) (slots' := 0) M (g_invV (index := 200) S M C0 hl (c_X13_writes l G H.size lo dd σ16 (48 + (σ16 220 (64 + a1).toNatClampNeg))  h18) k_X13_writes tw_8_32 tw_0_60 tw_8_30 (by decide) (ge_13 rfl) rfl rfl rfl rfl rfl rfl dX13_writesParcel_104) rfl rfl rfl (fun H locs M => ?_)
    cases hf
    exact g_vret S M hr hlk (by decide) (by decide) dX13_writesParcel_107 rfl
  · have hf := it_n c4 hf
    refine lv_aload_n hx hb dX13_writesParcel_20 rfl (lv_at hl 0 rfl) ?_
    refine lv_bipush (v := 48) hx hb dX13_writesParcel_21 (by decide) ?_
    refine lv_aload_n hx hb dX13_writesParcel_23 rfl (lv_at hl 0 rfl) ?_
    refine gf_X13_0 (i := 219) S M (by decide) rfl tw_6_107 dX13_writesParcel_24 ?_
    refine lv_bipush (v := 40) hx hb dX13_writesParcel_27 (by decide) ?_
    refine lv_iload_n hx hb dX13_writesParcel_29 rfl (lv_at hl 1 rfl) ?_
    refine lv_iadd hx hb dX13_writesParcel_30 ?_
    obtain ⟨h20, hf⟩ := gi_x hf
    refine gk_iald (i := 220) (k := (40 + a1).toNatClampNeg) S M (by decide) (gaa_134 rfl) h20 rfl dX13_writesParcel_31 ?_
    refine lv_bipush (v := 10) hx hb dX13_writesParcel_32 (by decide) ?_
    refine lv_idiv hx hb dX13_writesParcel_34 (by decide) ?_
    refine lv_iadd hx hb dX13_writesParcel_35 ?_
    obtain ⟨σ22, h21, hf⟩ := bd_x hf
    refine g_callR (st1 := []) (cells' := 0) (slots' := 0) M (g_invV (index := 200) S M C0 hl (c_X13_writes l G H.size lo dd σ2 (48 + ((σ2 220 (40 + a1).toNatClampNeg) / 10))  h21) k_X13_writes tw_8_32 tw_0_60 tw_8_30 (by decide) (ge_13 rfl) rfl rfl rfl rfl rfl rfl dX13_writesParcel_36) rfl rfl rfl (fun H locs M => ?_)
    refine lv_aload_n hx hb dX13_writesParcel_39 rfl (lv_at hl 0 rfl) ?_
    refine lv_bipush (v := 48) hx hb dX13_writesParcel_40 (by decide) ?_
    refine lv_aload_n hx hb dX13_writesParcel_42 rfl (lv_at hl 0 rfl) ?_
    refine gf_X13_0 (i := 219) S M (by decide) rfl tw_6_107 dX13_writesParcel_43 ?_
    refine lv_bipush (v := 40) hx hb dX13_writesParcel_46 (by decide) ?_
    refine lv_iload_n hx hb dX13_writesParcel_48 rfl (lv_at hl 1 rfl) ?_
    refine lv_iadd hx hb dX13_writesParcel_49 ?_
    obtain ⟨h23, hf⟩ := gi_x hf
    refine gk_iald (i := 220) (k := (40 + a1).toNatClampNeg) S M (by decide) (gaa_134 rfl) h23 rfl dX13_writesParcel_50 ?_
    refine lv_bipush (v := 10) hx hb dX13_writesParcel_51 (by decide) ?_
    refine lv_irem hx hb dX13_writesParcel_53 (by decide) ?_
    refine lv_iadd hx hb dX13_writesParcel_54 ?_
    obtain ⟨σ25, h24, hf⟩ := bd_x hf
    refine g_callR (st1 := []) (cells' := 0) (slots' := 0) M (g_invV (index := 200) S M C0 hl (c_X13_writes l G H.size lo dd σ22 (48 + ((σ22 220 (40 + a1).toNatClampNeg) - (σ22 220 (40 + a1).toNatClampNeg) / 10 * 10))  h24) k_X13_writes tw_8_32 tw_0_60 tw_8_30 (by decide) (ge_13 rfl) rfl rfl rfl rfl rfl rfl dX13_writesParcel_55) rfl rfl rfl (fun H locs M => ?_)
    refine lv_iconst (v := 0) hx hb dX13_writesParcel_58 (by decide) ?_
    refine lv_istore_n (lv' := [(2, .int 0), (0, .ref (G.1 219)), (1, .int a1)]) hx hb dX13_writesParcel_59 rfl hl (by decide) rfl (fun ls hl => ?_)
    obtain ⟨σ27, h26, hf⟩ := bd_x hf
    refine w_X13_writesParcel_L60 S C0 a1 gFU 0 σ25 _ h26 _ _ _ M (lv_sub hl [1, 2, 0] rfl) (fun _ eq H locs ls M hl => ?_)
    cases eq
    refine lv_aload_n hx hb dX13_writesParcel_85 rfl (lv_at hl 0 rfl) ?_
    refine lv_bipush (v := 62) hx hb dX13_writesParcel_86 (by decide) ?_
    obtain ⟨σ29, h28, hf⟩ := bd_x hf
    refine g_callR (st1 := []) (cells' := 0) (slots' := 0) M (g_invV (index := 200) S M C0 hl (c_X13_writes l G H.size lo dd σ27 62  h28) k_X13_writes tw_8_32 tw_0_60 tw_8_30 (by decide) (ge_13 rfl) rfl rfl rfl rfl rfl rfl dX13_writesParcel_88) rfl rfl rfl (fun H locs M => ?_)
    refine lv_aload_n hx hb dX13_writesParcel_91 rfl (lv_at hl 0 rfl) ?_
    refine lv_bipush (v := 48) hx hb dX13_writesParcel_92 (by decide) ?_
    refine lv_aload_n hx hb dX13_writesParcel_94 rfl (lv_at hl 0 rfl) ?_
    refine gf_X13_0 (i := 219) S M (by decide) rfl tw_6_107 dX13_writesParcel_95 ?_
    refine lv_bipush (v := 64) hx hb dX13_writesParcel_98 (by decide) ?_
    refine lv_iload_n hx hb dX13_writesParcel_100 rfl (lv_at hl 1 rfl) ?_
    refine lv_iadd hx hb dX13_writesParcel_101 ?_
    obtain ⟨h30, hf⟩ := gi_x hf
    refine gk_iald (i := 220) (k := (64 + a1).toNatClampNeg) S M (by decide) (gaa_134 rfl) h30 rfl dX13_writesParcel_102 ?_
    refine lv_iadd hx hb dX13_writesParcel_103 ?_
    obtain ⟨σ32, h31, hf⟩ := bd_x hf
    refine g_callR (st1 := []) (cells' := 0) (slots' := 0) M (g_invV (index := 200) S M C0 hl (c_X13_writes l G H.size lo dd σ29 (48 + (σ29 220 (64 + a1).toNatClampNeg))  h31) k_X13_writes tw_8_32 tw_0_60 tw_8_30 (by decide) (ge_13 rfl) rfl rfl rfl rfl rfl rfl dX13_writesParcel_104) rfl rfl rfl (fun H locs M => ?_)
    cases hf
    exact g_vret S M hr hlk (by decide) (by decide) dX13_writesParcel_107 rfl
