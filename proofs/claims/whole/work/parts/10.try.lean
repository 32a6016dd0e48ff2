theorem k_X9_copyFrom : gMV yX9_copyFrom cX9_copyFrom 2 none 1 := ⟨tw_2_225, tw_1_3, by decide⟩
set_option maxHeartbeats 4000000 in
set_option maxRecDepth 100000 in
theorem c_X9_copyFrom (l : Launch) (G : gT) (sz : Nat) (lo : Int64) (dd : UInt64) (σ : gM) (kt : Nat) (ko : Nat) (hkt : kt < 11) (hko : ko < 11) {o : gM} (hf : f_X9_copyFrom σ kt ko = some o) : gCT l yX9_copyFrom cX9_copyFrom 2 none { frames := 1, cells := 0, slots := 0, locals := 64 } 0 0 G sz [.ref (G.1 (1 + 18 * kt + 1)), .ref (G.1 (1 + 18 * ko + 1))] lo dd σ (.inl (none, o, lo, dd)) := by
  refine gCT_of (by decide) (Nat.le_of_ble_eq_true rfl) (fun p e s m args below meth c ls S hr hlk hnx hsz C0 hl M => ?_)
  subst hsz
  have hx := S.1
  have hb := S.2.1
  unfold f_X9_copyFrom at hf
  refine lv_aload_n hx hb dX9_copyFrom_0 rfl (lv_at hl 1 rfl) ?_
  refine gf_X9_0 (i := 1 + 18 * ko + 1) S M (by omega) (gkd_ds hko (by decide)) tw_1_50 dX9_copyFrom_1 ?_
  refine lv_iconst (v := 0) hx hb dX9_copyFrom_4 (by decide) ?_
  refine lv_aload_n hx hb dX9_copyFrom_5 rfl (lv_at hl 0 rfl) ?_
  refine gf_X9_0 (i := 1 + 18 * kt + 1) S M (by omega) (gkd_ds hkt (by decide)) tw_1_50 dX9_copyFrom_6 ?_
  refine lv_iconst (v := 0) hx hb dX9_copyFrom_9 (by decide) ?_
  refine lv_aload_n hx hb dX9_copyFrom_10 rfl (lv_at hl 0 rfl) ?_
  refine gf_X9_0 (i := 1 + 18 * kt + 1) S M (by omega) (gkd_ds hkt (by decide)) tw_1_50 dX9_copyFrom_11 ?_
  refine g_alen (i := 1 + 18 * kt + 2) (t := 0) (v := 36) S M (by omega) (gaa_36 (gkd_ds hkt (by decide))) rfl (by decide) dX9_copyFrom_14 ?_
  obtain ⟨σ1, eσ1, hf⟩ := nm_x hf
  refine g_copy (i := 1 + 18 * ko + 2) (j := 1 + 18 * kt + 2) S M hl.1.symm tw_2_226 tw_2_228 tw_2_227 tw_1_19 (by omega) (by omega) (gaa_36 (gkd_ds hko (by decide))) (fun _ => gaa_36 (gkd_ds hkt (by decide))) (by decide) (by decide) (by decide) (by decide) (by decide) (by decide) (by decide) dX9_copyFrom_15 (fun H locs M => ?_)
  have M : gMS G (gAA G s.heap.size) lo dd σ1 s H locs := by rw [eσ1]; exact M
  refine lv_aload_n hx hb dX9_copyFrom_18 rfl (lv_at hl 0 rfl) ?_
  refine lv_aload_n hx hb dX9_copyFrom_19 rfl (lv_at hl 1 rfl) ?_
  refine gf_X9_4 (i := 1 + 18 * ko + 1) S M (by omega) (gkd_ds hko (by decide)) tw_1_54 dX9_copyFrom_20 ?_
  obtain ⟨σ2, eσ2, hf⟩ := nm_x hf
  refine gp_X9_4 (i := 1 + 18 * kt + 1) S M (by omega) (gkd_ds hkt (by decide)) tw_1_54 dX9_copyFrom_23 (fun H locs M => ?_)
  rw [← eσ2] at M
  cases hf
  exact g_vret S M hr hlk (by decide) (by decide) dX9_copyFrom_26 rfl
theorem k_X8_weightAt : gMV yX8_weightAt cX8_weightAt 4 (some .int) 1 := ⟨tw_2_180, tw_1_4, by decide⟩
set_option maxHeartbeats 4000000 in
set_option maxRecDepth 100000 in
theorem w_X8_weightAt_L4 {p : Program} {l : Launch} {e : Env} {s : State} {m : MethodId} {args : Array Value} {below : List Frame} {meth : Method} {c : Code} {Q : State → Prop} {G : gT} {lo : Int64} {dd : UInt64} (S : CallFix p m c cX8_weightAt 4 s args gTs RX8) (C0 : gCST G (gAA G s.heap.size) s) (p1 : Int32) (σ : gM) : ∀ (n : Nat) (v2 : Int32) (v3 : Int32) (res : Int32), f_X8_weightAt_L4 p1 σ n v2 v3 = some res → ∀ (H : Heap) (locs : List Loc) (ls : Array Slot), gMS G (gAA G s.heap.size) lo dd σ s H locs → lv_has ls 4 [(0, .ref (G.1 7)), (1, .int p1), (2, .int v2), (3, .int v3)] → (k37 : ∀ (u2 : Int32), res = u2 → ∀ (H : Heap) (locs : List Loc) (ls : Array Slot), gMS G (gAA G s.heap.size) lo dd σ s H locs → lv_has ls 4 [(2, .int u2)] → W p l e ({ frames := 0, cells := 0, slots := 0, locals := 0 } : Room) s m args below meth c H locs 0 0 Q (F0 m 37 ls [])) → W p l e ({ frames := 0, cells := 0, slots := 0, locals := 0 } : Room) s m args below meth c H locs 0 0 Q (F0 m 4 ls []) := by
  have hx := S.1
  have hb := S.2.1
  intro n
  induction n with
  | zero =>
    intro v2 v3 res hf
    cases hf
  | succ n ih =>
    intro v2 v3 res hf H locs ls M hl k37
    rw [f_X8_weightAt_L4] at hf
    refine lv_iload_n hx hb dX8_weightAt_4 rfl (lv_at hl 3 rfl) ?_
    refine lv_aload_n hx hb dX8_weightAt_5 rfl (lv_at hl 0 rfl) ?_
    refine gf_X8_5 (i := 7) S M (by decide) rfl tw_1_79 dX8_weightAt_6 ?_
    refine lv_icmp_ge (tgt := 37) hx hb dX8_weightAt_9 (by decide) (fun c1 => ?_) (fun c1 => ?_)
    · have hf := it_p c1 hf
      cases hf
      exact k37 _ rfl _ _ _ M (lv_sub hl [2] rfl)
    · have hf := it_n c1 hf
      refine lv_aload_n hx hb dX8_weightAt_12 rfl (lv_at hl 0 rfl) ?_
      refine gf_X8_3 (i := 7) S M (by decide) rfl tw_1_77 dX8_weightAt_13 ?_
      refine lv_iload_n hx hb dX8_weightAt_16 rfl (lv_at hl 3 rfl) ?_
      obtain ⟨h2, hf⟩ := gi_x hf
      refine gk_iald (i := 11) (k := v3.toNatClampNeg) S M (by decide) (gaa_12 rfl) h2 rfl dX8_weightAt_17 ?_
      refine lv_iload_n hx hb dX8_weightAt_18 rfl (lv_at hl 1 rfl) ?_
      refine lv_icmp_ne (tgt := 31) hx hb dX8_weightAt_19 (by decide) (fun c3 => ?_) (fun c3 => ?_)
      · have hf := it_n c3 hf
        obtain ⟨x4, ex4, hf⟩ := nm_x hf
        refine lv_iinc (v := x4) (lv' := [(3, .int x4), (0, .ref (G.1 7)), (1, .int p1), (2, .int v2)]) hx hb dX8_weightAt_31 hl (k := 3) rfl (by rw [ex4]; rfl) (by decide) rfl (fun ls hl => ?_)
        refine lv_goto (tgt := 4) hx hb dX8_weightAt_34 (by decide) ?_
        exact ih _ _ _ hf _ _ _ M (lv_sub hl [1, 2, 3, 0] rfl) k37
      · have hf := it_p c3 hf
        refine lv_iload_n hx hb dX8_weightAt_22 rfl (lv_at hl 2 rfl) ?_
        refine lv_aload_n hx hb dX8_weightAt_23 rfl (lv_at hl 0 rfl) ?_
        refine gf_X8_0 (i := 7) S M (by decide) rfl tw_1_74 dX8_weightAt_24 ?_
        refine lv_iload_n hx hb dX8_weightAt_27 rfl (lv_at hl 3 rfl) ?_
        obtain ⟨h5, hf⟩ := gi_x hf
        refine gk_iald (i := 8) (k := v3.toNatClampNeg) S M (by decide) (gaa_12 rfl) h5 rfl dX8_weightAt_28 ?_
        refine lv_iadd hx hb dX8_weightAt_29 ?_
        obtain ⟨x6, ex6, hf⟩ := nm_x hf
        refine g_topi ex6 ?_
        refine lv_istore_n (lv' := [(2, .int x6), (0, .ref (G.1 7)), (1, .int p1), (3, .int v3)]) hx hb dX8_weightAt_30 rfl hl (by decide) rfl (fun ls hl => ?_)
        obtain ⟨x7, ex7, hf⟩ := nm_x hf
        refine lv_iinc (v := x7) (lv' := [(3, .int x7), (2, .int x6), (0, .ref (G.1 7)), (1, .int p1)]) hx hb dX8_weightAt_31 hl (k := 3) rfl (by rw [ex7]; rfl) (by decide) rfl (fun ls hl => ?_)
        refine lv_goto (tgt := 4) hx hb dX8_weightAt_34 (by decide) ?_
        exact ih _ _ _ hf _ _ _ M (lv_sub hl [2, 3, 1, 0] rfl) k37
set_option maxHeartbeats 4000000 in
set_option maxRecDepth 100000 in
theorem c_X8_weightAt (l : Launch) (G : gT) (sz : Nat) (lo : Int64) (dd : UInt64) (σ : gM) (a1 : Int32) {o : Int32} (hf : f_X8_weightAt σ a1 = some o) : gCT l yX8_weightAt cX8_weightAt 4 (some .int) { frames := 0, cells := 0, slots := 0, locals := 0 } 0 0 G sz [.ref (G.1 7), .int a1] lo dd σ (.inl (mkI o, σ, lo, dd)) := by
  refine gCT_of (by decide) (Nat.le_of_ble_eq_true rfl) (fun p e s m args below meth c ls S hr hlk hnx hsz C0 hl M => ?_)
  subst hsz
  have hx := S.1
  have hb := S.2.1
  unfold f_X8_weightAt at hf
  refine lv_iconst (v := 0) hx hb dX8_weightAt_0 (by decide) ?_
  refine lv_istore_n (lv' := [(2, .int 0), (0, .ref (G.1 7)), (1, .int a1)]) hx hb dX8_weightAt_1 rfl hl (by decide) rfl (fun ls hl => ?_)
  refine lv_iconst (v := 0) hx hb dX8_weightAt_2 (by decide) ?_
  refine lv_istore_n (lv' := [(3, .int 0), (2, .int 0), (0, .ref (G.1 7)), (1, .int a1)]) hx hb dX8_weightAt_3 rfl hl (by decide) rfl (fun ls hl => ?_)
  obtain ⟨y9, h8, hf⟩ := bd_x hf
  refine w_X8_weightAt_L4 S C0 a1 σ gFU 0 0 _ h8 _ _ _ M (lv_sub hl [2, 3, 1, 0] rfl) (fun _ eq H locs ls M hl => ?_)
  cases eq
  refine lv_iload_n hx hb dX8_weightAt_37 rfl (lv_at hl 0 rfl) ?_
  cases hf
  exact g_iret S M hr hlk (by decide) (by decide) dX8_weightAt_38 rfl
theorem k_X8_weightOf : gMV yX8_weightOf cX8_weightOf 2 (some .int) 1 := ⟨tw_2_200, tw_1_4, by decide⟩
set_option maxHeartbeats 4000000 in
set_option maxRecDepth 100000 in
theorem c_X8_weightOf (l : Launch) (G : gT) (sz : Nat) (lo : Int64) (dd : UInt64) (σ : gM) (a1 : Int32) {o : Int32} (hf : f_X8_weightOf σ a1 = some o) : gCT l yX8_weightOf cX8_weightOf 2 (some .int) { frames := 0, cells := 0, slots := 0, locals := 0 } 0 0 G sz [.ref (G.1 7), .int a1] lo dd σ (.inl (mkI o, σ, lo, dd)) := by
  refine gCT_of (by decide) (Nat.le_of_ble_eq_true rfl) (fun p e s m args below meth c ls S hr hlk hnx hsz C0 hl M => ?_)
  subst hsz
  have hx := S.1
  have hb := S.2.1
  unfold f_X8_weightOf at hf
  refine lv_aload_n hx hb dX8_weightOf_0 rfl (lv_at hl 0 rfl) ?_
  refine gf_X8_0 (i := 7) S M (by decide) rfl tw_1_74 dX8_weightOf_1 ?_
  refine lv_iload_n hx hb dX8_weightOf_4 rfl (lv_at hl 1 rfl) ?_
  obtain ⟨h1, hf⟩ := gi_x hf
  refine gk_iald (i := 8) (k := a1.toNatClampNeg) S M (by decide) (gaa_12 rfl) h1 rfl dX8_weightOf_5 ?_
  cases hf
  exact g_iret S M hr hlk (by decide) (by decide) dX8_weightOf_6 rfl
theorem k_X9_nearestOpen : gMV yX9_nearestOpen cX9_nearestOpen 3 (some .int) 0 := ⟨tw_2_148, tw_1_3, by decide⟩
set_option maxHeartbeats 4000000 in
set_option maxRecDepth 100000 in
theorem w_X9_nearestOpen_L4 {p : Program} {l : Launch} {e : Env} {s : State} {m : MethodId} {args : Array Value} {below : List Frame} {meth : Method} {c : Code} {Q : State → Prop} {G : gT} {lo : Int64} {dd : UInt64} (S : CallFix p m c cX9_nearestOpen 3 s args gTs RX9) (C0 : gCST G (gAA G s.heap.size) s) (σ : gM) : ∀ (n : Nat) (v1 : Int32) (v2 : Int32) (res : Int32), f_X9_nearestOpen_L4 σ n v1 v2 = some res → ∀ (H : Heap) (locs : List Loc) (ls : Array Slot), gMS G (gAA G s.heap.size) lo dd σ s H locs → lv_has ls 3 [(0, .ref (G.1 2)), (1, .int v1), (2, .int v2)] → (k57 : ∀ (u1 : Int32), res = u1 → ∀ (H : Heap) (locs : List Loc) (ls : Array Slot), gMS G (gAA G s.heap.size) lo dd σ s H locs → lv_has ls 3 [(1, .int u1)] → W p l e ({ frames := 0, cells := 0, slots := 0, locals := 0 } : Room) s m args below meth c H locs 0 0 Q (F0 m 57 ls [])) → W p l e ({ frames := 0, cells := 0, slots := 0, locals := 0 } : Room) s m args below meth c H locs 0 0 Q (F0 m 4 ls []) := by
  have hx := S.1
  have hb := S.2.1
  intro n
  induction n with
  | zero =>
    intro v1 v2 res hf
    cases hf
  | succ n ih =>
    intro v1 v2 res hf H locs ls M hl k57
    rw [f_X9_nearestOpen_L4] at hf
    refine lv_iload_n hx hb dX9_nearestOpen_4 rfl (lv_at hl 2 rfl) ?_
    refine lv_bipush (v := 6) hx hb dX9_nearestOpen_5 (by decide) ?_
    refine lv_icmp_ge (tgt := 57) hx hb dX9_nearestOpen_7 (by decide) (fun c1 => ?_) (fun c1 => ?_)
    · have hf := it_p c1 hf
      cases hf
      exact k57 _ rfl _ _ _ M (lv_sub hl [1] rfl)
    · have hf := it_n c1 hf
      refine lv_aload_n hx hb dX9_nearestOpen_10 rfl (lv_at hl 0 rfl) ?_
      refine gf_X9_1 (i := 2) S M (by decide) rfl tw_1_51 dX9_nearestOpen_11 ?_
      refine lv_iload_n hx hb dX9_nearestOpen_14 rfl (lv_at hl 2 rfl) ?_
      obtain ⟨h2, hf⟩ := gi_x hf
      refine gk_iald (i := 4) (k := v2.toNatClampNeg) S M (by decide) (gaa_6 rfl) h2 rfl dX9_nearestOpen_15 ?_
      refine lv_iconst (v := (-1)) hx hb dX9_nearestOpen_16 (by decide) ?_
      refine lv_icmp_eq (tgt := 51) hx hb dX9_nearestOpen_17 (by decide) (fun c3 => ?_) (fun c3 => ?_)
      · have hf := it_p c3 hf
        obtain ⟨x4, ex4, hf⟩ := nm_x hf
        refine lv_iinc (v := x4) (lv' := [(2, .int x4), (0, .ref (G.1 2)), (1, .int v1)]) hx hb dX9_nearestOpen_51 hl (k := 2) rfl (by rw [ex4]; rfl) (by decide) rfl (fun ls hl => ?_)
        refine lv_goto (tgt := 4) hx hb dX9_nearestOpen_54 (by decide) ?_
        exact ih _ _ _ hf _ _ _ M (lv_sub hl [1, 2, 0] rfl) k57
      · have hf := it_n c3 hf
        refine lv_aload_n hx hb dX9_nearestOpen_20 rfl (lv_at hl 0 rfl) ?_
        refine gf_X9_2 (i := 2) S M (by decide) rfl tw_1_52 dX9_nearestOpen_21 ?_
        refine lv_iload_n hx hb dX9_nearestOpen_24 rfl (lv_at hl 2 rfl) ?_
        obtain ⟨h5, hf⟩ := gi_x hf
        refine gk_zald (i := 5) (k := v2.toNatClampNeg) S M (by decide) (gza_6 rfl) h5 rfl dX9_nearestOpen_25 ?_
        refine lv_if_ne (tgt := 51) hx hb dX9_nearestOpen_26 (by decide) (fun c6 => ?_) (fun c6 => ?_)
        · have hf := it_n c6 hf
          obtain ⟨x7, ex7, hf⟩ := nm_x hf
          refine lv_iinc (v := x7) (lv' := [(2, .int x7), (0, .ref (G.1 2)), (1, .int v1)]) hx hb dX9_nearestOpen_51 hl (k := 2) rfl (by rw [ex7]; rfl) (by decide) rfl (fun ls hl => ?_)
          refine lv_goto (tgt := 4) hx hb dX9_nearestOpen_54 (by decide) ?_
          exact ih _ _ _ hf _ _ _ M (lv_sub hl [1, 2, 0] rfl) k57
        · have hf := it_p c6 hf
          refine lv_iload_n hx hb dX9_nearestOpen_29 rfl (lv_at hl 1 rfl) ?_
          refine lv_iconst (v := (-1)) hx hb dX9_nearestOpen_30 (by decide) ?_
          refine lv_icmp_eq (tgt := 49) hx hb dX9_nearestOpen_31 (by decide) (fun c8 => ?_) (fun c8 => ?_)
          · have hf := it_p c8 hf
            refine lv_iload_n hx hb dX9_nearestOpen_49 rfl (lv_at hl 2 rfl) ?_
            refine lv_istore_n (lv' := [(1, .int v2), (0, .ref (G.1 2)), (2, .int v2)]) hx hb dX9_nearestOpen_50 rfl hl (by decide) rfl (fun ls hl => ?_)
            obtain ⟨x9, ex9, hf⟩ := nm_x hf
            refine lv_iinc (v := x9) (lv' := [(2, .int x9), (1, .int v2), (0, .ref (G.1 2))]) hx hb dX9_nearestOpen_51 hl (k := 2) rfl (by rw [ex9]; rfl) (by decide) rfl (fun ls hl => ?_)
            refine lv_goto (tgt := 4) hx hb dX9_nearestOpen_54 (by decide) ?_
            exact ih _ _ _ hf _ _ _ M (lv_sub hl [2, 1, 0] rfl) k57
          · have hf := it_n c8 hf
            refine lv_aload_n hx hb dX9_nearestOpen_34 rfl (lv_at hl 0 rfl) ?_
            refine gf_X9_1 (i := 2) S M (by decide) rfl tw_1_51 dX9_nearestOpen_35 ?_
            refine lv_iload_n hx hb dX9_nearestOpen_38 rfl (lv_at hl 2 rfl) ?_
            obtain ⟨h10, hf⟩ := gi_x hf
            refine gk_iald (i := 4) (k := v2.toNatClampNeg) S M (by decide) (gaa_6 rfl) h10 rfl dX9_nearestOpen_39 ?_
            refine lv_aload_n hx hb dX9_nearestOpen_40 rfl (lv_at hl 0 rfl) ?_
            refine gf_X9_1 (i := 2) S M (by decide) rfl tw_1_51 dX9_nearestOpen_41 ?_
            refine lv_iload_n hx hb dX9_nearestOpen_44 rfl (lv_at hl 1 rfl) ?_
            obtain ⟨h11, hf⟩ := gi_x hf
            refine gk_iald (i := 4) (k := v1.toNatClampNeg) S M (by decide) (gaa_6 rfl) h11 rfl dX9_nearestOpen_45 ?_
            refine lv_icmp_ge (tgt := 51) hx hb dX9_nearestOpen_46 (by decide) (fun c12 => ?_) (fun c12 => ?_)
            · have hf := it_p c12 hf
              obtain ⟨x13, ex13, hf⟩ := nm_x hf
              refine lv_iinc (v := x13) (lv' := [(2, .int x13), (0, .ref (G.1 2)), (1, .int v1)]) hx hb dX9_nearestOpen_51 hl (k := 2) rfl (by rw [ex13]; rfl) (by decide) rfl (fun ls hl => ?_)
              refine lv_goto (tgt := 4) hx hb dX9_nearestOpen_54 (by decide) ?_
              exact ih _ _ _ hf _ _ _ M (lv_sub hl [1, 2, 0] rfl) k57
            · have hf := it_n c12 hf
              refine lv_iload_n hx hb dX9_nearestOpen_49 rfl (lv_at hl 2 rfl) ?_
              refine lv_istore_n (lv' := [(1, .int v2), (0, .ref (G.1 2)), (2, .int v2)]) hx hb dX9_nearestOpen_50 rfl hl (by decide) rfl (fun ls hl => ?_)
              obtain ⟨x14, ex14, hf⟩ := nm_x hf
              refine lv_iinc (v := x14) (lv' := [(2, .int x14), (1, .int v2), (0, .ref (G.1 2))]) hx hb dX9_nearestOpen_51 hl (k := 2) rfl (by rw [ex14]; rfl) (by decide) rfl (fun ls hl => ?_)
              refine lv_goto (tgt := 4) hx hb dX9_nearestOpen_54 (by decide) ?_
              exact ih _ _ _ hf _ _ _ M (lv_sub hl [2, 1, 0] rfl) k57
set_option maxHeartbeats 4000000 in
set_option maxRecDepth 100000 in
theorem c_X9_nearestOpen (l : Launch) (G : gT) (sz : Nat) (lo : Int64) (dd : UInt64) (σ : gM) {o : Int32} (hf : f_X9_nearestOpen σ = some o) : gCT l yX9_nearestOpen cX9_nearestOpen 3 (some .int) { frames := 0, cells := 0, slots := 0, locals := 0 } 0 0 G sz [.ref (G.1 2)] lo dd σ (.inl (mkI o, σ, lo, dd)) := by
  refine gCT_of (by decide) (Nat.le_of_ble_eq_true rfl) (fun p e s m args below meth c ls S hr hlk hnx hsz C0 hl M => ?_)
  subst hsz
  have hx := S.1
  have hb := S.2.1
  unfold f_X9_nearestOpen at hf
  refine lv_iconst (v := (-1)) hx hb dX9_nearestOpen_0 (by decide) ?_
  refine lv_istore_n (lv' := [(1, .int (-1)), (0, .ref (G.1 2))]) hx hb dX9_nearestOpen_1 rfl hl (by decide) rfl (fun ls hl => ?_)
  refine lv_iconst (v := 0) hx hb dX9_nearestOpen_2 (by decide) ?_
  refine lv_istore_n (lv' := [(2, .int 0), (1, .int (-1)), (0, .ref (G.1 2))]) hx hb dX9_nearestOpen_3 rfl hl (by decide) rfl (fun ls hl => ?_)
  obtain ⟨y16, h15, hf⟩ := bd_x hf
  refine w_X9_nearestOpen_L4 S C0 σ gFU (-1) 0 _ h15 _ _ _ M (lv_sub hl [2, 1, 0] rfl) (fun _ eq H locs ls M hl => ?_)
  cases eq
  refine lv_iload_n hx hb dX9_nearestOpen_57 rfl (lv_at hl 0 rfl) ?_
  cases hf
  exact g_iret S M hr hlk (by decide) (by decide) dX9_nearestOpen_58 rfl
theorem k_X9_goOnFrom : gMV yX9_goOnFrom cX9_goOnFrom 5 none 1 := ⟨tw_2_152, tw_1_3, by decide⟩
set_option maxHeartbeats 4000000 in
set_option maxRecDepth 100000 in
theorem w_X9_goOnFrom_L2 {p : Program} {l : Launch} {e : Env} {s : State} {m : MethodId} {args : Array Value} {below : List Frame} {meth : Method} {c : Code} {Q : State → Prop} {G : gT} {lo : Int64} {dd : UInt64} (S : CallFix p m c cX9_goOnFrom 5 s args gTs RX9) (C0 : gCST G (gAA G s.heap.size) s) (p1 : Int32) : ∀ (n : Nat) (v2 : Int32) (σ : gM) (res : gM), f_X9_goOnFrom_L2 p1 n v2 σ = some res → ∀ (H : Heap) (locs : List Loc) (ls : Array Slot), gMS G (gAA G s.heap.size) lo dd σ s H locs → lv_has ls 5 [(0, .ref (G.1 2)), (1, .int p1), (2, .int v2)] → (k69 : ∀ (τ : gM), res = τ → ∀ (H : Heap) (locs : List Loc) (ls : Array Slot), gMS G (gAA G s.heap.size) lo dd τ s H locs → lv_has ls 5 [] → W p l e ({ frames := 0, cells := 0, slots := 0, locals := 0 } : Room) s m args below meth c H locs 0 0 Q (F0 m 69 ls [])) → W p l e ({ frames := 0, cells := 0, slots := 0, locals := 0 } : Room) s m args below meth c H locs 0 0 Q (F0 m 2 ls []) := by
  have hx := S.1
  have hb := S.2.1
  intro n
  induction n with
  | zero =>
    intro v2 σ res hf
    cases hf
  | succ n ih =>
    intro v2 σ res hf H locs ls M hl k69
    rw [f_X9_goOnFrom_L2] at hf
    refine lv_iload_n hx hb dX9_goOnFrom_2 rfl (lv_at hl 2 rfl) ?_
    refine lv_bipush (v := 6) hx hb dX9_goOnFrom_3 (by decide) ?_
    refine lv_icmp_ge (tgt := 69) hx hb dX9_goOnFrom_5 (by decide) (fun c1 => ?_) (fun c1 => ?_)
    · have hf := it_p c1 hf
      cases hf
      exact k69 _ rfl _ _ _ M (lv_sub hl [] rfl)
    · have hf := it_n c1 hf
      refine lv_aload_n hx hb dX9_goOnFrom_8 rfl (lv_at hl 0 rfl) ?_
      refine gf_X9_0 (i := 2) S M (by decide) rfl tw_1_50 dX9_goOnFrom_9 ?_
      refine lv_iload_n hx hb dX9_goOnFrom_12 rfl (lv_at hl 1 rfl) ?_
      refine lv_bipush (v := 6) hx hb dX9_goOnFrom_13 (by decide) ?_
      refine lv_imul hx hb dX9_goOnFrom_15 ?_
      refine lv_iload_n hx hb dX9_goOnFrom_16 rfl (lv_at hl 2 rfl) ?_
      refine lv_iadd hx hb dX9_goOnFrom_17 ?_
      obtain ⟨h2, hf⟩ := gi_x hf
      refine gk_iald (i := 3) (k := ((p1 * 6) + v2).toNatClampNeg) S M (by decide) (gaa_36 rfl) h2 rfl dX9_goOnFrom_18 ?_
      obtain ⟨x3, ex3, hf⟩ := nm_x hf
      refine g_topi ex3 ?_
      refine lv_istore_n (lv' := [(3, .int x3), (0, .ref (G.1 2)), (1, .int p1), (2, .int v2)]) hx hb dX9_goOnFrom_19 rfl hl (by decide) rfl (fun ls hl => ?_)
      refine lv_aload_n hx hb dX9_goOnFrom_20 rfl (lv_at hl 1 rfl) ?_
      refine gf_X9_1 (i := 2) S M (by decide) rfl tw_1_51 dX9_goOnFrom_21 ?_
      refine lv_iload_n hx hb dX9_goOnFrom_24 rfl (lv_at hl 2 rfl) ?_
      obtain ⟨h4, hf⟩ := gi_x hf
      refine gk_iald (i := 4) (k := p1.toNatClampNeg) S M (by decide) (gaa_6 rfl) h4 rfl dX9_goOnFrom_25 ?_
      refine lv_iload_n hx hb dX9_goOnFrom_26 rfl (lv_at hl 0 rfl) ?_
      refine lv_iadd hx hb dX9_goOnFrom_27 ?_
      obtain ⟨x5, ex5, hf⟩ := nm_x hf
      refine g_topi ex5 ?_
      refine lv_istore (lv' := [(4, .int x5), (3, .int x3), (0, .ref (G.1 2)), (1, .int p1), (2, .int v2)]) hx hb dX9_goOnFrom_28 hl (by decide) rfl (fun ls hl => ?_)
      refine lv_iload_n hx hb dX9_goOnFrom_30 rfl (lv_at hl 1 rfl) ?_
      refine lv_if_le (tgt := 63) hx hb dX9_goOnFrom_31 (by decide) (fun c6 => ?_) (fun c6 => ?_)
      · have hf := it_p c6 hf
        obtain ⟨x7, ex7, hf⟩ := nm_x hf
        refine lv_iinc (v := x7) (lv' := [(2, .int x7), (4, .int x5), (3, .int x3), (0, .ref (G.1 2)), (1, .int p1)]) hx hb dX9_goOnFrom_63 hl (k := 4) rfl (by rw [ex7]; rfl) (by decide) rfl (fun ls hl => ?_)
        refine lv_goto (tgt := 2) hx hb dX9_goOnFrom_66 (by decide) ?_
        exact ih _ _ _ hf _ _ _ M (lv_sub hl [3, 4, 0] rfl) k69
      · have hf := it_n c6 hf
        refine lv_aload_n hx hb dX9_goOnFrom_34 rfl (lv_at hl 2 rfl) ?_
        refine gf_X9_1 (i := 2) S M (by decide) rfl tw_1_51 dX9_goOnFrom_35 ?_
        refine lv_iload_n hx hb dX9_goOnFrom_38 rfl (lv_at hl 4 rfl) ?_
        obtain ⟨h8, hf⟩ := gi_x hf
        refine gk_iald (i := 4) (k := v2.toNatClampNeg) S M (by decide) (gaa_6 rfl) h8 rfl dX9_goOnFrom_39 ?_
        refine lv_iconst (v := (-1)) hx hb dX9_goOnFrom_40 (by decide) ?_
        refine lv_icmp_eq (tgt := 55) hx hb dX9_goOnFrom_41 (by decide) (fun c9 => ?_) (fun c9 => ?_)
        · have hf := it_p c9 hf
          refine lv_aload_n hx hb dX9_goOnFrom_55 rfl (lv_at hl 2 rfl) ?_
          refine gf_X9_1 (i := 2) S M (by decide) rfl tw_1_51 dX9_goOnFrom_56 ?_
          refine lv_iload_n hx hb dX9_goOnFrom_59 rfl (lv_at hl 4 rfl) ?_
          refine lv_iload hx hb dX9_goOnFrom_60 (lv_at hl 0 rfl) ?_
          obtain ⟨h10, hf⟩ := gi_x hf
          obtain ⟨σ11, eσ11, hf⟩ := nm_x hf
          refine gk_iast (i := 4) (k := v2.toNatClampNeg) S M (by decide) (fun _ => (gaa_6 rfl)) h10 rfl dX9_goOnFrom_62 (fun H locs M => ?_)
          rw [← eσ11] at M
          obtain ⟨x12, ex12, hf⟩ := nm_x hf
          refine lv_iinc (v := x12) (lv' := [(2, .int x12), (4, .int x5), (3, .int x3), (0, .ref (G.1 2)), (1, .int p1)]) hx hb dX9_goOnFrom_63 hl (k := 4) rfl (by rw [ex12]; rfl) (by decide) rfl (fun ls hl => ?_)
          refine lv_goto (tgt := 2) hx hb dX9_goOnFrom_66 (by decide) ?_
          exact ih _ _ _ hf _ _ _ M (lv_sub hl [3, 4, 0] rfl) k69
        · have hf := it_n c9 hf
          refine lv_iload hx hb dX9_goOnFrom_44 (lv_at hl 0 rfl) ?_
          refine lv_aload_n hx hb dX9_goOnFrom_46 rfl (lv_at hl 2 rfl) ?_
          refine gf_X9_1 (i := 2) S M (by decide) rfl tw_1_51 dX9_goOnFrom_47 ?_
          refine lv_iload_n hx hb dX9_goOnFrom_50 rfl (lv_at hl 4 rfl) ?_
          obtain ⟨h13, hf⟩ := gi_x hf
          refine gk_iald (i := 4) (k := v2.toNatClampNeg) S M (by decide) (gaa_6 rfl) h13 rfl dX9_goOnFrom_51 ?_
          refine lv_icmp_ge (tgt := 63) hx hb dX9_goOnFrom_52 (by decide) (fun c14 => ?_) (fun c14 => ?_)
          · have hf := it_p c14 hf
            obtain ⟨x15, ex15, hf⟩ := nm_x hf
            refine lv_iinc (v := x15) (lv' := [(2, .int x15), (4, .int x5), (3, .int x3), (0, .ref (G.1 2)), (1, .int p1)]) hx hb dX9_goOnFrom_63 hl (k := 4) rfl (by rw [ex15]; rfl) (by decide) rfl (fun ls hl => ?_)
            refine lv_goto (tgt := 2) hx hb dX9_goOnFrom_66 (by decide) ?_
            exact ih _ _ _ hf _ _ _ M (lv_sub hl [3, 4, 0] rfl) k69
          · have hf := it_n c14 hf
            refine lv_aload_n hx hb dX9_goOnFrom_55 rfl (lv_at hl 2 rfl) ?_
            refine gf_X9_1 (i := 2) S M (by decide) rfl tw_1_51 dX9_goOnFrom_56 ?_
            refine lv_iload_n hx hb dX9_goOnFrom_59 rfl (lv_at hl 4 rfl) ?_
            refine lv_iload hx hb dX9_goOnFrom_60 (lv_at hl 0 rfl) ?_
            obtain ⟨h16, hf⟩ := gi_x hf
            obtain ⟨σ17, eσ17, hf⟩ := nm_x hf
            refine gk_iast (i := 4) (k := v2.toNatClampNeg) S M (by decide) (fun _ => (gaa_6 rfl)) h16 rfl dX9_goOnFrom_62 (fun H locs M => ?_)
            rw [← eσ17] at M
            obtain ⟨x18, ex18, hf⟩ := nm_x hf
            refine lv_iinc (v := x18) (lv' := [(2, .int x18), (4, .int x5), (3, .int x3), (0, .ref (G.1 2)), (1, .int p1)]) hx hb dX9_goOnFrom_63 hl (k := 4) rfl (by rw [ex18]; rfl) (by decide) rfl (fun ls hl => ?_)
            refine lv_goto (tgt := 2) hx hb dX9_goOnFrom_66 (by decide) ?_
            exact ih _ _ _ hf _ _ _ M (lv_sub hl [3, 4, 0] rfl) k69
set_option maxHeartbeats 4000000 in
set_option maxRecDepth 100000 in
theorem c_X9_goOnFrom (l : Launch) (G : gT) (sz : Nat) (lo : Int64) (dd : UInt64) (σ : gM) (a1 : Int32) {o : gM} (hf : f_X9_goOnFrom σ a1 = some o) : gCT l yX9_goOnFrom cX9_goOnFrom 5 none { frames := 0, cells := 0, slots := 0, locals := 0 } 0 0 G sz [.ref (G.1 2), .int a1] lo dd σ (.inl (none, o, lo, dd)) := by
  refine gCT_of (by decide) (Nat.le_of_ble_eq_true rfl) (fun p e s m args below meth c ls S hr hlk hnx hsz C0 hl M => ?_)
  subst hsz
  have hx := S.1
  have hb := S.2.1
  unfold f_X9_goOnFrom at hf
  refine lv_iconst (v := 0) hx hb dX9_goOnFrom_0 (by decide) ?_
  refine lv_istore_n (lv' := [(2, .int 0), (0, .ref (G.1 2)), (1, .int a1)]) hx hb dX9_goOnFrom_1 rfl hl (by decide) rfl (fun ls hl => ?_)
  obtain ⟨σ20, h19, hf⟩ := bd_x hf
  refine w_X9_goOnFrom_L2 S C0 a1 gFU 0 σ _ h19 _ _ _ M (lv_sub hl [1, 2, 0] rfl) (fun _ eq H locs ls M hl => ?_)
  cases eq
  cases hf
  exact g_vret S M hr hlk (by decide) (by decide) dX9_goOnFrom_69 rfl
theorem k_X9_measureFrom : gMV yX9_measureFrom cX9_measureFrom 4 none 1 := ⟨tw_2_144, tw_1_3, by decide⟩
set_option maxHeartbeats 4000000 in
set_option maxRecDepth 100000 in
theorem w_X9_measureFrom_L2 {p : Program} {l : Launch} {e : Env} {s : State} {m : MethodId} {args : Array Value} {below : List Frame} {meth : Method} {c : Code} {Q : State → Prop} {G : gT} {lo : Int64} {dd : UInt64} (S : CallFix p m c cX9_measureFrom 4 s args gTs RX9) (C0 : gCST G (gAA G s.heap.size) s) (p1 : Int32) : ∀ (n : Nat) (v2 : Int32) (σ : gM) (res : gM), f_X9_measureFrom_L2 p1 n v2 σ = some res → ∀ (H : Heap) (locs : List Loc) (ls : Array Slot), gMS G (gAA G s.heap.size) lo dd σ s H locs → lv_has ls 4 [(0, .ref (G.1 2)), (1, .int p1), (2, .int v2)] → (k28 : ∀ (τ : gM), res = τ → ∀ (H : Heap) (locs : List Loc) (ls : Array Slot), gMS G (gAA G s.heap.size) lo dd τ s H locs → lv_has ls 4 [(0, .ref (G.1 2)), (1, .int p1)] → W p l e ({ frames := 1, cells := 0, slots := 0, locals := 24 } : Room) s m args below meth c H locs 0 0 Q (F0 m 28 ls [])) → W p l e ({ frames := 1, cells := 0, slots := 0, locals := 24 } : Room) s m args below meth c H locs 0 0 Q (F0 m 2 ls []) := by
  have hx := S.1
  have hb := S.2.1
  intro n
  induction n with
  | zero =>
    intro v2 σ res hf
    cases hf
  | succ n ih =>
    intro v2 σ res hf H locs ls M hl k28
    rw [f_X9_measureFrom_L2] at hf
    refine lv_iload_n hx hb dX9_measureFrom_2 rfl (lv_at hl 2 rfl) ?_
    refine lv_bipush (v := 6) hx hb dX9_measureFrom_3 (by decide) ?_
    refine lv_icmp_ge (tgt := 28) hx hb dX9_measureFrom_5 (by decide) (fun c1 => ?_) (fun c1 => ?_)
    · have hf := it_p c1 hf
      cases hf
      exact k28 _ rfl _ _ _ M (lv_sub hl [0, 1] rfl)
    · have hf := it_n c1 hf
      refine lv_aload_n hx hb dX9_measureFrom_8 rfl (lv_at hl 0 rfl) ?_
      refine gf_X9_1 (i := 2) S M (by decide) rfl tw_1_51 dX9_measureFrom_9 ?_
      refine lv_iload_n hx hb dX9_measureFrom_12 rfl (lv_at hl 2 rfl) ?_
      refine lv_iconst (v := (-1)) hx hb dX9_measureFrom_13 (by decide) ?_
      obtain ⟨h2, hf⟩ := gi_x hf
      obtain ⟨σ3, eσ3, hf⟩ := nm_x hf
      refine gk_iast (i := 4) (k := v2.toNatClampNeg) S M (by decide) (fun _ => (gaa_6 rfl)) h2 rfl dX9_measureFrom_14 (fun H locs M => ?_)
      rw [← eσ3] at M
      refine lv_aload_n hx hb dX9_measureFrom_15 rfl (lv_at hl 0 rfl) ?_
      refine gf_X9_2 (i := 2) S M (by decide) rfl tw_1_52 dX9_measureFrom_16 ?_
      refine lv_iload_n hx hb dX9_measureFrom_19 rfl (lv_at hl 2 rfl) ?_
      refine lv_iconst (v := 0) hx hb dX9_measureFrom_20 (by decide) ?_
      obtain ⟨h4, hf⟩ := gi_x hf
      obtain ⟨σ5, eσ5, hf⟩ := nm_x hf
      refine gk_zast (i := 5) (k := v2.toNatClampNeg) S M (by decide) (fun _ => (gza_6 rfl)) h4 rfl dX9_measureFrom_21 (fun H locs M => ?_)
      rw [← eσ5] at M
      obtain ⟨x6, ex6, hf⟩ := nm_x hf
      refine lv_iinc (v := x6) (lv' := [(2, .int x6), (0, .ref (G.1 2)), (1, .int p1)]) hx hb dX9_measureFrom_22 hl (k := 2) rfl (by rw [ex6]; rfl) (by decide) rfl (fun ls hl => ?_)
      refine lv_goto (tgt := 2) hx hb dX9_measureFrom_25 (by decide) ?_
      exact ih _ _ _ hf _ _ _ M (lv_sub hl [1, 2, 0] rfl) k28
set_option maxHeartbeats 4000000 in
set_option maxRecDepth 100000 in
theorem w_X9_measureFrom_L37 {p : Program} {l : Launch} {e : Env} {s : State} {m : MethodId} {args : Array Value} {below : List Frame} {meth : Method} {c : Code} {Q : State → Prop} {G : gT} {lo : Int64} {dd : UInt64} (S : CallFix p m c cX9_measureFrom 4 s args gTs RX9) (C0 : gCST G (gAA G s.heap.size) s) : ∀ (n : Nat) (v2 : Int32) (σ : gM) (res : (gM) ⊕ (gM)), f_X9_measureFrom_L37 n v2 σ = some res → ∀ (H : Heap) (locs : List Loc) (ls : Array Slot), gMS G (gAA G s.heap.size) lo dd σ s H locs → lv_has ls 4 [(0, .ref (G.1 2)), (2, .int v2)] → (k53 : ∀ (τ : gM), res = .inl τ → ∀ (H : Heap) (locs : List Loc) (ls : Array Slot), gMS G (gAA G s.heap.size) lo dd τ s H locs → lv_has ls 4 [] → W p l e ({ frames := 1, cells := 0, slots := 0, locals := 24 } : Room) s m args below meth c H locs 0 0 Q (F0 m 53 ls [])) → (k72 : ∀ (τ : gM), res = .inr (τ) → ∀ (H : Heap) (locs : List Loc) (ls : Array Slot), gMS G (gAA G s.heap.size) lo dd τ s H locs → lv_has ls 4 [] → W p l e ({ frames := 1, cells := 0, slots := 0, locals := 24 } : Room) s m args below meth c H locs 0 0 Q (F0 m 72 ls [])) → W p l e ({ frames := 1, cells := 0, slots := 0, locals := 24 } : Room) s m args below meth c H locs 0 0 Q (F0 m 37 ls []) := by
  have hx := S.1
  have hb := S.2.1
  intro n
  induction n with
  | zero =>
    intro v2 σ res hf
    cases hf
  | succ n ih =>
    intro v2 σ res hf H locs ls M hl k53 k72
    rw [f_X9_measureFrom_L37] at hf
    refine lv_iload_n hx hb dX9_measureFrom_37 rfl (lv_at hl 1 rfl) ?_
    refine lv_bipush (v := 6) hx hb dX9_measureFrom_38 (by decide) ?_
    refine lv_icmp_ge (tgt := 72) hx hb dX9_measureFrom_40 (by decide) (fun c11 => ?_) (fun c11 => ?_)
    · have hf := it_p c11 hf
      cases hf
      exact k72 _ rfl _ _ _ M (lv_sub hl [] rfl)
    · have hf := it_n c11 hf
      refine lv_aload_n hx hb dX9_measureFrom_43 rfl (lv_at hl 0 rfl) ?_
      obtain ⟨r13, h12, hf⟩ := bd_x hf
      refine g_callR (st1 := [.int r13]) (cells' := 0) (slots' := 0) M (g_invV (index := 43) S M C0 hl (c_X9_nearestOpen l G H.size lo dd σ   h12) k_X9_nearestOpen tw_2_147 tw_0_3 tw_2_145 (by decide) (ge_2 rfl) rfl rfl rfl rfl rfl rfl dX9_measureFrom_44) rfl rfl rfl (fun H locs M => ?_)
      refine lv_istore_n (lv' := [(3, .int r13), (0, .ref (G.1 2)), (2, .int v2)]) hx hb dX9_measureFrom_47 rfl hl (by decide) rfl (fun ls hl => ?_)
      refine lv_iload_n hx hb dX9_measureFrom_48 rfl (lv_at hl 0 rfl) ?_
      refine lv_iconst (v := (-1)) hx hb dX9_measureFrom_49 (by decide) ?_
      refine lv_icmp_ne (tgt := 54) hx hb dX9_measureFrom_50 (by decide) (fun c14 => ?_) (fun c14 => ?_)
      · have hf := it_n c14 hf
        refine lv_aload_n hx hb dX9_measureFrom_54 rfl (lv_at hl 1 rfl) ?_
        refine gf_X9_2 (i := 2) S M (by decide) rfl tw_1_52 dX9_measureFrom_55 ?_
        refine lv_iload_n hx hb dX9_measureFrom_58 rfl (lv_at hl 0 rfl) ?_
        refine lv_iconst (v := 1) hx hb dX9_measureFrom_59 (by decide) ?_
        obtain ⟨h15, hf⟩ := gi_x hf
        obtain ⟨σ16, eσ16, hf⟩ := nm_x hf
        refine gk_zast (i := 5) (k := r13.toNatClampNeg) S M (by decide) (fun _ => (gza_6 rfl)) h15 rfl dX9_measureFrom_60 (fun H locs M => ?_)
        rw [← eσ16] at M
        refine lv_aload_n hx hb dX9_measureFrom_61 rfl (lv_at hl 1 rfl) ?_
        refine lv_iload_n hx hb dX9_measureFrom_62 rfl (lv_at hl 0 rfl) ?_
        obtain ⟨σ18, h17, hf⟩ := bd_x hf
        refine g_callR (st1 := []) (cells' := 0) (slots' := 0) M (g_invV (index := 47) S M C0 hl (c_X9_goOnFrom l G H.size lo dd σ16 r13  h17) k_X9_goOnFrom tw_2_151 tw_0_4 tw_2_149 (by decide) (ge_2 rfl) rfl rfl rfl rfl rfl rfl dX9_measureFrom_63) rfl rfl rfl (fun H locs M => ?_)
        obtain ⟨x19, ex19, hf⟩ := nm_x hf
        refine lv_iinc (v := x19) (lv' := [(2, .int x19), (3, .int r13), (0, .ref (G.1 2))]) hx hb dX9_measureFrom_66 hl (k := 2) rfl (by rw [ex19]; rfl) (by decide) rfl (fun ls hl => ?_)
        refine lv_goto (tgt := 37) hx hb dX9_measureFrom_69 (by decide) ?_
        exact ih _ _ _ hf _ _ _ M (lv_sub hl [2, 0] rfl) k53 k72
      · have hf := it_p c14 hf
        cases hf
        exact k53 _ rfl _ _ _ M (lv_sub hl [] rfl)
set_option maxHeartbeats 4000000 in
set_option maxRecDepth 100000 in
theorem c_X9_measureFrom (l : Launch) (G : gT) (sz : Nat) (lo : Int64) (dd : UInt64) (σ : gM) (a1 : Int32) {o : gM} (hf : f_X9_measureFrom σ a1 = some o) : gCT l yX9_measureFrom cX9_measureFrom 4 none { frames := 1, cells := 0, slots := 0, locals := 24 } 0 0 G sz [.ref (G.1 2), .int a1] lo dd σ (.inl (none, o, lo, dd)) := by
  refine gCT_of (by decide) (Nat.le_of_ble_eq_true rfl) (fun p e s m args below meth c ls S hr hlk hnx hsz C0 hl M => ?_)
  subst hsz
  have hx := S.1
  have hb := S.2.1
  unfold f_X9_measureFrom at hf
  refine lv_iconst (v := 0) hx hb dX9_measureFrom_0 (by decide) ?_
  refine lv_istore_n (lv' := [(2, .int 0), (0, .ref (G.1 2)), (1, .int a1)]) hx hb dX9_measureFrom_1 rfl hl (by decide) rfl (fun ls hl => ?_)
  obtain ⟨σ8, h7, hf⟩ := bd_x hf
  refine w_X9_measureFrom_L2 S C0 a1 gFU 0 σ _ h7 _ _ _ M (lv_sub hl [1, 2, 0] rfl) (fun _ eq H locs ls M hl => ?_)
  cases eq
  refine lv_aload_n hx hb dX9_measureFrom_28 rfl (lv_at hl 0 rfl) ?_
  refine gf_X9_1 (i := 2) S M (by decide) rfl tw_1_51 dX9_measureFrom_29 ?_
  refine lv_iload_n hx hb dX9_measureFrom_32 rfl (lv_at hl 1 rfl) ?_
  refine lv_iconst (v := 0) hx hb dX9_measureFrom_33 (by decide) ?_
  obtain ⟨h9, hf⟩ := gi_x hf
  obtain ⟨σ10, eσ10, hf⟩ := nm_x hf
  refine gk_iast (i := 4) (k := a1.toNatClampNeg) S M (by decide) (fun _ => (gaa_6 rfl)) h9 rfl dX9_measureFrom_34 (fun H locs M => ?_)
  rw [← eσ10] at M
  refine lv_iconst (v := 0) hx hb dX9_measureFrom_35 (by decide) ?_
  refine lv_istore_n (lv' := [(2, .int 0), (0, .ref (G.1 2)), (1, .int a1)]) hx hb dX9_measureFrom_36 rfl hl (by decide) rfl (fun ls hl => ?_)
  rcases gs2_x hf with ⟨σ21, h20, hf⟩ | ⟨σ22, h20, hf⟩
  · refine w_X9_measureFrom_L37 S C0 gFU 0 σ10 _ h20 _ _ _ M (lv_sub hl [1, 0] rfl) (fun _ eq H locs ls M hl => ?_) (fun _ eq => nomatch eq)
    cases eq
    cases hf
    exact g_vret S M hr hlk (by decide) (by decide) dX9_measureFrom_53 rfl
  · refine w_X9_measureFrom_L37 S C0 gFU 0 σ10 _ h20 _ _ _ M (lv_sub hl [1, 0] rfl) (fun _ eq => nomatch eq) (fun _ eq H locs ls M hl => ?_)
    cases eq
    cases hf
    exact g_vret S M hr hlk (by decide) (by decide) dX9_measureFrom_72 rfl
theorem k_X8_deliverFrom : gMV yX8_deliverFrom cX8_deliverFrom 5 (some .int) 2 := ⟨tw_4_96, tw_1_4, by decide⟩
set_option maxHeartbeats 4000000 in
set_option maxRecDepth 100000 in
theorem w_X8_deliverFrom_L5 {p : Program} {l : Launch} {e : Env} {s : State} {m : MethodId} {args : Array Value} {below : List Frame} {meth : Method} {c : Code} {Q : State → Prop} {G : gT} {lo : Int64} {dd : UInt64} (S : CallFix p m c cX8_deliverFrom 5 s args gTs RX8) (C0 : gCST G (gAA G s.heap.size) s) (p1 : Int32) (p2 : Int32) : ∀ (n : Nat) (v3 : Int32) (v4 : Int32) (σ : gM) (res : Int32 × gM), f_X8_deliverFrom_L5 p1 p2 n v3 v4 σ = some res → ∀ (H : Heap) (locs : List Loc) (ls : Array Slot), gMS G (gAA G s.heap.size) lo dd σ s H locs → lv_has ls 5 [(0, .ref (G.1 7)), (1, .int p1), (2, .int p2), (3, .int v3), (4, .int v4)] → (k54 : ∀ (u3 : Int32) (τ : gM), res = (u3, τ) → ∀ (H : Heap) (locs : List Loc) (ls : Array Slot), gMS G (gAA G s.heap.size) lo dd τ s H locs → lv_has ls 5 [(3, .int u3)] → W p l e ({ frames := 0, cells := 0, slots := 0, locals := 0 } : Room) s m args below meth c H locs 0 0 Q (F0 m 54 ls [])) → W p l e ({ frames := 0, cells := 0, slots := 0, locals := 0 } : Room) s m args below meth c H locs 0 0 Q (F0 m 5 ls []) := by
  have hx := S.1
  have hb := S.2.1
  intro n
  induction n with
  | zero =>
    intro v3 v4 σ res hf
    cases hf
  | succ n ih =>
    intro v3 v4 σ res hf H locs ls M hl k54
    rw [f_X8_deliverFrom_L5] at hf
    refine lv_iload hx hb dX8_deliverFrom_5 (lv_at hl 4 rfl) ?_
    refine lv_aload_n hx hb dX8_deliverFrom_7 rfl (lv_at hl 0 rfl) ?_
    refine gf_X8_5 (i := 7) S M (by decide) rfl tw_1_79 dX8_deliverFrom_8 ?_
    refine lv_icmp_ge (tgt := 54) hx hb dX8_deliverFrom_11 (by decide) (fun c1 => ?_) (fun c1 => ?_)
    · have hf := it_p c1 hf
      cases hf
      exact k54 _ _ rfl _ _ _ M (lv_sub hl [3] rfl)
    · have hf := it_n c1 hf
      refine lv_aload_n hx hb dX8_deliverFrom_14 rfl (lv_at hl 0 rfl) ?_
      refine gf_X8_3 (i := 7) S M (by decide) rfl tw_1_77 dX8_deliverFrom_15 ?_
      refine lv_iload hx hb dX8_deliverFrom_18 (lv_at hl 4 rfl) ?_
      obtain ⟨h2, hf⟩ := gi_x hf
      refine gk_iald (i := 11) (k := v4.toNatClampNeg) S M (by decide) (gaa_12 rfl) h2 rfl dX8_deliverFrom_20 ?_
      refine lv_iload_n hx hb dX8_deliverFrom_21 rfl (lv_at hl 1 rfl) ?_
      refine lv_icmp_ne (tgt := 48) hx hb dX8_deliverFrom_22 (by decide) (fun c3 => ?_) (fun c3 => ?_)
      · have hf := it_n c3 hf
        obtain ⟨x4, ex4, hf⟩ := nm_x hf
        refine lv_iinc (v := x4) (lv' := [(4, .int x4), (0, .ref (G.1 7)), (1, .int p1), (2, .int p2), (3, .int v3)]) hx hb dX8_deliverFrom_48 hl (k := 4) rfl (by rw [ex4]; rfl) (by decide) rfl (fun ls hl => ?_)
        refine lv_goto (tgt := 5) hx hb dX8_deliverFrom_51 (by decide) ?_
        exact ih _ _ _ _ hf _ _ _ M (lv_sub hl [1, 2, 3, 4, 0] rfl) k54
      · have hf := it_p c3 hf
        refine lv_aload_n hx hb dX8_deliverFrom_25 rfl (lv_at hl 0 rfl) ?_
        refine gf_X8_2 (i := 7) S M (by decide) rfl tw_1_76 dX8_deliverFrom_26 ?_
        refine lv_iload hx hb dX8_deliverFrom_29 (lv_at hl 4 rfl) ?_
        obtain ⟨h5, hf⟩ := gi_x hf
        refine gk_iald (i := 10) (k := v4.toNatClampNeg) S M (by decide) (gaa_12 rfl) h5 rfl dX8_deliverFrom_31 ?_
        refine lv_iload_n hx hb dX8_deliverFrom_32 rfl (lv_at hl 2 rfl) ?_
        refine lv_icmp_ne (tgt := 48) hx hb dX8_deliverFrom_33 (by decide) (fun c6 => ?_) (fun c6 => ?_)
        · have hf := it_n c6 hf
          obtain ⟨x7, ex7, hf⟩ := nm_x hf
          refine lv_iinc (v := x7) (lv' := [(4, .int x7), (0, .ref (G.1 7)), (1, .int p1), (2, .int p2), (3, .int v3)]) hx hb dX8_deliverFrom_48 hl (k := 4) rfl (by rw [ex7]; rfl) (by decide) rfl (fun ls hl => ?_)
          refine lv_goto (tgt := 5) hx hb dX8_deliverFrom_51 (by decide) ?_
          exact ih _ _ _ _ hf _ _ _ M (lv_sub hl [1, 2, 3, 4, 0] rfl) k54
        · have hf := it_p c6 hf
          refine lv_aload_n hx hb dX8_deliverFrom_36 rfl (lv_at hl 0 rfl) ?_
          refine gf_X8_3 (i := 7) S M (by decide) rfl tw_1_77 dX8_deliverFrom_37 ?_
          refine lv_iload hx hb dX8_deliverFrom_40 (lv_at hl 4 rfl) ?_
          refine lv_bipush (v := (-2)) hx hb dX8_deliverFrom_42 (by decide) ?_
          obtain ⟨h8, hf⟩ := gi_x hf
          obtain ⟨σ9, eσ9, hf⟩ := nm_x hf
          refine gk_iast (i := 11) (k := v4.toNatClampNeg) S M (by decide) (fun _ => (gaa_12 rfl)) h8 rfl dX8_deliverFrom_44 (fun H locs M => ?_)
          rw [← eσ9] at M
          obtain ⟨x10, ex10, hf⟩ := nm_x hf
          refine lv_iinc (v := x10) (lv' := [(3, .int x10), (0, .ref (G.1 7)), (1, .int p1), (2, .int p2), (4, .int v4)]) hx hb dX8_deliverFrom_45 hl (k := 3) rfl (by rw [ex10]; rfl) (by decide) rfl (fun ls hl => ?_)
          obtain ⟨x11, ex11, hf⟩ := nm_x hf
          refine lv_iinc (v := x11) (lv' := [(4, .int x11), (3, .int x10), (0, .ref (G.1 7)), (1, .int p1), (2, .int p2)]) hx hb dX8_deliverFrom_48 hl (k := 4) rfl (by rw [ex11]; rfl) (by decide) rfl (fun ls hl => ?_)
          refine lv_goto (tgt := 5) hx hb dX8_deliverFrom_51 (by decide) ?_
          exact ih _ _ _ _ hf _ _ _ M (lv_sub hl [2, 3, 4, 1, 0] rfl) k54
set_option maxHeartbeats 4000000 in
set_option maxRecDepth 100000 in
theorem c_X8_deliverFrom (l : Launch) (G : gT) (sz : Nat) (lo : Int64) (dd : UInt64) (σ : gM) (a1 : Int32) (a2 : Int32) {r : Int32} {o : gM} (hf : f_X8_deliverFrom σ a1 a2 = some (r, o)) : gCT l yX8_deliverFrom cX8_deliverFrom 5 (some .int) { frames := 0, cells := 0, slots := 0, locals := 0 } 0 0 G sz [.ref (G.1 7), .int a1, .int a2] lo dd σ (.inl (mkI r, o, lo, dd)) := by
  refine gCT_of (by decide) (Nat.le_of_ble_eq_true rfl) (fun p e s m args below meth c ls S hr hlk hnx hsz C0 hl M => ?_)
  subst hsz
  have hx := S.1
  have hb := S.2.1
  unfold f_X8_deliverFrom at hf
  refine lv_iconst (v := 0) hx hb dX8_deliverFrom_0 (by decide) ?_
  refine lv_istore_n (lv' := [(3, .int 0), (0, .ref (G.1 7)), (1, .int a1), (2, .int a2)]) hx hb dX8_deliverFrom_1 rfl hl (by decide) rfl (fun ls hl => ?_)
  refine lv_iconst (v := 0) hx hb dX8_deliverFrom_2 (by decide) ?_
  refine lv_istore (lv' := [(4, .int 0), (3, .int 0), (0, .ref (G.1 7)), (1, .int a1), (2, .int a2)]) hx hb dX8_deliverFrom_3 hl (by decide) rfl (fun ls hl => ?_)
  obtain ⟨y13, σ14, h12, hf⟩ := bd2_x hf
  refine w_X8_deliverFrom_L5 S C0 a1 a2 gFU 0 0 σ _ h12 _ _ _ M (lv_sub hl [2, 3, 4, 1, 0] rfl) (fun _ _ eq H locs ls M hl => ?_)
  cases eq
  refine lv_iload_n hx hb dX8_deliverFrom_54 rfl (lv_at hl 0 rfl) ?_
  cases hf
  exact g_iret S M hr hlk (by decide) (by decide) dX8_deliverFrom_55 rfl
theorem k_X8_comesBefore : gMV yX8_comesBefore cX8_comesBefore 3 (some .boolean) 2 := ⟨tw_5_91, tw_1_4, by decide⟩
set_option maxHeartbeats 4000000 in
set_option maxRecDepth 100000 in
theorem c_X8_comesBefore (l : Launch) (G : gT) (sz : Nat) (lo : Int64) (dd : UInt64) (σ : gM) (a1 : Int32) (a2 : Int32) {o : Int32} (hf : f_X8_comesBefore σ a1 a2 = some o) : gCT l yX8_comesBefore cX8_comesBefore 3 (some .boolean) { frames := 0, cells := 0, slots := 0, locals := 0 } 0 0 G sz [.ref (G.1 7), .int a1, .int a2] lo dd σ (.inl (mkI o, σ, lo, dd)) := by
  refine gCT_of (by decide) (Nat.le_of_ble_eq_true rfl) (fun p e s m args below meth c ls S hr hlk hnx hsz C0 hl M => ?_)
  subst hsz
  have hx := S.1
  have hb := S.2.1
  unfold f_X8_comesBefore at hf
  refine lv_aload_n hx hb dX8_comesBefore_0 rfl (lv_at hl 0 rfl) ?_
  refine gf_X8_0 (i := 7) S M (by decide) rfl tw_1_74 dX8_comesBefore_1 ?_
  refine lv_iload_n hx hb dX8_comesBefore_4 rfl (lv_at hl 1 rfl) ?_
  obtain ⟨h1, hf⟩ := gi_x hf
  refine gk_iald (i := 8) (k := a1.toNatClampNeg) S M (by decide) (gaa_12 rfl) h1 rfl dX8_comesBefore_5 ?_
  refine lv_aload_n hx hb dX8_comesBefore_6 rfl (lv_at hl 0 rfl) ?_
  refine gf_X8_0 (i := 7) S M (by decide) rfl tw_1_74 dX8_comesBefore_7 ?_
  refine lv_iload_n hx hb dX8_comesBefore_10 rfl (lv_at hl 2 rfl) ?_
  obtain ⟨h2, hf⟩ := gi_x hf
  refine gk_iald (i := 8) (k := a2.toNatClampNeg) S M (by decide) (gaa_12 rfl) h2 rfl dX8_comesBefore_11 ?_
  refine lv_icmp_eq (tgt := 36) hx hb dX8_comesBefore_12 (by decide) (fun c3 => ?_) (fun c3 => ?_)
  · have hf := it_p c3 hf
    refine lv_aload_n hx hb dX8_comesBefore_36 rfl (lv_at hl 0 rfl) ?_
    refine gf_X8_1 (i := 7) S M (by decide) rfl tw_1_75 dX8_comesBefore_37 ?_
    refine lv_iload_n hx hb dX8_comesBefore_40 rfl (lv_at hl 1 rfl) ?_
    obtain ⟨h4, hf⟩ := gi_x hf
    refine gk_iald (i := 9) (k := a1.toNatClampNeg) S M (by decide) (gaa_12 rfl) h4 rfl dX8_comesBefore_41 ?_
    refine lv_aload_n hx hb dX8_comesBefore_42 rfl (lv_at hl 0 rfl) ?_
    refine gf_X8_1 (i := 7) S M (by decide) rfl tw_1_75 dX8_comesBefore_43 ?_
    refine lv_iload_n hx hb dX8_comesBefore_46 rfl (lv_at hl 2 rfl) ?_
    obtain ⟨h5, hf⟩ := gi_x hf
    refine gk_iald (i := 9) (k := a2.toNatClampNeg) S M (by decide) (gaa_12 rfl) h5 rfl dX8_comesBefore_47 ?_
    refine lv_icmp_eq (tgt := 72) hx hb dX8_comesBefore_48 (by decide) (fun c6 => ?_) (fun c6 => ?_)
    · have hf := it_p c6 hf
      refine lv_iload_n hx hb dX8_comesBefore_72 rfl (lv_at hl 1 rfl) ?_
      refine lv_iload_n hx hb dX8_comesBefore_73 rfl (lv_at hl 2 rfl) ?_
      refine lv_icmp_ge (tgt := 81) hx hb dX8_comesBefore_74 (by decide) (fun c7 => ?_) (fun c7 => ?_)
      · have hf := it_p c7 hf
        refine lv_iconst (v := 0) hx hb dX8_comesBefore_81 (by decide) ?_
        cases hf
        exact g_zret S M hr hlk (by decide) (by decide) (by decide) dX8_comesBefore_82 rfl
      · have hf := it_n c7 hf
        refine lv_iconst (v := 1) hx hb dX8_comesBefore_77 (by decide) ?_
        refine lv_goto (tgt := 82) hx hb dX8_comesBefore_78 (by decide) ?_
        cases hf
        exact g_zret S M hr hlk (by decide) (by decide) (by decide) dX8_comesBefore_82 rfl
    · have hf := it_n c6 hf
      refine lv_aload_n hx hb dX8_comesBefore_51 rfl (lv_at hl 0 rfl) ?_
      refine gf_X8_1 (i := 7) S M (by decide) rfl tw_1_75 dX8_comesBefore_52 ?_
      refine lv_iload_n hx hb dX8_comesBefore_55 rfl (lv_at hl 1 rfl) ?_
      obtain ⟨h8, hf⟩ := gi_x hf
      refine gk_iald (i := 9) (k := a1.toNatClampNeg) S M (by decide) (gaa_12 rfl) h8 rfl dX8_comesBefore_56 ?_
      refine lv_aload_n hx hb dX8_comesBefore_57 rfl (lv_at hl 0 rfl) ?_
      refine gf_X8_1 (i := 7) S M (by decide) rfl tw_1_75 dX8_comesBefore_58 ?_
      refine lv_iload_n hx hb dX8_comesBefore_61 rfl (lv_at hl 2 rfl) ?_
      obtain ⟨h9, hf⟩ := gi_x hf
      refine gk_iald (i := 9) (k := a2.toNatClampNeg) S M (by decide) (gaa_12 rfl) h9 rfl dX8_comesBefore_62 ?_
      refine lv_icmp_le (tgt := 70) hx hb dX8_comesBefore_63 (by decide) (fun c10 => ?_) (fun c10 => ?_)
      · have hf := it_p c10 hf
        refine lv_iconst (v := 0) hx hb dX8_comesBefore_70 (by decide) ?_
        cases hf
        exact g_zret S M hr hlk (by decide) (by decide) (by decide) dX8_comesBefore_71 rfl
      · have hf := it_n c10 hf
        refine lv_iconst (v := 1) hx hb dX8_comesBefore_66 (by decide) ?_
        refine lv_goto (tgt := 71) hx hb dX8_comesBefore_67 (by decide) ?_
        cases hf
        exact g_zret S M hr hlk (by decide) (by decide) (by decide) dX8_comesBefore_71 rfl
  · have hf := it_n c3 hf
    refine lv_aload_n hx hb dX8_comesBefore_15 rfl (lv_at hl 0 rfl) ?_
    refine gf_X8_0 (i := 7) S M (by decide) rfl tw_1_74 dX8_comesBefore_16 ?_
    refine lv_iload_n hx hb dX8_comesBefore_19 rfl (lv_at hl 1 rfl) ?_
    obtain ⟨h11, hf⟩ := gi_x hf
    refine gk_iald (i := 8) (k := a1.toNatClampNeg) S M (by decide) (gaa_12 rfl) h11 rfl dX8_comesBefore_20 ?_
    refine lv_aload_n hx hb dX8_comesBefore_21 rfl (lv_at hl 0 rfl) ?_
    refine gf_X8_0 (i := 7) S M (by decide) rfl tw_1_74 dX8_comesBefore_22 ?_
    refine lv_iload_n hx hb dX8_comesBefore_25 rfl (lv_at hl 2 rfl) ?_
    obtain ⟨h12, hf⟩ := gi_x hf
    refine gk_iald (i := 8) (k := a2.toNatClampNeg) S M (by decide) (gaa_12 rfl) h12 rfl dX8_comesBefore_26 ?_
    refine lv_icmp_le (tgt := 34) hx hb dX8_comesBefore_27 (by decide) (fun c13 => ?_) (fun c13 => ?_)
    · have hf := it_p c13 hf
      refine lv_iconst (v := 0) hx hb dX8_comesBefore_34 (by decide) ?_
      cases hf
      exact g_zret S M hr hlk (by decide) (by decide) (by decide) dX8_comesBefore_35 rfl
    · have hf := it_n c13 hf
      refine lv_iconst (v := 1) hx hb dX8_comesBefore_30 (by decide) ?_
      refine lv_goto (tgt := 35) hx hb dX8_comesBefore_31 (by decide) ?_
      cases hf
      exact g_zret S M hr hlk (by decide) (by decide) (by decide) dX8_comesBefore_35 rfl
theorem k_X8_rankOf : gMV yX8_rankOf cX8_rankOf 4 (some .int) 1 := ⟨tw_5_87, tw_1_4, by decide⟩
set_option maxHeartbeats 4000000 in
set_option maxRecDepth 100000 in
theorem w_X8_rankOf_L4 {p : Program} {l : Launch} {e : Env} {s : State} {m : MethodId} {args : Array Value} {below : List Frame} {meth : Method} {c : Code} {Q : State → Prop} {G : gT} {lo : Int64} {dd : UInt64} (S : CallFix p m c cX8_rankOf 4 s args gTs RX8) (C0 : gCST G (gAA G s.heap.size) s) (p1 : Int32) (σ : gM) : ∀ (n : Nat) (v2 : Int32) (v3 : Int32) (res : Int32), f_X8_rankOf_L4 p1 σ n v2 v3 = some res → ∀ (H : Heap) (locs : List Loc) (ls : Array Slot), gMS G (gAA G s.heap.size) lo dd σ s H locs → lv_has ls 4 [(0, .ref (G.1 7)), (1, .int p1), (2, .int v2), (3, .int v3)] → (k41 : ∀ (u2 : Int32), res = u2 → ∀ (H : Heap) (locs : List Loc) (ls : Array Slot), gMS G (gAA G s.heap.size) lo dd σ s H locs → lv_has ls 4 [(2, .int u2)] → W p l e ({ frames := 1, cells := 0, slots := 0, locals := 22 } : Room) s m args below meth c H locs 0 0 Q (F0 m 41 ls [])) → W p l e ({ frames := 1, cells := 0, slots := 0, locals := 22 } : Room) s m args below meth c H locs 0 0 Q (F0 m 4 ls []) := by
  have hx := S.1
  have hb := S.2.1
  intro n
  induction n with
  | zero =>
    intro v2 v3 res hf
    cases hf
  | succ n ih =>
    intro v2 v3 res hf H locs ls M hl k41
    rw [f_X8_rankOf_L4] at hf
    refine lv_iload_n hx hb dX8_rankOf_4 rfl (lv_at hl 3 rfl) ?_
    refine lv_aload_n hx hb dX8_rankOf_5 rfl (lv_at hl 0 rfl) ?_
    refine gf_X8_5 (i := 7) S M (by decide) rfl tw_1_79 dX8_rankOf_6 ?_
    refine lv_icmp_ge (tgt := 41) hx hb dX8_rankOf_9 (by decide) (fun c1 => ?_) (fun c1 => ?_)
    · have hf := it_p c1 hf
      cases hf
      exact k41 _ rfl _ _ _ M (lv_sub hl [2] rfl)
    · have hf := it_n c1 hf
      refine lv_aload_n hx hb dX8_rankOf_12 rfl (lv_at hl 0 rfl) ?_
      refine gf_X8_3 (i := 7) S M (by decide) rfl tw_1_77 dX8_rankOf_13 ?_
      refine lv_iload_n hx hb dX8_rankOf_16 rfl (lv_at hl 3 rfl) ?_
      obtain ⟨h2, hf⟩ := gi_x hf
      refine gk_iald (i := 11) (k := v3.toNatClampNeg) S M (by decide) (gaa_12 rfl) h2 rfl dX8_rankOf_17 ?_
      refine lv_bipush (v := (-2)) hx hb dX8_rankOf_18 (by decide) ?_
      refine lv_icmp_eq (tgt := 35) hx hb dX8_rankOf_20 (by decide) (fun c3 => ?_) (fun c3 => ?_)
      · have hf := it_p c3 hf
        obtain ⟨x4, ex4, hf⟩ := nm_x hf
        refine lv_iinc (v := x4) (lv' := [(3, .int x4), (0, .ref (G.1 7)), (1, .int p1), (2, .int v2)]) hx hb dX8_rankOf_35 hl (k := 3) rfl (by rw [ex4]; rfl) (by decide) rfl (fun ls hl => ?_)
        refine lv_goto (tgt := 4) hx hb dX8_rankOf_38 (by decide) ?_
        exact ih _ _ _ hf _ _ _ M (lv_sub hl [1, 2, 3, 0] rfl) k41
      · have hf := it_n c3 hf
        refine lv_aload_n hx hb dX8_rankOf_23 rfl (lv_at hl 0 rfl) ?_
        refine lv_iload_n hx hb dX8_rankOf_24 rfl (lv_at hl 3 rfl) ?_
        refine lv_iload_n hx hb dX8_rankOf_25 rfl (lv_at hl 1 rfl) ?_
        obtain ⟨r6, h5, hf⟩ := bd_x hf
        refine g_callR (st1 := [.int r6]) (cells' := 0) (slots' := 0) M (g_invV (index := 41) S M C0 hl (c_X8_comesBefore l G H.size lo dd σ v3 p1  h5) k_X8_comesBefore tw_5_90 tw_0_14 tw_5_88 (by decide) (ge_3 rfl) rfl rfl rfl rfl rfl rfl dX8_rankOf_26) rfl rfl rfl (fun H locs M => ?_)
        refine lv_if_eq (tgt := 35) hx hb dX8_rankOf_29 (by decide) (fun c7 => ?_) (fun c7 => ?_)
        · have hf := it_p c7 hf
          obtain ⟨x8, ex8, hf⟩ := nm_x hf
          refine lv_iinc (v := x8) (lv' := [(3, .int x8), (0, .ref (G.1 7)), (1, .int p1), (2, .int v2)]) hx hb dX8_rankOf_35 hl (k := 3) rfl (by rw [ex8]; rfl) (by decide) rfl (fun ls hl => ?_)
          refine lv_goto (tgt := 4) hx hb dX8_rankOf_38 (by decide) ?_
          exact ih _ _ _ hf _ _ _ M (lv_sub hl [1, 2, 3, 0] rfl) k41
        · have hf := it_n c7 hf
          obtain ⟨x9, ex9, hf⟩ := nm_x hf
          refine lv_iinc (v := x9) (lv' := [(2, .int x9), (0, .ref (G.1 7)), (1, .int p1), (3, .int v3)]) hx hb dX8_rankOf_32 hl (k := 2) rfl (by rw [ex9]; rfl) (by decide) rfl (fun ls hl => ?_)
          obtain ⟨x10, ex10, hf⟩ := nm_x hf
          refine lv_iinc (v := x10) (lv' := [(3, .int x10), (2, .int x9), (0, .ref (G.1 7)), (1, .int p1)]) hx hb dX8_rankOf_35 hl (k := 3) rfl (by rw [ex10]; rfl) (by decide) rfl (fun ls hl => ?_)
          refine lv_goto (tgt := 4) hx hb dX8_rankOf_38 (by decide) ?_
          exact ih _ _ _ hf _ _ _ M (lv_sub hl [2, 3, 1, 0] rfl) k41
set_option maxHeartbeats 4000000 in
set_option maxRecDepth 100000 in
theorem c_X8_rankOf (l : Launch) (G : gT) (sz : Nat) (lo : Int64) (dd : UInt64) (σ : gM) (a1 : Int32) {o : Int32} (hf : f_X8_rankOf σ a1 = some o) : gCT l yX8_rankOf cX8_rankOf 4 (some .int) { frames := 1, cells := 0, slots := 0, locals := 22 } 0 0 G sz [.ref (G.1 7), .int a1] lo dd σ (.inl (mkI o, σ, lo, dd)) := by
  refine gCT_of (by decide) (Nat.le_of_ble_eq_true rfl) (fun p e s m args below meth c ls S hr hlk hnx hsz C0 hl M => ?_)
  subst hsz
  have hx := S.1
  have hb := S.2.1
  unfold f_X8_rankOf at hf
  refine lv_iconst (v := 0) hx hb dX8_rankOf_0 (by decide) ?_
  refine lv_istore_n (lv' := [(2, .int 0), (0, .ref (G.1 7)), (1, .int a1)]) hx hb dX8_rankOf_1 rfl hl (by decide) rfl (fun ls hl => ?_)
  refine lv_iconst (v := 0) hx hb dX8_rankOf_2 (by decide) ?_
  refine lv_istore_n (lv' := [(3, .int 0), (2, .int 0), (0, .ref (G.1 7)), (1, .int a1)]) hx hb dX8_rankOf_3 rfl hl (by decide) rfl (fun ls hl => ?_)
  obtain ⟨y12, h11, hf⟩ := bd_x hf
  refine w_X8_rankOf_L4 S C0 a1 σ gFU 0 0 _ h11 _ _ _ M (lv_sub hl [2, 3, 1, 0] rfl) (fun _ eq H locs ls M hl => ?_)
  cases eq
  refine lv_iload_n hx hb dX8_rankOf_41 rfl (lv_at hl 0 rfl) ?_
  cases hf
  exact g_iret S M hr hlk (by decide) (by decide) dX8_rankOf_42 rfl
theorem k_X8_atRank : gMV yX8_atRank cX8_atRank 3 (some .int) 1 := ⟨tw_5_83, tw_1_4, by decide⟩
set_option maxHeartbeats 4000000 in
set_option maxRecDepth 100000 in
theorem w_X8_atRank_L2 {p : Program} {l : Launch} {e : Env} {s : State} {m : MethodId} {args : Array Value} {below : List Frame} {meth : Method} {c : Code} {Q : State → Prop} {G : gT} {lo : Int64} {dd : UInt64} (S : CallFix p m c cX8_atRank 3 s args gTs RX8) (C0 : gCST G (gAA G s.heap.size) s) (p1 : Int32) (σ : gM) : ∀ (n : Nat) (v2 : Int32) (res : (Int32) ⊕ (Unit)), f_X8_atRank_L2 p1 σ n v2 = some res → ∀ (H : Heap) (locs : List Loc) (ls : Array Slot), gMS G (gAA G s.heap.size) lo dd σ s H locs → lv_has ls 3 [(0, .ref (G.1 7)), (1, .int p1), (2, .int v2)] → (k30 : ∀ (u2 : Int32), res = .inl u2 → ∀ (H : Heap) (locs : List Loc) (ls : Array Slot), gMS G (gAA G s.heap.size) lo dd σ s H locs → lv_has ls 3 [(2, .int u2)] → W p l e ({ frames := 2, cells := 0, slots := 0, locals := 45 } : Room) s m args below meth c H locs 0 0 Q (F0 m 30 ls [])) → (k38 : res = .inr (()) → ∀ (H : Heap) (locs : List Loc) (ls : Array Slot), gMS G (gAA G s.heap.size) lo dd σ s H locs → lv_has ls 3 [] → W p l e ({ frames := 2, cells := 0, slots := 0, locals := 45 } : Room) s m args below meth c H locs 0 0 Q (F0 m 38 ls [])) → W p l e ({ frames := 2, cells := 0, slots := 0, locals := 45 } : Room) s m args below meth c H locs 0 0 Q (F0 m 2 ls []) := by
  have hx := S.1
  have hb := S.2.1
  intro n
  induction n with
  | zero =>
    intro v2 res hf
    cases hf
  | succ n ih =>
    intro v2 res hf H locs ls M hl k30 k38
    rw [f_X8_atRank_L2] at hf
    refine lv_iload_n hx hb dX8_atRank_2 rfl (lv_at hl 2 rfl) ?_
    refine lv_aload_n hx hb dX8_atRank_3 rfl (lv_at hl 0 rfl) ?_
    refine gf_X8_5 (i := 7) S M (by decide) rfl tw_1_79 dX8_atRank_4 ?_
    refine lv_icmp_ge (tgt := 38) hx hb dX8_atRank_7 (by decide) (fun c1 => ?_) (fun c1 => ?_)
    · have hf := it_p c1 hf
      cases hf
      exact k38 rfl _ _ _ M (lv_sub hl [] rfl)
    · have hf := it_n c1 hf
      refine lv_aload_n hx hb dX8_atRank_10 rfl (lv_at hl 0 rfl) ?_
      refine gf_X8_3 (i := 7) S M (by decide) rfl tw_1_77 dX8_atRank_11 ?_
      refine lv_iload_n hx hb dX8_atRank_14 rfl (lv_at hl 2 rfl) ?_
      obtain ⟨h2, hf⟩ := gi_x hf
      refine gk_iald (i := 11) (k := v2.toNatClampNeg) S M (by decide) (gaa_12 rfl) h2 rfl dX8_atRank_15 ?_
      refine lv_bipush (v := (-2)) hx hb dX8_atRank_16 (by decide) ?_
      refine lv_icmp_eq (tgt := 32) hx hb dX8_atRank_18 (by decide) (fun c3 => ?_) (fun c3 => ?_)
      · have hf := it_p c3 hf
        obtain ⟨x4, ex4, hf⟩ := nm_x hf
        refine lv_iinc (v := x4) (lv' := [(2, .int x4), (0, .ref (G.1 7)), (1, .int p1)]) hx hb dX8_atRank_32 hl (k := 2) rfl (by rw [ex4]; rfl) (by decide) rfl (fun ls hl => ?_)
        refine lv_goto (tgt := 2) hx hb dX8_atRank_35 (by decide) ?_
        exact ih _ _ hf _ _ _ M (lv_sub hl [1, 2, 0] rfl) k30 k38
      · have hf := it_n c3 hf
        refine lv_aload_n hx hb dX8_atRank_21 rfl (lv_at hl 0 rfl) ?_
        refine lv_iload_n hx hb dX8_atRank_22 rfl (lv_at hl 2 rfl) ?_
        obtain ⟨r6, h5, hf⟩ := bd_x hf
        refine g_callR (st1 := [.int r6]) (cells' := 0) (slots' := 0) M (g_invV (index := 37) S M C0 hl (c_X8_rankOf l G H.size lo dd σ v2  h5) k_X8_rankOf tw_5_86 tw_0_13 tw_5_84 (by decide) (ge_3 rfl) rfl rfl rfl rfl rfl rfl dX8_atRank_23) rfl rfl rfl (fun H locs M => ?_)
        refine lv_iload_n hx hb dX8_atRank_26 rfl (lv_at hl 1 rfl) ?_
        refine lv_icmp_ne (tgt := 32) hx hb dX8_atRank_27 (by decide) (fun c7 => ?_) (fun c7 => ?_)
        · have hf := it_n c7 hf
          obtain ⟨x8, ex8, hf⟩ := nm_x hf
          refine lv_iinc (v := x8) (lv' := [(2, .int x8), (0, .ref (G.1 7)), (1, .int p1)]) hx hb dX8_atRank_32 hl (k := 2) rfl (by rw [ex8]; rfl) (by decide) rfl (fun ls hl => ?_)
          refine lv_goto (tgt := 2) hx hb dX8_atRank_35 (by decide) ?_
          exact ih _ _ hf _ _ _ M (lv_sub hl [1, 2, 0] rfl) k30 k38
        · have hf := it_p c7 hf
          cases hf
          exact k30 _ rfl _ _ _ M (lv_sub hl [2] rfl)
set_option maxHeartbeats 4000000 in
set_option maxRecDepth 100000 in
theorem c_X8_atRank (l : Launch) (G : gT) (sz : Nat) (lo : Int64) (dd : UInt64) (σ : gM) (a1 : Int32) {o : Int32} (hf : f_X8_atRank σ a1 = some o) : gCT l yX8_atRank cX8_atRank 3 (some .int) { frames := 2, cells := 0, slots := 0, locals := 45 } 0 0 G sz [.ref (G.1 7), .int a1] lo dd σ (.inl (mkI o, σ, lo, dd)) := by
  refine gCT_of (by decide) (Nat.le_of_ble_eq_true rfl) (fun p e s m args below meth c ls S hr hlk hnx hsz C0 hl M => ?_)
  subst hsz
  have hx := S.1
  have hb := S.2.1
  unfold f_X8_atRank at hf
  refine lv_iconst (v := 0) hx hb dX8_atRank_0 (by decide) ?_
  refine lv_istore_n (lv' := [(2, .int 0), (0, .ref (G.1 7)), (1, .int a1)]) hx hb dX8_atRank_1 rfl hl (by decide) rfl (fun ls hl => ?_)
  rcases gs2_x hf with ⟨y10, h9, hf⟩ | ⟨u, h9, hf⟩
  · refine w_X8_atRank_L2 S C0 a1 σ gFU 0 _ h9 _ _ _ M (lv_sub hl [1, 2, 0] rfl) (fun _ eq H locs ls M hl => ?_) (fun eq => nomatch eq)
    cases eq
    refine lv_iload_n hx hb dX8_atRank_30 rfl (lv_at hl 0 rfl) ?_
    cases hf
    exact g_iret S M hr hlk (by decide) (by decide) dX8_atRank_31 rfl
  · refine w_X8_atRank_L2 S C0 a1 σ gFU 0 _ h9 _ _ _ M (lv_sub hl [1, 2, 0] rfl) (fun _ eq => nomatch eq) (fun eq H locs ls M hl => ?_)
    cases eq
    refine lv_iconst (v := (-1)) hx hb dX8_atRank_38 (by decide) ?_
    cases hf
    exact g_iret S M hr hlk (by decide) (by decide) dX8_atRank_39 rfl
