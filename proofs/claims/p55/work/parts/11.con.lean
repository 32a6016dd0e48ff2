theorem k_X9_goOnFrom : gMV yX9_goOnFrom cX9_goOnFrom 5 none 1 := ⟨tw_3_105, tw_1_3, by decide⟩
set_option maxHeartbeats 400000 in
set_option maxRecDepth 100000 in
theorem w_X9_goOnFrom_L2 {p : Program} {l : Launch} {e : Env} {s : State} {m : MethodId} {args : Array Value} {below : List Frame} {meth : Method} {c : Code} {Q : State → Prop} {G : gT} {lo : Int64} {dd : UInt64} (S : CallFix p m c cX9_goOnFrom 5 s args gTs RX9) (C0 : gCST G (gAA G s.heap.size) s) (p1 : Int32) : ∀ (n : Nat) (v2 : Int32) (σ : gM) (res : gM), f_X9_goOnFrom_L2 p1 n v2 σ = some res → ∀ (H : Heap) (locs : List Loc) (ls : Array Slot), gMS G (gAA G s.heap.size) lo dd σ s H locs → lv_has ls 5 [(0, .ref (G.1 2)), (1, .int p1), (2, .int v2)] → (k69 : ∀ (τ : gM), res = τ → ∀ (H : Heap) (locs : List Loc) (ls : Array Slot), gMS G (gAA G s.heap.size) lo dd τ s H locs → lv_has ls 5 [] → W p l e ({ frames := 0, cells := 0, slots := 0, locals := 0 } : Room) s m args below meth c H locs 0 0 Q (F0 m 69 ls [])) → W p l e ({ frames := 0, cells := 0, slots := 0, locals := 0 } : Room) s m args below meth c H locs 0 0 Q (F0 m 2 ls []) := by
  have hx := S.1
  have hb := S.2.1
  intro n
  induction n with
  | zero =>
    intro v2 σ res hf
    cases hf
  | succ n ih =>
    intro v2 σ res hf H locs ls M hl k69
    rw [f_X9_goOnFrom_L2] at hf
    refine lv_iload_n hx hb dX9_goOnFrom_2 rfl (lv_at hl 2 rfl) ?_
    refine lv_bipush (v := 6) hx hb dX9_goOnFrom_3 (by decide) ?_
    refine lv_icmp_ge (tgt := 69) hx hb dX9_goOnFrom_5 (by decide) (fun c1 => ?_) (fun c1 => ?_)
    · have hf := it_p c1 hf
      cases hf
      exact k69 _ rfl _ _ _ M (lv_sub hl [] rfl)
    · have hf := it_n c1 hf
      refine lv_aload_n hx hb dX9_goOnFrom_8 rfl (lv_at hl 0 rfl) ?_
      refine gf_X9_0 (i := 2) S M (by decide) rfl tw_1_55 dX9_goOnFrom_9 ?_
      refine lv_iload_n hx hb dX9_goOnFrom_12 rfl (lv_at hl 1 rfl) ?_
      refine lv_bipush (v := 6) hx hb dX9_goOnFrom_13 (by decide) ?_
      refine lv_imul hx hb dX9_goOnFrom_15 ?_
      refine lv_iload_n hx hb dX9_goOnFrom_16 rfl (lv_at hl 2 rfl) ?_
      refine lv_iadd hx hb dX9_goOnFrom_17 ?_
      obtain ⟨h2, hf⟩ := gi_x hf
      refine gk_iald (i := 3) (k := ((p1 * 6) + v2).toNatClampNeg) S M (by decide) (gaa_36 rfl) h2 rfl dX9_goOnFrom_18 ?_
      obtain ⟨x3, ex3, hf⟩ := nm_x hf
      refine g_topi ex3 ?_
      refine lv_istore_n (lv' := [(3, .int x3), (0, .ref (G.1 2)), (1, .int p1), (2, .int v2)]) hx hb dX9_goOnFrom_19 rfl hl (by decide) rfl (fun ls hl => ?_)
      refine lv_aload_n hx hb dX9_goOnFrom_20 rfl (lv_at hl 1 rfl) ?_
      refine gf_X9_1 (i := 2) S M (by decide) rfl tw_1_56 dX9_goOnFrom_21 ?_
      refine lv_iload_n hx hb dX9_goOnFrom_24 rfl (lv_at hl 2 rfl) ?_
      obtain ⟨h4, hf⟩ := gi_x hf
      refine gk_iald (i := 4) (k := p1.toNatClampNeg) S M (by decide) (gaa_6 rfl) h4 rfl dX9_goOnFrom_25 ?_
      refine lv_iload_n hx hb dX9_goOnFrom_26 rfl (lv_at hl 0 rfl) ?_
      refine lv_iadd hx hb dX9_goOnFrom_27 ?_
      obtain ⟨x5, ex5, hf⟩ := nm_x hf
      refine g_topi ex5 ?_
      refine lv_istore (lv' := [(4, .int x5), (3, .int x3), (0, .ref (G.1 2)), (1, .int p1), (2, .int v2)]) hx hb dX9_goOnFrom_28 hl (by decide) rfl (fun ls hl => ?_)
      refine lv_iload_n hx hb dX9_goOnFrom_30 rfl (lv_at hl 1 rfl) ?_
      refine lv_if_le (tgt := 63) hx hb dX9_goOnFrom_31 (by decide) (fun c6 => ?_) (fun c6 => ?_)
      · have hf := it_p c6 hf
        obtain ⟨x7, ex7, hf⟩ := nm_x hf
        refine lv_iinc (v := x7) (lv' := [(2, .int x7), (4, .int x5), (3, .int x3), (0, .ref (G.1 2)), (1, .int p1)]) hx hb dX9_goOnFrom_63 hl (k := 4) rfl (by rw [ex7]; rfl) (by decide) rfl (fun ls hl => ?_)
        refine lv_goto (tgt := 2) hx hb dX9_goOnFrom_66 (by decide) ?_
        exact ih _ _ _ hf _ _ _ M (lv_sub hl [3, 4, 0] rfl) k69
      · have hf := it_n c6 hf
        refine lv_aload_n hx hb dX9_goOnFrom_34 rfl (lv_at hl 2 rfl) ?_
        refine gf_X9_1 (i := 2) S M (by decide) rfl tw_1_56 dX9_goOnFrom_35 ?_
        refine lv_iload_n hx hb dX9_goOnFrom_38 rfl (lv_at hl 4 rfl) ?_
        obtain ⟨h8, hf⟩ := gi_x hf
        refine gk_iald (i := 4) (k := v2.toNatClampNeg) S M (by decide) (gaa_6 rfl) h8 rfl dX9_goOnFrom_39 ?_
        refine lv_iconst (v := (-1)) hx hb dX9_goOnFrom_40 (by decide) ?_
        refine lv_icmp_eq (tgt := 55) hx hb dX9_goOnFrom_41 (by decide) (fun c9 => ?_) (fun c9 => ?_)
        · have hf := it_p c9 hf
          refine lv_aload_n hx hb dX9_goOnFrom_55 rfl (lv_at hl 2 rfl) ?_
          refine gf_X9_1 (i := 2) S M (by decide) rfl tw_1_56 dX9_goOnFrom_56 ?_
          refine lv_iload_n hx hb dX9_goOnFrom_59 rfl (lv_at hl 4 rfl) ?_
          refine lv_iload hx hb dX9_goOnFrom_60 (lv_at hl 0 rfl) ?_
          obtain ⟨h10, hf⟩ := gi_x hf
          obtain ⟨σ11, eσ11, hf⟩ := nm_x hf
          refine gk_iast (i := 4) (k := v2.toNatClampNeg) S M (by decide) (fun _ => (gaa_6 rfl)) h10 rfl dX9_goOnFrom_62 (fun H locs M => ?_)
          rw [← eσ11] at M
          obtain ⟨x12, ex12, hf⟩ := nm_x hf
          refine lv_iinc (v := x12) (lv' := [(2, .int x12), (4, .int x5), (3, .int x3), (0, .ref (G.1 2)), (1, .int p1)]) hx hb dX9_goOnFrom_63 hl (k := 4) rfl (by rw [ex12]; rfl) (by decide) rfl (fun ls hl => ?_)
          refine lv_goto (tgt := 2) hx hb dX9_goOnFrom_66 (by decide) ?_
          exact ih _ _ _ hf _ _ _ M (lv_sub hl [3, 4, 0] rfl) k69
        · have hf := it_n c9 hf
          refine lv_iload hx hb dX9_goOnFrom_44 (lv_at hl 0 rfl) ?_
          refine lv_aload_n hx hb dX9_goOnFrom_46 rfl (lv_at hl 2 rfl) ?_
          refine gf_X9_1 (i := 2) S M (by decide) rfl tw_1_56 dX9_goOnFrom_47 ?_
          refine lv_iload_n hx hb dX9_goOnFrom_50 rfl (lv_at hl 4 rfl) ?_
          obtain ⟨h13, hf⟩ := gi_x hf
          refine gk_iald (i := 4) (k := v2.toNatClampNeg) S M (by decide) (gaa_6 rfl) h13 rfl dX9_goOnFrom_51 ?_
          refine lv_icmp_ge (tgt := 63) hx hb dX9_goOnFrom_52 (by decide) (fun c14 => ?_) (fun c14 => ?_)
          · have hf := it_p c14 hf
            obtain ⟨x15, ex15, hf⟩ := nm_x hf
            refine lv_iinc (v := x15) (lv' := [(2, .int x15), (4, .int x5), (3, .int x3), (0, .ref (G.1 2)), (1, .int p1)]) hx hb dX9_goOnFrom_63 hl (k := 4) rfl (by rw [ex15]; rfl) (by decide) rfl (fun ls hl => ?_)
            refine lv_goto (tgt := 2) hx hb dX9_goOnFrom_66 (by decide) ?_
            exact ih _ _ _ hf _ _ _ M (lv_sub hl [3, 4, 0] rfl) k69
          · have hf := it_n c14 hf
            refine lv_aload_n hx hb dX9_goOnFrom_55 rfl (lv_at hl 2 rfl) ?_
            refine gf_X9_1 (i := 2) S M (by decide) rfl tw_1_56 dX9_goOnFrom_56 ?_
            refine lv_iload_n hx hb dX9_goOnFrom_59 rfl (lv_at hl 4 rfl) ?_
            refine lv_iload hx hb dX9_goOnFrom_60 (lv_at hl 0 rfl) ?_
            obtain ⟨h16, hf⟩ := gi_x hf
            obtain ⟨σ17, eσ17, hf⟩ := nm_x hf
            refine gk_iast (i := 4) (k := v2.toNatClampNeg) S M (by decide) (fun _ => (gaa_6 rfl)) h16 rfl dX9_goOnFrom_62 (fun H locs M => ?_)
            rw [← eσ17] at M
            obtain ⟨x18, ex18, hf⟩ := nm_x hf
            refine lv_iinc (v := x18) (lv' := [(2, .int x18), (4, .int x5), (3, .int x3), (0, .ref (G.1 2)), (1, .int p1)]) hx hb dX9_goOnFrom_63 hl (k := 4) rfl (by rw [ex18]; rfl) (by decide) rfl (fun ls hl => ?_)
            refine lv_goto (tgt := 2) hx hb dX9_goOnFrom_66 (by decide) ?_
            exact ih _ _ _ hf _ _ _ M (lv_sub hl [3, 4, 0] rfl) k69
set_option maxHeartbeats 400000 in
set_option maxRecDepth 100000 in
theorem c_X9_goOnFrom (l : Launch) (G : gT) (sz : Nat) (lo : Int64) (dd : UInt64) (σ : gM) (a1 : Int32) {o : gM} (hf : f_X9_goOnFrom σ a1 = some o) : gCT l yX9_goOnFrom cX9_goOnFrom 5 none { frames := 0, cells := 0, slots := 0, locals := 0 } 0 0 G sz [.ref (G.1 2), .int a1] lo dd σ (.inl (none, o, lo, dd)) := by
  refine gCT_of (by decide) (Nat.le_of_ble_eq_true rfl) (fun p e s m args below meth c ls S hr hlk hnx hsz C0 hl H locs M => ?_)
  subst hsz
  have hx := S.1
  have hb := S.2.1
  unfold f_X9_goOnFrom at hf
  refine lv_iconst (v := 0) hx hb dX9_goOnFrom_0 (by decide) ?_
  refine lv_istore_n (lv' := [(2, .int 0), (0, .ref (G.1 2)), (1, .int a1)]) hx hb dX9_goOnFrom_1 rfl hl (by decide) rfl (fun ls hl => ?_)
  obtain ⟨σ20, h19, hf⟩ := bd_x hf
  refine w_X9_goOnFrom_L2 S C0 a1 gFU 0 σ _ h19 _ _ _ M (lv_sub hl [1, 2, 0] rfl) (fun _ eq H locs ls M hl => ?_)
  cases eq
  cases hf
  exact g_vret S M hr hlk (by decide) (by decide) dX9_goOnFrom_69 rfl
theorem k_X9_measureFrom : gMV yX9_measureFrom cX9_measureFrom 4 none 1 := ⟨tw_3_97, tw_1_3, by decide⟩
set_option maxHeartbeats 400000 in
set_option maxRecDepth 100000 in
theorem w_X9_measureFrom_L2 {p : Program} {l : Launch} {e : Env} {s : State} {m : MethodId} {args : Array Value} {below : List Frame} {meth : Method} {c : Code} {Q : State → Prop} {G : gT} {lo : Int64} {dd : UInt64} (S : CallFix p m c cX9_measureFrom 4 s args gTs RX9) (C0 : gCST G (gAA G s.heap.size) s) (p1 : Int32) : ∀ (n : Nat) (v2 : Int32) (σ : gM) (res : gM), f_X9_measureFrom_L2 p1 n v2 σ = some res → ∀ (H : Heap) (locs : List Loc) (ls : Array Slot), gMS G (gAA G s.heap.size) lo dd σ s H locs → lv_has ls 4 [(0, .ref (G.1 2)), (1, .int p1), (2, .int v2)] → (k28 : ∀ (τ : gM), res = τ → ∀ (H : Heap) (locs : List Loc) (ls : Array Slot), gMS G (gAA G s.heap.size) lo dd τ s H locs → lv_has ls 4 [(0, .ref (G.1 2)), (1, .int p1)] → W p l e ({ frames := 1, cells := 0, slots := 0, locals := 24 } : Room) s m args below meth c H locs 0 0 Q (F0 m 28 ls [])) → W p l e ({ frames := 1, cells := 0, slots := 0, locals := 24 } : Room) s m args below meth c H locs 0 0 Q (F0 m 2 ls []) := by
  have hx := S.1
  have hb := S.2.1
  intro n
  induction n with
  | zero =>
    intro v2 σ res hf
    cases hf
  | succ n ih =>
    intro v2 σ res hf H locs ls M hl k28
    rw [f_X9_measureFrom_L2] at hf
    refine lv_iload_n hx hb dX9_measureFrom_2 rfl (lv_at hl 2 rfl) ?_
    refine lv_bipush (v := 6) hx hb dX9_measureFrom_3 (by decide) ?_
    refine lv_icmp_ge (tgt := 28) hx hb dX9_measureFrom_5 (by decide) (fun c1 => ?_) (fun c1 => ?_)
    · have hf := it_p c1 hf
      cases hf
      exact k28 _ rfl _ _ _ M (lv_sub hl [0, 1] rfl)
    · have hf := it_n c1 hf
      refine lv_aload_n hx hb dX9_measureFrom_8 rfl (lv_at hl 0 rfl) ?_
      refine gf_X9_1 (i := 2) S M (by decide) rfl tw_1_56 dX9_measureFrom_9 ?_
      refine lv_iload_n hx hb dX9_measureFrom_12 rfl (lv_at hl 2 rfl) ?_
      refine lv_iconst (v := (-1)) hx hb dX9_measureFrom_13 (by decide) ?_
      obtain ⟨h2, hf⟩ := gi_x hf
      obtain ⟨σ3, eσ3, hf⟩ := nm_x hf
      refine gk_iast (i := 4) (k := v2.toNatClampNeg) S M (by decide) (fun _ => (gaa_6 rfl)) h2 rfl dX9_measureFrom_14 (fun H locs M => ?_)
      rw [← eσ3] at M
      refine lv_aload_n hx hb dX9_measureFrom_15 rfl (lv_at hl 0 rfl) ?_
      refine gf_X9_2 (i := 2) S M (by decide) rfl tw_1_57 dX9_measureFrom_16 ?_
      refine lv_iload_n hx hb dX9_measureFrom_19 rfl (lv_at hl 2 rfl) ?_
      refine lv_iconst (v := 0) hx hb dX9_measureFrom_20 (by decide) ?_
      obtain ⟨h4, hf⟩ := gi_x hf
      obtain ⟨σ5, eσ5, hf⟩ := nm_x hf
      refine gk_zast (i := 5) (k := v2.toNatClampNeg) S M (by decide) (fun _ => (gza_6 rfl)) h4 rfl dX9_measureFrom_21 (fun H locs M => ?_)
      rw [← eσ5] at M
      obtain ⟨x6, ex6, hf⟩ := nm_x hf
      refine lv_iinc (v := x6) (lv' := [(2, .int x6), (0, .ref (G.1 2)), (1, .int p1)]) hx hb dX9_measureFrom_22 hl (k := 2) rfl (by rw [ex6]; rfl) (by decide) rfl (fun ls hl => ?_)
      refine lv_goto (tgt := 2) hx hb dX9_measureFrom_25 (by decide) ?_
      exact ih _ _ _ hf _ _ _ M (lv_sub hl [1, 2, 0] rfl) k28
set_option maxHeartbeats 400000 in
set_option maxRecDepth 100000 in
theorem w_X9_measureFrom_L37 {p : Program} {l : Launch} {e : Env} {s : State} {m : MethodId} {args : Array Value} {below : List Frame} {meth : Method} {c : Code} {Q : State → Prop} {G : gT} {lo : Int64} {dd : UInt64} (S : CallFix p m c cX9_measureFrom 4 s args gTs RX9) (C0 : gCST G (gAA G s.heap.size) s) : ∀ (n : Nat) (v2 : Int32) (σ : gM) (res : (gM) ⊕ (gM)), f_X9_measureFrom_L37 n v2 σ = some res → ∀ (H : Heap) (locs : List Loc) (ls : Array Slot), gMS G (gAA G s.heap.size) lo dd σ s H locs → lv_has ls 4 [(0, .ref (G.1 2)), (2, .int v2)] → (k53 : ∀ (τ : gM), res = .inl τ → ∀ (H : Heap) (locs : List Loc) (ls : Array Slot), gMS G (gAA G s.heap.size) lo dd τ s H locs → lv_has ls 4 [] → W p l e ({ frames := 1, cells := 0, slots := 0, locals := 24 } : Room) s m args below meth c H locs 0 0 Q (F0 m 53 ls [])) → (k72 : ∀ (τ : gM), res = .inr (τ) → ∀ (H : Heap) (locs : List Loc) (ls : Array Slot), gMS G (gAA G s.heap.size) lo dd τ s H locs → lv_has ls 4 [] → W p l e ({ frames := 1, cells := 0, slots := 0, locals := 24 } : Room) s m args below meth c H locs 0 0 Q (F0 m 72 ls [])) → W p l e ({ frames := 1, cells := 0, slots := 0, locals := 24 } : Room) s m args below meth c H locs 0 0 Q (F0 m 37 ls []) := by
  have hx := S.1
  have hb := S.2.1
  intro n
  induction n with
  | zero =>
    intro v2 σ res hf
    cases hf
  | succ n ih =>
    intro v2 σ res hf H locs ls M hl k53 k72
    rw [f_X9_measureFrom_L37] at hf
    refine lv_iload_n hx hb dX9_measureFrom_37 rfl (lv_at hl 1 rfl) ?_
    refine lv_bipush (v := 6) hx hb dX9_measureFrom_38 (by decide) ?_
    refine lv_icmp_ge (tgt := 72) hx hb dX9_measureFrom_40 (by decide) (fun c11 => ?_) (fun c11 => ?_)
    · have hf := it_p c11 hf
      cases hf
      exact k72 _ rfl _ _ _ M (lv_sub hl [] rfl)
    · have hf := it_n c11 hf
      refine lv_aload_n hx hb dX9_measureFrom_43 rfl (lv_at hl 0 rfl) ?_
      obtain ⟨r13, h12, hf⟩ := bd_x hf
      refine g_callR (st1 := [.int r13]) (cells' := 0) (slots' := 0) M (g_invV (index := 43) S M C0 hl (c_X9_nearestOpen l G H.size lo dd σ   h12) k_X9_nearestOpen tw_3_100 tw_0_5 tw_3_98 (by decide) (ge_2 rfl) rfl rfl rfl rfl rfl rfl dX9_measureFrom_44) rfl rfl rfl (fun H locs M => ?_)
      refine lv_istore_n (lv' := [(3, .int r13), (0, .ref (G.1 2)), (2, .int v2)]) hx hb dX9_measureFrom_47 rfl hl (by decide) rfl (fun ls hl => ?_)
      refine lv_iload_n hx hb dX9_measureFrom_48 rfl (lv_at hl 0 rfl) ?_
      refine lv_iconst (v := (-1)) hx hb dX9_measureFrom_49 (by decide) ?_
      refine lv_icmp_ne (tgt := 54) hx hb dX9_measureFrom_50 (by decide) (fun c14 => ?_) (fun c14 => ?_)
      · have hf := it_n c14 hf
        refine lv_aload_n hx hb dX9_measureFrom_54 rfl (lv_at hl 1 rfl) ?_
        refine gf_X9_2 (i := 2) S M (by decide) rfl tw_1_57 dX9_measureFrom_55 ?_
        refine lv_iload_n hx hb dX9_measureFrom_58 rfl (lv_at hl 0 rfl) ?_
        refine lv_iconst (v := 1) hx hb dX9_measureFrom_59 (by decide) ?_
        obtain ⟨h15, hf⟩ := gi_x hf
        obtain ⟨σ16, eσ16, hf⟩ := nm_x hf
        refine gk_zast (i := 5) (k := r13.toNatClampNeg) S M (by decide) (fun _ => (gza_6 rfl)) h15 rfl dX9_measureFrom_60 (fun H locs M => ?_)
        rw [← eσ16] at M
        refine lv_aload_n hx hb dX9_measureFrom_61 rfl (lv_at hl 1 rfl) ?_
        refine lv_iload_n hx hb dX9_measureFrom_62 rfl (lv_at hl 0 rfl) ?_
        obtain ⟨σ18, h17, hf⟩ := bd_x hf
        refine g_callR (st1 := []) (cells' := 0) (slots' := 0) M (g_invV (index := 47) S M C0 hl (c_X9_goOnFrom l G H.size lo dd σ16 r13  h17) k_X9_goOnFrom tw_3_104 tw_0_6 tw_3_102 (by decide) (ge_2 rfl) rfl rfl rfl rfl rfl rfl dX9_measureFrom_63) rfl rfl rfl (fun H locs M => ?_)
        obtain ⟨x19, ex19, hf⟩ := nm_x hf
        refine lv_iinc (v := x19) (lv' := [(2, .int x19), (3, .int r13), (0, .ref (G.1 2))]) hx hb dX9_measureFrom_66 hl (k := 2) rfl (by rw [ex19]; rfl) (by decide) rfl (fun ls hl => ?_)
        refine lv_goto (tgt := 37) hx hb dX9_measureFrom_69 (by decide) ?_
        exact ih _ _ _ hf _ _ _ M (lv_sub hl [2, 0] rfl) k53 k72
      · have hf := it_p c14 hf
        cases hf
        exact k53 _ rfl _ _ _ M (lv_sub hl [] rfl)
set_option maxHeartbeats 400000 in
set_option maxRecDepth 100000 in
theorem c_X9_measureFrom (l : Launch) (G : gT) (sz : Nat) (lo : Int64) (dd : UInt64) (σ : gM) (a1 : Int32) {o : gM} (hf : f_X9_measureFrom σ a1 = some o) : gCT l yX9_measureFrom cX9_measureFrom 4 none { frames := 1, cells := 0, slots := 0, locals := 24 } 0 0 G sz [.ref (G.1 2), .int a1] lo dd σ (.inl (none, o, lo, dd)) := by
  refine gCT_of (by decide) (Nat.le_of_ble_eq_true rfl) (fun p e s m args below meth c ls S hr hlk hnx hsz C0 hl H locs M => ?_)
  subst hsz
  have hx := S.1
  have hb := S.2.1
  unfold f_X9_measureFrom at hf
  refine lv_iconst (v := 0) hx hb dX9_measureFrom_0 (by decide) ?_
  refine lv_istore_n (lv' := [(2, .int 0), (0, .ref (G.1 2)), (1, .int a1)]) hx hb dX9_measureFrom_1 rfl hl (by decide) rfl (fun ls hl => ?_)
  obtain ⟨σ8, h7, hf⟩ := bd_x hf
  refine w_X9_measureFrom_L2 S C0 a1 gFU 0 σ _ h7 _ _ _ M (lv_sub hl [1, 2, 0] rfl) (fun _ eq H locs ls M hl => ?_)
  cases eq
  refine lv_aload_n hx hb dX9_measureFrom_28 rfl (lv_at hl 0 rfl) ?_
  refine gf_X9_1 (i := 2) S M (by decide) rfl tw_1_56 dX9_measureFrom_29 ?_
  refine lv_iload_n hx hb dX9_measureFrom_32 rfl (lv_at hl 1 rfl) ?_
  refine lv_iconst (v := 0) hx hb dX9_measureFrom_33 (by decide) ?_
  obtain ⟨h9, hf⟩ := gi_x hf
  obtain ⟨σ10, eσ10, hf⟩ := nm_x hf
  refine gk_iast (i := 4) (k := a1.toNatClampNeg) S M (by decide) (fun _ => (gaa_6 rfl)) h9 rfl dX9_measureFrom_34 (fun H locs M => ?_)
  rw [← eσ10] at M
  refine lv_iconst (v := 0) hx hb dX9_measureFrom_35 (by decide) ?_
  refine lv_istore_n (lv' := [(2, .int 0), (0, .ref (G.1 2)), (1, .int a1)]) hx hb dX9_measureFrom_36 rfl hl (by decide) rfl (fun ls hl => ?_)
  rcases gs2_x hf with ⟨σ21, h20, hf⟩ | ⟨σ22, h20, hf⟩
  · refine w_X9_measureFrom_L37 S C0 gFU 0 σ10 _ h20 _ _ _ M (lv_sub hl [1, 0] rfl) (fun _ eq H locs ls M hl => ?_) (fun _ eq => nomatch eq)
    cases eq
    cases hf
    exact g_vret S M hr hlk (by decide) (by decide) dX9_measureFrom_53 rfl
  · refine w_X9_measureFrom_L37 S C0 gFU 0 σ10 _ h20 _ _ _ M (lv_sub hl [1, 0] rfl) (fun _ eq => nomatch eq) (fun _ eq H locs ls M hl => ?_)
    cases eq
    cases hf
    exact g_vret S M hr hlk (by decide) (by decide) dX9_measureFrom_72 rfl
theorem k_X9_shortest : gMV yX9_shortest cX9_shortest 3 (some .int) 2 := ⟨tw_3_93, tw_1_3, by decide⟩
set_option maxHeartbeats 400000 in
set_option maxRecDepth 100000 in
theorem c_X9_shortest (l : Launch) (G : gT) (sz : Nat) (lo : Int64) (dd : UInt64) (σ : gM) (a1 : Int32) (a2 : Int32) {r : Int32} {o : gM} (hf : f_X9_shortest σ a1 a2 = some (r, o)) : gCT l yX9_shortest cX9_shortest 3 (some .int) { frames := 2, cells := 0, slots := 0, locals := 47 } 0 0 G sz [.ref (G.1 2), .int a1, .int a2] lo dd σ (.inl (mkI r, o, lo, dd)) := by
  refine gCT_of (by decide) (Nat.le_of_ble_eq_true rfl) (fun p e s m args below meth c ls S hr hlk hnx hsz C0 hl H locs M => ?_)
  subst hsz
  have hx := S.1
  have hb := S.2.1
  unfold f_X9_shortest at hf
  refine lv_aload_n hx hb dX9_shortest_0 rfl (lv_at hl 0 rfl) ?_
  refine lv_iload_n hx hb dX9_shortest_1 rfl (lv_at hl 1 rfl) ?_
  obtain ⟨σ2, h1, hf⟩ := bd_x hf
  refine g_callR (st1 := []) (cells' := 0) (slots' := 0) M (g_invV (index := 39) S M C0 hl (c_X9_measureFrom l G H.size lo dd σ a1  h1) k_X9_measureFrom tw_3_96 tw_0_4 tw_3_94 (by decide) (ge_2 rfl) rfl rfl rfl rfl rfl rfl dX9_shortest_2) rfl rfl rfl (fun H locs M => ?_)
  refine lv_aload_n hx hb dX9_shortest_5 rfl (lv_at hl 0 rfl) ?_
  refine gf_X9_1 (i := 2) S M (by decide) rfl tw_1_56 dX9_shortest_6 ?_
  refine lv_iload_n hx hb dX9_shortest_9 rfl (lv_at hl 2 rfl) ?_
  obtain ⟨h3, hf⟩ := gi_x hf
  refine gk_iald (i := 4) (k := a2.toNatClampNeg) S M (by decide) (gaa_6 rfl) h3 rfl dX9_shortest_10 ?_
  cases hf
  exact g_iret S M hr hlk (by decide) (by decide) dX9_shortest_11 rfl
theorem k_X11_move : gMV yX11_move cX11_move 4 none 3 := ⟨tw_3_109, tw_1_6, by decide⟩
set_option maxHeartbeats 400000 in
set_option maxRecDepth 100000 in
theorem c_X11_move (l : Launch) (G : gT) (sz : Nat) (lo : Int64) (dd : UInt64) (σ : gM) (a1 : Int32) (a2 : Int32) (a3 : Int32) {o : gM} (hf : f_X11_move σ a1 a2 a3 = some o) : gCT l yX11_move cX11_move 4 none { frames := 0, cells := 0, slots := 0, locals := 0 } 0 0 G sz [.ref (G.1 16), .int a1, .int a2, .int a3] lo dd σ (.inl (none, o, lo, dd)) := by
  refine gCT_of (by decide) (Nat.le_of_ble_eq_true rfl) (fun p e s m args below meth c ls S hr hlk hnx hsz C0 hl H locs M => ?_)
  subst hsz
  have hx := S.1
  have hb := S.2.1
  unfold f_X11_move at hf
  refine lv_aload_n hx hb dX11_move_0 rfl (lv_at hl 0 rfl) ?_
  refine gf_X11_0 (i := 16) S M (by decide) rfl tw_1_123 dX11_move_1 ?_
  refine lv_iload_n hx hb dX11_move_4 rfl (lv_at hl 1 rfl) ?_
  refine lv_iload_n hx hb dX11_move_5 rfl (lv_at hl 2 rfl) ?_
  obtain ⟨h1, hf⟩ := gi_x hf
  obtain ⟨σ2, eσ2, hf⟩ := nm_x hf
  refine gk_iast (i := 17) (k := a1.toNatClampNeg) S M (by decide) (fun _ => (gaa_3 rfl)) h1 rfl dX11_move_6 (fun H locs M => ?_)
  rw [← eσ2] at M
  refine lv_aload_n hx hb dX11_move_7 rfl (lv_at hl 0 rfl) ?_
  refine lv_dup hx hb dX11_move_8 rfl ?_
  refine gf_X11_2 (i := 16) S M (by decide) rfl tw_1_125 dX11_move_9 ?_
  refine lv_iload_n hx hb dX11_move_12 rfl (lv_at hl 3 rfl) ?_
  refine lv_iadd hx hb dX11_move_13 ?_
  obtain ⟨σ3, eσ3, hf⟩ := nm_x hf
  refine gp_X11_2 (i := 16) S M (by decide) rfl tw_1_125 dX11_move_14 (fun H locs M => ?_)
  rw [← eσ3] at M
  cases hf
  exact g_vret S M hr hlk (by decide) (by decide) dX11_move_17 rfl
theorem k_X8_deliverFrom : gMV yX8_deliverFrom cX8_deliverFrom 5 (some .int) 2 := ⟨tw_3_113, tw_1_4, by decide⟩
set_option maxHeartbeats 400000 in
set_option maxRecDepth 100000 in
theorem w_X8_deliverFrom_L5 {p : Program} {l : Launch} {e : Env} {s : State} {m : MethodId} {args : Array Value} {below : List Frame} {meth : Method} {c : Code} {Q : State → Prop} {G : gT} {lo : Int64} {dd : UInt64} (S : CallFix p m c cX8_deliverFrom 5 s args gTs RX8) (C0 : gCST G (gAA G s.heap.size) s) (p1 : Int32) (p2 : Int32) : ∀ (n : Nat) (v3 : Int32) (v4 : Int32) (σ : gM) (res : Int32 × gM), f_X8_deliverFrom_L5 p1 p2 n v3 v4 σ = some res → ∀ (H : Heap) (locs : List Loc) (ls : Array Slot), gMS G (gAA G s.heap.size) lo dd σ s H locs → lv_has ls 5 [(0, .ref (G.1 7)), (1, .int p1), (2, .int p2), (3, .int v3), (4, .int v4)] → (k54 : ∀ (u3 : Int32) (τ : gM), res = (u3, τ) → ∀ (H : Heap) (locs : List Loc) (ls : Array Slot), gMS G (gAA G s.heap.size) lo dd τ s H locs → lv_has ls 5 [(3, .int u3)] → W p l e ({ frames := 0, cells := 0, slots := 0, locals := 0 } : Room) s m args below meth c H locs 0 0 Q (F0 m 54 ls [])) → W p l e ({ frames := 0, cells := 0, slots := 0, locals := 0 } : Room) s m args below meth c H locs 0 0 Q (F0 m 5 ls []) := by
  have hx := S.1
  have hb := S.2.1
  intro n
  induction n with
  | zero =>
    intro v3 v4 σ res hf
    cases hf
  | succ n ih =>
    intro v3 v4 σ res hf H locs ls M hl k54
    rw [f_X8_deliverFrom_L5] at hf
    refine lv_iload hx hb dX8_deliverFrom_5 (lv_at hl 4 rfl) ?_
    refine lv_aload_n hx hb dX8_deliverFrom_7 rfl (lv_at hl 0 rfl) ?_
    refine gf_X8_5 (i := 7) S M (by decide) rfl tw_1_84 dX8_deliverFrom_8 ?_
    refine lv_icmp_ge (tgt := 54) hx hb dX8_deliverFrom_11 (by decide) (fun c1 => ?_) (fun c1 => ?_)
    · have hf := it_p c1 hf
      cases hf
      exact k54 _ _ rfl _ _ _ M (lv_sub hl [3] rfl)
    · have hf := it_n c1 hf
      refine lv_aload_n hx hb dX8_deliverFrom_14 rfl (lv_at hl 0 rfl) ?_
      refine gf_X8_3 (i := 7) S M (by decide) rfl tw_1_82 dX8_deliverFrom_15 ?_
      refine lv_iload hx hb dX8_deliverFrom_18 (lv_at hl 4 rfl) ?_
      obtain ⟨h2, hf⟩ := gi_x hf
      refine gk_iald (i := 11) (k := v4.toNatClampNeg) S M (by decide) (gaa_12 rfl) h2 rfl dX8_deliverFrom_20 ?_
      refine lv_iload_n hx hb dX8_deliverFrom_21 rfl (lv_at hl 1 rfl) ?_
      refine lv_icmp_ne (tgt := 48) hx hb dX8_deliverFrom_22 (by decide) (fun c3 => ?_) (fun c3 => ?_)
      · have hf := it_n c3 hf
        obtain ⟨x4, ex4, hf⟩ := nm_x hf
        refine lv_iinc (v := x4) (lv' := [(4, .int x4), (0, .ref (G.1 7)), (1, .int p1), (2, .int p2), (3, .int v3)]) hx hb dX8_deliverFrom_48 hl (k := 4) rfl (by rw [ex4]; rfl) (by decide) rfl (fun ls hl => ?_)
        refine lv_goto (tgt := 5) hx hb dX8_deliverFrom_51 (by decide) ?_
        exact ih _ _ _ _ hf _ _ _ M (lv_sub hl [1, 2, 3, 4, 0] rfl) k54
      · have hf := it_p c3 hf
        refine lv_aload_n hx hb dX8_deliverFrom_25 rfl (lv_at hl 0 rfl) ?_
        refine gf_X8_2 (i := 7) S M (by decide) rfl tw_1_81 dX8_deliverFrom_26 ?_
        refine lv_iload hx hb dX8_deliverFrom_29 (lv_at hl 4 rfl) ?_
        obtain ⟨h5, hf⟩ := gi_x hf
        refine gk_iald (i := 10) (k := v4.toNatClampNeg) S M (by decide) (gaa_12 rfl) h5 rfl dX8_deliverFrom_31 ?_
        refine lv_iload_n hx hb dX8_deliverFrom_32 rfl (lv_at hl 2 rfl) ?_
        refine lv_icmp_ne (tgt := 48) hx hb dX8_deliverFrom_33 (by decide) (fun c6 => ?_) (fun c6 => ?_)
        · have hf := it_n c6 hf
          obtain ⟨x7, ex7, hf⟩ := nm_x hf
          refine lv_iinc (v := x7) (lv' := [(4, .int x7), (0, .ref (G.1 7)), (1, .int p1), (2, .int p2), (3, .int v3)]) hx hb dX8_deliverFrom_48 hl (k := 4) rfl (by rw [ex7]; rfl) (by decide) rfl (fun ls hl => ?_)
          refine lv_goto (tgt := 5) hx hb dX8_deliverFrom_51 (by decide) ?_
          exact ih _ _ _ _ hf _ _ _ M (lv_sub hl [1, 2, 3, 4, 0] rfl) k54
        · have hf := it_p c6 hf
          refine lv_aload_n hx hb dX8_deliverFrom_36 rfl (lv_at hl 0 rfl) ?_
          refine gf_X8_3 (i := 7) S M (by decide) rfl tw_1_82 dX8_deliverFrom_37 ?_
          refine lv_iload hx hb dX8_deliverFrom_40 (lv_at hl 4 rfl) ?_
          refine lv_bipush (v := (-2)) hx hb dX8_deliverFrom_42 (by decide) ?_
          obtain ⟨h8, hf⟩ := gi_x hf
          obtain ⟨σ9, eσ9, hf⟩ := nm_x hf
          refine gk_iast (i := 11) (k := v4.toNatClampNeg) S M (by decide) (fun _ => (gaa_12 rfl)) h8 rfl dX8_deliverFrom_44 (fun H locs M => ?_)
          rw [← eσ9] at M
          obtain ⟨x10, ex10, hf⟩ := nm_x hf
          refine lv_iinc (v := x10) (lv' := [(3, .int x10), (0, .ref (G.1 7)), (1, .int p1), (2, .int p2), (4, .int v4)]) hx hb dX8_deliverFrom_45 hl (k := 3) rfl (by rw [ex10]; rfl) (by decide) rfl (fun ls hl => ?_)
          obtain ⟨x11, ex11, hf⟩ := nm_x hf
          refine lv_iinc (v := x11) (lv' := [(4, .int x11), (3, .int x10), (0, .ref (G.1 7)), (1, .int p1), (2, .int p2)]) hx hb dX8_deliverFrom_48 hl (k := 4) rfl (by rw [ex11]; rfl) (by decide) rfl (fun ls hl => ?_)
          refine lv_goto (tgt := 5) hx hb dX8_deliverFrom_51 (by decide) ?_
          exact ih _ _ _ _ hf _ _ _ M (lv_sub hl [2, 3, 4, 1, 0] rfl) k54
set_option maxHeartbeats 400000 in
set_option maxRecDepth 100000 in
theorem c_X8_deliverFrom (l : Launch) (G : gT) (sz : Nat) (lo : Int64) (dd : UInt64) (σ : gM) (a1 : Int32) (a2 : Int32) {r : Int32} {o : gM} (hf : f_X8_deliverFrom σ a1 a2 = some (r, o)) : gCT l yX8_deliverFrom cX8_deliverFrom 5 (some .int) { frames := 0, cells := 0, slots := 0, locals := 0 } 0 0 G sz [.ref (G.1 7), .int a1, .int a2] lo dd σ (.inl (mkI r, o, lo, dd)) := by
  refine gCT_of (by decide) (Nat.le_of_ble_eq_true rfl) (fun p e s m args below meth c ls S hr hlk hnx hsz C0 hl H locs M => ?_)
  subst hsz
  have hx := S.1
  have hb := S.2.1
  unfold f_X8_deliverFrom at hf
  refine lv_iconst (v := 0) hx hb dX8_deliverFrom_0 (by decide) ?_
  refine lv_istore_n (lv' := [(3, .int 0), (0, .ref (G.1 7)), (1, .int a1), (2, .int a2)]) hx hb dX8_deliverFrom_1 rfl hl (by decide) rfl (fun ls hl => ?_)
  refine lv_iconst (v := 0) hx hb dX8_deliverFrom_2 (by decide) ?_
  refine lv_istore (lv' := [(4, .int 0), (3, .int 0), (0, .ref (G.1 7)), (1, .int a1), (2, .int a2)]) hx hb dX8_deliverFrom_3 hl (by decide) rfl (fun ls hl => ?_)
  obtain ⟨y13, σ14, h12, hf⟩ := bd2_x hf
  refine w_X8_deliverFrom_L5 S C0 a1 a2 gFU 0 0 σ _ h12 _ _ _ M (lv_sub hl [2, 3, 4, 1, 0] rfl) (fun _ _ eq H locs ls M hl => ?_)
  cases eq
  refine lv_iload_n hx hb dX8_deliverFrom_54 rfl (lv_at hl 0 rfl) ?_
  cases hf
  exact g_iret S M hr hlk (by decide) (by decide) dX8_deliverFrom_55 rfl
theorem k_X3_bring : gMV yX3_bring cX3_bring 4 (some .int) 2 := ⟨tw_3_85, tw_1_2, by decide⟩
set_option maxHeartbeats 400000 in
set_option maxRecDepth 100000 in
theorem c_X3_bring (l : Launch) (G : gT) (sz : Nat) (lo : Int64) (dd : UInt64) (σ : gM) (a1 : Int32) (a2 : Int32) {r : Int32} {o : gM} (hf : f_X3_bring σ a1 a2 = some (r, o)) : gCT l yX3_bring cX3_bring 4 (some .int) { frames := 3, cells := 0, slots := 0, locals := 69 } 0 0 G sz [.ref (G.1 1), .int a1, .int a2] lo dd σ (.inl (mkI r, o, lo, dd)) := by
  refine gCT_of (by decide) (Nat.le_of_ble_eq_true rfl) (fun p e s m args below meth c ls S hr hlk hnx hsz C0 hl H locs M => ?_)
  subst hsz
  have hx := S.1
  have hb := S.2.1
  unfold f_X3_bring at hf
  refine lv_iload_n hx hb dX3_bring_0 rfl (lv_at hl 1 rfl) ?_
  refine lv_iconst (v := 3) hx hb dX3_bring_1 (by decide) ?_
  obtain ⟨r2, h1, hf⟩ := bd_x hf
  refine g_callR (st1 := [.int r2]) (cells' := 0) (slots' := 0) M (g_invSN (index := 72) (host := "ParcelDepot") S M C0 hl (c_X12_isIndex l G H.size lo dd σ a1 3  h1) k_X12_isIndex tw_2_74 (by decide +kernel) rfl rfl rfl rfl dX3_bring_2) rfl rfl rfl (fun H locs M => ?_)
  refine lv_if_eq (tgt := 17) hx hb dX3_bring_5 (by decide) (fun c3 => ?_) (fun c3 => ?_)
  · have hf := it_p c3 hf
    refine lv_bipush (v := (-2)) hx hb dX3_bring_17 (by decide) ?_
    cases hf
    exact g_iret S M hr hlk (by decide) (by decide) dX3_bring_19 rfl
  · have hf := it_n c3 hf
    refine lv_iload_n hx hb dX3_bring_8 rfl (lv_at hl 2 rfl) ?_
    refine lv_bipush (v := 6) hx hb dX3_bring_9 (by decide) ?_
    obtain ⟨r5, h4, hf⟩ := bd_x hf
    refine g_callR (st1 := [.int r5]) (cells' := 0) (slots' := 0) M (g_invSN (index := 72) (host := "ParcelDepot") S M C0 hl (c_X12_isIndex l G H.size lo dd σ a2 6  h4) k_X12_isIndex tw_2_74 (by decide +kernel) rfl rfl rfl rfl dX3_bring_11) rfl rfl rfl (fun H locs M => ?_)
    refine lv_if_ne (tgt := 20) hx hb dX3_bring_14 (by decide) (fun c6 => ?_) (fun c6 => ?_)
    · have hf := it_n c6 hf
      refine lv_aload_n hx hb dX3_bring_20 rfl (lv_at hl 0 rfl) ?_
      refine gf_X3_3 (i := 1) S M (by decide) rfl tw_1_142 dX3_bring_21 ?_
      refine lv_iload_n hx hb dX3_bring_24 rfl (lv_at hl 1 rfl) ?_
      obtain ⟨r8, h7, hf⟩ := bd_x hf
      refine g_callR (st1 := [.int r8]) (cells' := 0) (slots' := 0) M (g_invV (index := 65) S M C0 hl (c_X11_placeOf l G H.size lo dd σ a1  h7) k_X11_placeOf tw_3_87 tw_3_88 tw_3_86 (by decide) (ge_5 rfl) rfl rfl rfl rfl rfl rfl dX3_bring_25) rfl rfl rfl (fun H locs M => ?_)
      refine lv_iload_n hx hb dX3_bring_28 rfl (lv_at hl 2 rfl) ?_
      refine lv_icmp_ne (tgt := 35) hx hb dX3_bring_29 (by decide) (fun c9 => ?_) (fun c9 => ?_)
      · have hf := it_n c9 hf
        refine lv_aload_n hx hb dX3_bring_35 rfl (lv_at hl 0 rfl) ?_
        refine gf_X3_0 (i := 1) S M (by decide) rfl tw_1_133 dX3_bring_36 ?_
        refine lv_aload_n hx hb dX3_bring_39 rfl (lv_at hl 0 rfl) ?_
        refine gf_X3_3 (i := 1) S M (by decide) rfl tw_1_142 dX3_bring_40 ?_
        refine lv_iload_n hx hb dX3_bring_43 rfl (lv_at hl 1 rfl) ?_
        obtain ⟨r11, h10, hf⟩ := bd_x hf
        refine g_callR (st1 := [.int r11, .ref (G.1 2)]) (cells' := 0) (slots' := 0) M (g_invV (index := 65) S M C0 hl (c_X11_placeOf l G H.size lo dd σ a1  h10) k_X11_placeOf tw_3_87 tw_3_88 tw_3_86 (by decide) (ge_5 rfl) rfl rfl rfl rfl rfl rfl dX3_bring_44) rfl rfl rfl (fun H locs M => ?_)
        refine lv_iload_n hx hb dX3_bring_47 rfl (lv_at hl 2 rfl) ?_
        obtain ⟨r13, σ14, h12, hf⟩ := bd2_x hf
        refine g_callR (st1 := [.int r13]) (cells' := 0) (slots' := 0) M (g_invV (index := 68) S M C0 hl (c_X9_shortest l G H.size lo dd σ r11 a2  h12) k_X9_shortest tw_3_91 tw_3_92 tw_3_90 (by decide) (ge_2 rfl) rfl rfl rfl rfl rfl rfl dX3_bring_48) rfl rfl rfl (fun H locs M => ?_)
        refine lv_istore_n (lv' := [(3, .int r13), (0, .ref (G.1 1)), (1, .int a1), (2, .int a2)]) hx hb dX3_bring_51 rfl hl (by decide) rfl (fun ls hl => ?_)
        refine lv_iload_n hx hb dX3_bring_52 rfl (lv_at hl 0 rfl) ?_
        refine lv_iconst (v := (-1)) hx hb dX3_bring_53 (by decide) ?_
        refine lv_icmp_ne (tgt := 60) hx hb dX3_bring_54 (by decide) (fun c15 => ?_) (fun c15 => ?_)
        · have hf := it_n c15 hf
          refine lv_aload_n hx hb dX3_bring_60 rfl (lv_at hl 1 rfl) ?_
          refine gf_X3_3 (i := 1) S M (by decide) rfl tw_1_142 dX3_bring_61 ?_
          refine lv_iload_n hx hb dX3_bring_64 rfl (lv_at hl 2 rfl) ?_
          refine lv_iload_n hx hb dX3_bring_65 rfl (lv_at hl 3 rfl) ?_
          refine lv_iload_n hx hb dX3_bring_66 rfl (lv_at hl 0 rfl) ?_
          refine lv_aload_n hx hb dX3_bring_67 rfl (lv_at hl 1 rfl) ?_
          refine gf_X3_1 (i := 1) S M (by decide) rfl tw_1_135 dX3_bring_68 ?_
          refine lv_iload_n hx hb dX3_bring_71 rfl (lv_at hl 2 rfl) ?_
          obtain ⟨r17, h16, hf⟩ := bd_x hf
          refine g_callR (st1 := [.int r17, .int r13, .int a2, .int a1, .ref (G.1 16)]) (cells' := 0) (slots' := 0) M (g_invV (index := 62) S M C0 hl (c_X8_weightAt l G H.size lo dd σ14 a1  h16) k_X8_weightAt tw_3_6 tw_3_7 tw_3_5 (by decide) (ge_3 rfl) rfl rfl rfl rfl rfl rfl dX3_bring_72) rfl rfl rfl (fun H locs M => ?_)
          refine lv_imul hx hb dX3_bring_75 ?_
          obtain ⟨σ19, h18, hf⟩ := bd_x hf
          refine g_callR (st1 := []) (cells' := 0) (slots' := 0) M (g_invV (index := 125) S M C0 hl (c_X11_move l G H.size lo dd σ14 a1 a2 (r13 * r17)  h18) k_X11_move tw_3_107 tw_3_108 tw_3_106 (by decide) (ge_5 rfl) rfl rfl rfl rfl rfl rfl dX3_bring_76) rfl rfl rfl (fun H locs M => ?_)
          refine lv_aload_n hx hb dX3_bring_79 rfl (lv_at hl 1 rfl) ?_
          refine gf_X3_1 (i := 1) S M (by decide) rfl tw_1_135 dX3_bring_80 ?_
          refine lv_iload_n hx hb dX3_bring_83 rfl (lv_at hl 2 rfl) ?_
          refine lv_iload_n hx hb dX3_bring_84 rfl (lv_at hl 3 rfl) ?_
          obtain ⟨r21, σ22, h20, hf⟩ := bd2_x hf
          refine g_callR (st1 := [.int r21]) (cells' := 0) (slots' := 0) M (g_invV (index := 128) S M C0 hl (c_X8_deliverFrom l G H.size lo dd σ19 a1 a2  h20) k_X8_deliverFrom tw_3_111 tw_3_112 tw_3_110 (by decide) (ge_3 rfl) rfl rfl rfl rfl rfl rfl dX3_bring_85) rfl rfl rfl (fun H locs M => ?_)
          cases hf
          exact g_iret S M hr hlk (by decide) (by decide) dX3_bring_88 rfl
        · have hf := it_p c15 hf
          refine lv_bipush (v := (-6)) hx hb dX3_bring_57 (by decide) ?_
          cases hf
          exact g_iret S M hr hlk (by decide) (by decide) dX3_bring_59 rfl
      · have hf := it_p c9 hf
        refine lv_bipush (v := (-3)) hx hb dX3_bring_32 (by decide) ?_
        cases hf
        exact g_iret S M hr hlk (by decide) (by decide) dX3_bring_34 rfl
    · have hf := it_p c6 hf
      refine lv_bipush (v := (-2)) hx hb dX3_bring_17 (by decide) ?_
      cases hf
      exact g_iret S M hr hlk (by decide) (by decide) dX3_bring_19 rfl
theorem k_X12_carry : gMV yX12_carry cX12_carry 3 (some .int) 2 := ⟨tw_3_81, tw_1_1, by decide⟩
set_option maxHeartbeats 400000 in
set_option maxRecDepth 100000 in
theorem c_X12_carry (l : Launch) (hfl : l.stackTraces = false) (G : gT) (sz : Nat) (lo : Int64) (dd : UInt64) (σ : gM) (a1 : Int32) (a2 : Int32) {o : (Int32 × gM) ⊕ (Nat × gM)} (hf : f_X12_carry σ a1 a2 = some o) : gCT l yX12_carry cX12_carry 3 (some .int) { frames := 9, cells := 1, slots := 6, locals := 145 } 1 6 G sz [.ref (G.1 0), .int a1, .int a2] lo dd σ (got2 mkI o lo dd) := by
  refine gCT_of (by decide) (Nat.le_of_ble_eq_true rfl) (fun p e s m args below meth c ls S hr hlk hnx hsz C0 hl H locs M => ?_)
  subst hsz
  have hx := S.1
  have hb := S.2.1
  unfold f_X12_carry at hf
  refine lv_aload_n hx hb dX12_carry_0 rfl (lv_at hl 0 rfl) ?_
  refine gf_X12_2 (i := 0) S M (by decide) rfl tw_2_9 dX12_carry_1 ?_
  refine lv_aload_n hx hb dX12_carry_4 rfl (lv_at hl 0 rfl) ?_
  refine gf_X12_0 (i := 0) S M (by decide) rfl tw_2_7 dX12_carry_5 ?_
  obtain ⟨σ2, h1, hf⟩ := bd_x hf
  refine g_callR (st1 := []) (cells' := 0) (slots' := 0) M (g_invV (index := 58) S M C0 hl (c_X7_prepare l G H.size lo dd σ   h1) k_X7_prepare tw_2_40 tw_2_41 tw_2_39 (by decide) (ge_6 rfl) rfl rfl rfl rfl rfl rfl dX12_carry_8) rfl rfl rfl (fun H locs M => ?_)
  refine lv_aload_n hx hb dX12_carry_11 rfl (lv_at hl 0 rfl) ?_
  refine lv_aload_n hx hb dX12_carry_12 rfl (lv_at hl 0 rfl) ?_
  refine gf_X12_0 (i := 0) S M (by decide) rfl tw_2_7 dX12_carry_13 ?_
  refine lv_iload_n hx hb dX12_carry_16 rfl (lv_at hl 1 rfl) ?_
  refine lv_iload_n hx hb dX12_carry_17 rfl (lv_at hl 2 rfl) ?_
  obtain ⟨r4, σ5, h3, hf⟩ := bd2_x hf
  refine g_callR (st1 := [.int r4, .ref (G.1 0)]) (cells' := 0) (slots' := 0) M (g_invV (index := 86) S M C0 hl (c_X3_bring l G H.size lo dd σ2 a1 a2  h3) k_X3_bring tw_3_83 tw_3_84 tw_3_82 (by decide) (ge_1 rfl) rfl rfl rfl rfl rfl rfl dX12_carry_18) rfl rfl rfl (fun H locs M => ?_)
  rcases bt2_x hf with ⟨r7, σ8, h6, hf⟩ | ⟨n9, σ8, h6, hf⟩
  · refine g_callR (st1 := [.int r7]) (cells' := 1) (slots' := 6) M (g_invV (index := 66) S M C0 hl (c_X12_recorded l hfl G H.size lo dd σ5 r4  h6) k_X12_recorded tw_2_89 tw_0_0 tw_2_87 (by decide) (ge_0 rfl) rfl rfl rfl rfl rfl rfl dX12_carry_21) rfl rfl rfl (fun H locs M => ?_)
    cases hf
    exact g_iret S M hr hlk (by decide) (by decide) dX12_carry_24 rfl
  · cases hf
    refine g_runX (cells' := 1) (slots' := 6) M (g_invV (index := 66) S M C0 hl (c_X12_recorded l hfl G H.size lo dd σ5 r4  h6) k_X12_recorded tw_2_89 tw_0_0 tw_2_87 (by decide) (ge_0 rfl) rfl rfl rfl rfl rfl rfl dX12_carry_21) rfl rfl (fun ce q H locs M hq hv hcl => ?_)
    exact g_out M hnx hlk hq hv hcl (by decide) (by decide) rfl
theorem k_X8_returnToDepot : gMV yX8_returnToDepot cX8_returnToDepot 2 (some .int) 1 := ⟨tw_3_125, tw_1_4, by decide⟩
set_option maxHeartbeats 400000 in
set_option maxRecDepth 100000 in
theorem c_X8_returnToDepot (l : Launch) (G : gT) (sz : Nat) (lo : Int64) (dd : UInt64) (σ : gM) (a1 : Int32) {r : Int32} {o : gM} (hf : f_X8_returnToDepot σ a1 = some (r, o)) : gCT l yX8_returnToDepot cX8_returnToDepot 2 (some .int) { frames := 0, cells := 0, slots := 0, locals := 0 } 0 0 G sz [.ref (G.1 7), .int a1] lo dd σ (.inl (mkI r, o, lo, dd)) := by
  refine gCT_of (by decide) (Nat.le_of_ble_eq_true rfl) (fun p e s m args below meth c ls S hr hlk hnx hsz C0 hl H locs M => ?_)
  subst hsz
  have hx := S.1
  have hb := S.2.1
  unfold f_X8_returnToDepot at hf
  refine lv_aload_n hx hb dX8_returnToDepot_0 rfl (lv_at hl 0 rfl) ?_
  refine gf_X8_3 (i := 7) S M (by decide) rfl tw_1_82 dX8_returnToDepot_1 ?_
  refine lv_iload_n hx hb dX8_returnToDepot_4 rfl (lv_at hl 1 rfl) ?_
  refine lv_iconst (v := (-1)) hx hb dX8_returnToDepot_5 (by decide) ?_
  obtain ⟨h1, hf⟩ := gi_x hf
  obtain ⟨σ2, eσ2, hf⟩ := nm_x hf
  refine gk_iast (i := 11) (k := a1.toNatClampNeg) S M (by decide) (fun _ => (gaa_12 rfl)) h1 rfl dX8_returnToDepot_6 (fun H locs M => ?_)
  rw [← eσ2] at M
  refine lv_aload_n hx hb dX8_returnToDepot_7 rfl (lv_at hl 0 rfl) ?_
  refine gf_X8_4 (i := 7) S M (by decide) rfl tw_1_83 dX8_returnToDepot_8 ?_
  refine lv_iload_n hx hb dX8_returnToDepot_11 rfl (lv_at hl 1 rfl) ?_
  refine lv_dup2_11 hx hb dX8_returnToDepot_12 rfl rfl ?_
  obtain ⟨h3, hf⟩ := gi_x hf
  refine gk_iald (i := 12) (k := a1.toNatClampNeg) S M (by decide) (gaa_12 rfl) h3 rfl dX8_returnToDepot_13 ?_
  refine lv_iconst (v := 1) hx hb dX8_returnToDepot_14 (by decide) ?_
  refine lv_iadd hx hb dX8_returnToDepot_15 ?_
  obtain ⟨h4, hf⟩ := gi_x hf
  obtain ⟨σ5, eσ5, hf⟩ := nm_x hf
  refine gk_iast (i := 12) (k := a1.toNatClampNeg) S M (by decide) (fun _ => (gaa_12 rfl)) h4 rfl dX8_returnToDepot_16 (fun H locs M => ?_)
  rw [← eσ5] at M
  refine lv_aload_n hx hb dX8_returnToDepot_17 rfl (lv_at hl 0 rfl) ?_
  refine gf_X8_1 (i := 7) S M (by decide) rfl tw_1_80 dX8_returnToDepot_18 ?_
  refine lv_iload_n hx hb dX8_returnToDepot_21 rfl (lv_at hl 1 rfl) ?_
  obtain ⟨h6, hf⟩ := gi_x hf
  refine gk_iald (i := 9) (k := a1.toNatClampNeg) S M (by decide) (gaa_12 rfl) h6 rfl dX8_returnToDepot_22 ?_
  refine lv_iconst (v := 3) hx hb dX8_returnToDepot_23 (by decide) ?_
  refine lv_icmp_ge (tgt := 37) hx hb dX8_returnToDepot_24 (by decide) (fun c7 => ?_) (fun c7 => ?_)
  · have hf := it_p c7 hf
    refine lv_aload_n hx hb dX8_returnToDepot_37 rfl (lv_at hl 0 rfl) ?_
    refine gf_X8_1 (i := 7) S M (by decide) rfl tw_1_80 dX8_returnToDepot_38 ?_
    refine lv_iload_n hx hb dX8_returnToDepot_41 rfl (lv_at hl 1 rfl) ?_
    obtain ⟨h8, hf⟩ := gi_x hf
    refine gk_iald (i := 9) (k := a1.toNatClampNeg) S M (by decide) (gaa_12 rfl) h8 rfl dX8_returnToDepot_42 ?_
    cases hf
    exact g_iret S M hr hlk (by decide) (by decide) dX8_returnToDepot_43 rfl
  · have hf := it_n c7 hf
    refine lv_aload_n hx hb dX8_returnToDepot_27 rfl (lv_at hl 0 rfl) ?_
    refine gf_X8_1 (i := 7) S M (by decide) rfl tw_1_80 dX8_returnToDepot_28 ?_
    refine lv_iload_n hx hb dX8_returnToDepot_31 rfl (lv_at hl 1 rfl) ?_
    refine lv_dup2_11 hx hb dX8_returnToDepot_32 rfl rfl ?_
    obtain ⟨h9, hf⟩ := gi_x hf
    refine gk_iald (i := 9) (k := a1.toNatClampNeg) S M (by decide) (gaa_12 rfl) h9 rfl dX8_returnToDepot_33 ?_
    refine lv_iconst (v := 1) hx hb dX8_returnToDepot_34 (by decide) ?_
    refine lv_iadd hx hb dX8_returnToDepot_35 ?_
    obtain ⟨h10, hf⟩ := gi_x hf
    obtain ⟨σ11, eσ11, hf⟩ := nm_x hf
    refine gk_iast (i := 9) (k := a1.toNatClampNeg) S M (by decide) (fun _ => (gaa_12 rfl)) h10 rfl dX8_returnToDepot_36 (fun H locs M => ?_)
    rw [← eσ11] at M
    refine lv_aload_n hx hb dX8_returnToDepot_37 rfl (lv_at hl 0 rfl) ?_
    refine gf_X8_1 (i := 7) S M (by decide) rfl tw_1_80 dX8_returnToDepot_38 ?_
    refine lv_iload_n hx hb dX8_returnToDepot_41 rfl (lv_at hl 1 rfl) ?_
    obtain ⟨h12, hf⟩ := gi_x hf
    refine gk_iald (i := 9) (k := a1.toNatClampNeg) S M (by decide) (gaa_12 rfl) h12 rfl dX8_returnToDepot_42 ?_
    cases hf
    exact g_iret S M hr hlk (by decide) (by decide) dX8_returnToDepot_43 rfl
theorem k_X3_takeBack : gMV yX3_takeBack cX3_takeBack 2 (some .int) 1 := ⟨tw_3_121, tw_1_2, by decide⟩
set_option maxHeartbeats 400000 in
set_option maxRecDepth 100000 in
theorem c_X3_takeBack (l : Launch) (G : gT) (sz : Nat) (lo : Int64) (dd : UInt64) (σ : gM) (a1 : Int32) {r : Int32} {o : gM} (hf : f_X3_takeBack σ a1 = some (r, o)) : gCT l yX3_takeBack cX3_takeBack 2 (some .int) { frames := 1, cells := 0, slots := 0, locals := 21 } 0 0 G sz [.ref (G.1 1), .int a1] lo dd σ (.inl (mkI r, o, lo, dd)) := by
  refine gCT_of (by decide) (Nat.le_of_ble_eq_true rfl) (fun p e s m args below meth c ls S hr hlk hnx hsz C0 hl H locs M => ?_)
  subst hsz
  have hx := S.1
  have hb := S.2.1
  unfold f_X3_takeBack at hf
  refine lv_iload_n hx hb dX3_takeBack_0 rfl (lv_at hl 1 rfl) ?_
  refine lv_aload_n hx hb dX3_takeBack_1 rfl (lv_at hl 0 rfl) ?_
  refine gf_X3_1 (i := 1) S M (by decide) rfl tw_1_135 dX3_takeBack_2 ?_
  obtain ⟨r2, h1, hf⟩ := bd_x hf
  refine g_callR (st1 := [.int r2, .int a1]) (cells' := 0) (slots' := 0) M (g_invV (index := 100) S M C0 hl (c_X8_size l G H.size lo dd σ   h1) k_X8_size tw_3_22 tw_3_23 tw_3_21 (by decide) (ge_3 rfl) rfl rfl rfl rfl rfl rfl dX3_takeBack_5) rfl rfl rfl (fun H locs M => ?_)
  obtain ⟨r4, h3, hf⟩ := bd_x hf
  refine g_callR (st1 := [.int r4]) (cells' := 0) (slots' := 0) M (g_invSN (index := 72) (host := "ParcelDepot") S M C0 hl (c_X12_isIndex l G H.size lo dd σ a1 r2  h3) k_X12_isIndex tw_2_74 (by decide +kernel) rfl rfl rfl rfl dX3_takeBack_8) rfl rfl rfl (fun H locs M => ?_)
  refine lv_if_ne (tgt := 17) hx hb dX3_takeBack_11 (by decide) (fun c5 => ?_) (fun c5 => ?_)
  · have hf := it_n c5 hf
    refine lv_aload_n hx hb dX3_takeBack_17 rfl (lv_at hl 0 rfl) ?_
    refine gf_X3_1 (i := 1) S M (by decide) rfl tw_1_135 dX3_takeBack_18 ?_
    refine lv_iload_n hx hb dX3_takeBack_21 rfl (lv_at hl 1 rfl) ?_
    obtain ⟨r7, h6, hf⟩ := bd_x hf
    refine g_callR (st1 := [.int r7]) (cells' := 0) (slots' := 0) M (g_invV (index := 104) S M C0 hl (c_X8_whereIs l G H.size lo dd σ a1  h6) k_X8_whereIs tw_3_26 tw_3_27 tw_3_25 (by decide) (ge_3 rfl) rfl rfl rfl rfl rfl rfl dX3_takeBack_22) rfl rfl rfl (fun H locs M => ?_)
    refine lv_bipush (v := (-2)) hx hb dX3_takeBack_25 (by decide) ?_
    refine lv_icmp_ne (tgt := 41) hx hb dX3_takeBack_27 (by decide) (fun c8 => ?_) (fun c8 => ?_)
    · have hf := it_n c8 hf
      refine lv_bipush (v := (-4)) hx hb dX3_takeBack_41 (by decide) ?_
      cases hf
      exact g_iret S M hr hlk (by decide) (by decide) dX3_takeBack_43 rfl
    · have hf := it_p c8 hf
      refine lv_aload_n hx hb dX3_takeBack_30 rfl (lv_at hl 0 rfl) ?_
      refine gf_X3_1 (i := 1) S M (by decide) rfl tw_1_135 dX3_takeBack_31 ?_
      refine lv_iload_n hx hb dX3_takeBack_34 rfl (lv_at hl 1 rfl) ?_
      obtain ⟨r10, σ11, h9, hf⟩ := bd2_x hf
      refine g_callR (st1 := [.int r10]) (cells' := 0) (slots' := 0) M (g_invV (index := 131) S M C0 hl (c_X8_returnToDepot l G H.size lo dd σ a1  h9) k_X8_returnToDepot tw_3_123 tw_3_124 tw_3_122 (by decide) (ge_3 rfl) rfl rfl rfl rfl rfl rfl dX3_takeBack_35) rfl rfl rfl (fun H locs M => ?_)
      refine lv_goto (tgt := 43) hx hb dX3_takeBack_38 (by decide) ?_
      cases hf
      exact g_iret S M hr hlk (by decide) (by decide) dX3_takeBack_43 rfl
  · have hf := it_p c5 hf
    refine lv_bipush (v := (-2)) hx hb dX3_takeBack_14 (by decide) ?_
    cases hf
    exact g_iret S M hr hlk (by decide) (by decide) dX3_takeBack_16 rfl
theorem k_X12_comeBack : gMV yX12_comeBack cX12_comeBack 2 (some .int) 1 := ⟨tw_3_117, tw_1_1, by decide⟩
set_option maxHeartbeats 400000 in
set_option maxRecDepth 100000 in
theorem c_X12_comeBack (l : Launch) (hfl : l.stackTraces = false) (G : gT) (sz : Nat) (lo : Int64) (dd : UInt64) (σ : gM) (a1 : Int32) {o : (Int32 × gM) ⊕ (Nat × gM)} (hf : f_X12_comeBack σ a1 = some o) : gCT l yX12_comeBack cX12_comeBack 2 (some .int) { frames := 9, cells := 1, slots := 6, locals := 145 } 1 6 G sz [.ref (G.1 0), .int a1] lo dd σ (got2 mkI o lo dd) := by
  refine gCT_of (by decide) (Nat.le_of_ble_eq_true rfl) (fun p e s m args below meth c ls S hr hlk hnx hsz C0 hl H locs M => ?_)
  subst hsz
  have hx := S.1
  have hb := S.2.1
  unfold f_X12_comeBack at hf
  refine lv_aload_n hx hb dX12_comeBack_0 rfl (lv_at hl 0 rfl) ?_
  refine gf_X12_2 (i := 0) S M (by decide) rfl tw_2_9 dX12_comeBack_1 ?_
  refine lv_aload_n hx hb dX12_comeBack_4 rfl (lv_at hl 0 rfl) ?_
  refine gf_X12_0 (i := 0) S M (by decide) rfl tw_2_7 dX12_comeBack_5 ?_
  obtain ⟨σ2, h1, hf⟩ := bd_x hf
  refine g_callR (st1 := []) (cells' := 0) (slots' := 0) M (g_invV (index := 58) S M C0 hl (c_X7_prepare l G H.size lo dd σ   h1) k_X7_prepare tw_2_40 tw_2_41 tw_2_39 (by decide) (ge_6 rfl) rfl rfl rfl rfl rfl rfl dX12_comeBack_8) rfl rfl rfl (fun H locs M => ?_)
  refine lv_aload_n hx hb dX12_comeBack_11 rfl (lv_at hl 0 rfl) ?_
  refine lv_aload_n hx hb dX12_comeBack_12 rfl (lv_at hl 0 rfl) ?_
  refine gf_X12_0 (i := 0) S M (by decide) rfl tw_2_7 dX12_comeBack_13 ?_
  refine lv_iload_n hx hb dX12_comeBack_16 rfl (lv_at hl 1 rfl) ?_
  obtain ⟨r4, σ5, h3, hf⟩ := bd2_x hf
  refine g_callR (st1 := [.int r4, .ref (G.1 0)]) (cells' := 0) (slots' := 0) M (g_invV (index := 89) S M C0 hl (c_X3_takeBack l G H.size lo dd σ2 a1  h3) k_X3_takeBack tw_3_119 tw_3_120 tw_3_118 (by decide) (ge_1 rfl) rfl rfl rfl rfl rfl rfl dX12_comeBack_17) rfl rfl rfl (fun H locs M => ?_)
  rcases bt2_x hf with ⟨r7, σ8, h6, hf⟩ | ⟨n9, σ8, h6, hf⟩
  · refine g_callR (st1 := [.int r7]) (cells' := 1) (slots' := 6) M (g_invV (index := 66) S M C0 hl (c_X12_recorded l hfl G H.size lo dd σ5 r4  h6) k_X12_recorded tw_2_89 tw_0_0 tw_2_87 (by decide) (ge_0 rfl) rfl rfl rfl rfl rfl rfl dX12_comeBack_20) rfl rfl rfl (fun H locs M => ?_)
    cases hf
    exact g_iret S M hr hlk (by decide) (by decide) dX12_comeBack_23 rfl
  · cases hf
    refine g_runX (cells' := 1) (slots' := 6) M (g_invV (index := 66) S M C0 hl (c_X12_recorded l hfl G H.size lo dd σ5 r4  h6) k_X12_recorded tw_2_89 tw_0_0 tw_2_87 (by decide) (ge_0 rfl) rfl rfl rfl rfl rfl rfl dX12_comeBack_20) rfl rfl (fun ce q H locs M hq hv hcl => ?_)
    exact g_out M hnx hlk hq hv hcl (by decide) (by decide) rfl
theorem k_X9_size : gMV yX9_size cX9_size 1 (some .int) 0 := ⟨tw_3_133, tw_1_3, by decide⟩
set_option maxHeartbeats 400000 in
set_option maxRecDepth 100000 in
theorem c_X9_size (l : Launch) (G : gT) (sz : Nat) (lo : Int64) (dd : UInt64) (σ : gM) {o : Int32} (hf : f_X9_size σ = some o) : gCT l yX9_size cX9_size 1 (some .int) { frames := 0, cells := 0, slots := 0, locals := 0 } 0 0 G sz [.ref (G.1 2)] lo dd σ (.inl (mkI o, σ, lo, dd)) := by
  refine gCT_of (by decide) (Nat.le_of_ble_eq_true rfl) (fun p e s m args below meth c ls S hr hlk hnx hsz C0 hl H locs M => ?_)
  subst hsz
  have hx := S.1
  have hb := S.2.1
  unfold f_X9_size at hf
  refine lv_aload_n hx hb dX9_size_0 rfl (lv_at hl 0 rfl) ?_
  refine gf_X9_4 (i := 2) S M (by decide) rfl tw_1_59 dX9_size_1 ?_
  cases hf
  exact g_iret S M hr hlk (by decide) (by decide) dX9_size_4 rfl
theorem k_X12_roadCount : gMV yX12_roadCount cX12_roadCount 1 (some .int) 0 := ⟨tw_3_129, tw_1_1, by decide⟩
set_option maxHeartbeats 400000 in
set_option maxRecDepth 100000 in
theorem c_X12_roadCount (l : Launch) (G : gT) (sz : Nat) (lo : Int64) (dd : UInt64) (σ : gM) {o : Int32} (hf : f_X12_roadCount σ = some o) : gCT l yX12_roadCount cX12_roadCount 1 (some .int) { frames := 1, cells := 0, slots := 0, locals := 20 } 0 0 G sz [.ref (G.1 0)] lo dd σ (.inl (mkI o, σ, lo, dd)) := by
  refine gCT_of (by decide) (Nat.le_of_ble_eq_true rfl) (fun p e s m args below meth c ls S hr hlk hnx hsz C0 hl H locs M => ?_)
  subst hsz
  have hx := S.1
  have hb := S.2.1
  unfold f_X12_roadCount at hf
  refine lv_aload_n hx hb dX12_roadCount_0 rfl (lv_at hl 0 rfl) ?_
  refine gf_X12_0 (i := 0) S M (by decide) rfl tw_2_7 dX12_roadCount_1 ?_
  refine gf_X3_0 (i := 1) S M (by decide) rfl tw_1_134 dX12_roadCount_4 ?_
  obtain ⟨r2, h1, hf⟩ := bd_x hf
  refine g_callR (st1 := [.int r2]) (cells' := 0) (slots' := 0) M (g_invV (index := 96) S M C0 hl (c_X9_size l G H.size lo dd σ   h1) k_X9_size tw_3_131 tw_3_132 tw_3_130 (by decide) (ge_2 rfl) rfl rfl rfl rfl rfl rfl dX12_roadCount_7) rfl rfl rfl (fun H locs M => ?_)
  cases hf
  exact g_iret S M hr hlk (by decide) (by decide) dX12_roadCount_10 rfl
theorem k_X12_requireIndex : gMV yX12_requireIndex cX12_requireIndex 2 none 2 := ⟨tw_3_143, tw_1_1, by decide⟩
set_option maxHeartbeats 400000 in
set_option maxRecDepth 100000 in
theorem c_X12_requireIndex (l : Launch) (hfl : l.stackTraces = false) (G : gT) (sz : Nat) (lo : Int64) (dd : UInt64) (σ : gM) (a1 : Int32) (a2 : Int32) {o : (Unit) ⊕ (Nat)} (hf : f_X12_requireIndex σ a1 a2 = some o) : gCT l yX12_requireIndex cX12_requireIndex 2 none { frames := 7, cells := 1, slots := 6, locals := 103 } 1 6 G sz [.int a1, .int a2] lo dd σ (got mkU o σ lo dd) := by
  refine gCT_of (by decide) (Nat.le_of_ble_eq_true rfl) (fun p e s m args below meth c ls S hr hlk hnx hsz C0 hl H locs M => ?_)
  subst hsz
  have hx := S.1
  have hb := S.2.1
  unfold f_X12_requireIndex at hf
  refine lv_iload_n hx hb dX12_requireIndex_0 rfl (lv_at hl 0 rfl) ?_
  refine lv_iload_n hx hb dX12_requireIndex_1 rfl (lv_at hl 1 rfl) ?_
  obtain ⟨r2, h1, hf⟩ := bd_x hf
  refine g_callR (st1 := [.int r2]) (cells' := 0) (slots' := 0) M (g_invS (index := 154) S M C0 hl (c_X12_isIndex l G H.size lo dd σ a1 a2  h1) k_X12_isIndex tw_2_74 tw_3_144 rfl rfl rfl rfl dX12_requireIndex_2) rfl rfl rfl (fun H locs M => ?_)
  refine lv_if_ne (tgt := 19) hx hb dX12_requireIndex_5 (by decide) (fun c3 => ?_) (fun c3 => ?_)
  · have hf := it_n c3 hf
    cases hf
    exact g_vret S M hr hlk (by decide) (by decide) dX12_requireIndex_19 rfl
  · have hf := it_p c3 hf
    cases hf
    exact g_throwW_0_11 S M C0 hfl hl hlk hnx dX12_requireIndex_8 dX12_requireIndex_11 dX12_requireIndex_12 dX12_requireIndex_15 dX12_requireIndex_18 rfl (by decide) (by decide) rfl
theorem k_X12_requirePlaces : gMV yX12_requirePlaces cX12_requirePlaces 2 none 2 := ⟨tw_3_140, tw_1_1, by decide⟩
set_option maxHeartbeats 400000 in
set_option maxRecDepth 100000 in
theorem c_X12_requirePlaces (l : Launch) (hfl : l.stackTraces = false) (G : gT) (sz : Nat) (lo : Int64) (dd : UInt64) (σ : gM) (a1 : Int32) (a2 : Int32) {o : (Unit) ⊕ (Nat)} (hf : f_X12_requirePlaces σ a1 a2 = some o) : gCT l yX12_requirePlaces cX12_requirePlaces 2 none { frames := 8, cells := 2, slots := 12, locals := 124 } 2 12 G sz [.int a1, .int a2] lo dd σ (got mkU o σ lo dd) := by
  refine gCT_of (by decide) (Nat.le_of_ble_eq_true rfl) (fun p e s m args below meth c ls S hr hlk hnx hsz C0 hl H locs M => ?_)
  subst hsz
  have hx := S.1
  have hb := S.2.1
  unfold f_X12_requirePlaces at hf
  refine lv_iload_n hx hb dX12_requirePlaces_0 rfl (lv_at hl 0 rfl) ?_
  refine lv_bipush (v := 6) hx hb dX12_requirePlaces_1 (by decide) ?_
  rcases bt_x hf with ⟨u, h1, hf⟩ | ⟨n2, h1, hf⟩
  · refine g_callR (st1 := []) (cells' := 1) (slots' := 6) M (g_invS (index := 121) S M C0 hl (c_X12_requireIndex l hfl G H.size lo dd σ a1 6  h1) k_X12_requireIndex tw_3_142 tw_3_141 rfl rfl rfl rfl dX12_requirePlaces_3) rfl rfl rfl (fun H locs M => ?_)
    refine lv_iload_n hx hb dX12_requirePlaces_6 rfl (lv_at hl 1 rfl) ?_
    refine lv_bipush (v := 6) hx hb dX12_requirePlaces_7 (by decide) ?_
    rcases bt_x hf with ⟨u, h3, hf⟩ | ⟨n4, h3, hf⟩
    · refine g_callR (st1 := []) (cells' := 2) (slots' := 12) M (g_invS (index := 121) S M C0 hl (c_X12_requireIndex l hfl G H.size lo dd σ a2 6  h3) k_X12_requireIndex tw_3_142 tw_3_141 rfl rfl rfl rfl dX12_requirePlaces_9) rfl rfl rfl (fun H locs M => ?_)
      cases hf
      exact g_vret S M hr hlk (by decide) (by decide) dX12_requirePlaces_12 rfl
    · cases hf
      refine g_runX (cells' := 2) (slots' := 12) M (g_invS (index := 121) S M C0 hl (c_X12_requireIndex l hfl G H.size lo dd σ a2 6  h3) k_X12_requireIndex tw_3_142 tw_3_141 rfl rfl rfl rfl dX12_requirePlaces_9) rfl rfl (fun ce q H locs M hq hv hcl => ?_)
      exact g_out M hnx hlk hq hv hcl (by decide) (by decide) rfl
  · cases hf
    refine g_runX (cells' := 1) (slots' := 6) M (g_invS (index := 121) S M C0 hl (c_X12_requireIndex l hfl G H.size lo dd σ a1 6  h1) k_X12_requireIndex tw_3_142 tw_3_141 rfl rfl rfl rfl dX12_requirePlaces_3) rfl rfl (fun ce q H locs M hq hv hcl => ?_)
    exact g_out M hnx hlk hq hv hcl (by decide) (by decide) rfl
theorem k_X9_lengthBetween : gMV yX9_lengthBetween cX9_lengthBetween 3 (some .int) 2 := ⟨tw_3_160, tw_1_3, by decide⟩
set_option maxHeartbeats 400000 in
set_option maxRecDepth 100000 in
theorem c_X9_lengthBetween (l : Launch) (G : gT) (sz : Nat) (lo : Int64) (dd : UInt64) (σ : gM) (a1 : Int32) (a2 : Int32) {o : Int32} (hf : f_X9_lengthBetween σ a1 a2 = some o) : gCT l yX9_lengthBetween cX9_lengthBetween 3 (some .int) { frames := 1, cells := 0, slots := 0, locals := 22 } 0 0 G sz [.ref (G.1 2), .int a1, .int a2] lo dd σ (.inl (mkI o, σ, lo, dd)) := by
  refine gCT_of (by decide) (Nat.le_of_ble_eq_true rfl) (fun p e s m args below meth c ls S hr hlk hnx hsz C0 hl H locs M => ?_)
  subst hsz
  have hx := S.1
  have hb := S.2.1
  unfold f_X9_lengthBetween at hf
  refine lv_aload_n hx hb dX9_lengthBetween_0 rfl (lv_at hl 0 rfl) ?_
  refine lv_iload_n hx hb dX9_lengthBetween_1 rfl (lv_at hl 1 rfl) ?_
  refine lv_iload_n hx hb dX9_lengthBetween_2 rfl (lv_at hl 2 rfl) ?_
  obtain ⟨r2, h1, hf⟩ := bd_x hf
  refine g_callR (st1 := [.int r2]) (cells' := 0) (slots' := 0) M (g_invV (index := 35) S M C0 hl (c_X9_joins l G H.size lo dd σ a1 a2  h1) k_X9_joins tw_3_162 tw_3_163 tw_3_161 (by decide) (ge_2 rfl) rfl rfl rfl rfl rfl rfl dX9_lengthBetween_3) rfl rfl rfl (fun H locs M => ?_)
  refine lv_if_eq (tgt := 23) hx hb dX9_lengthBetween_6 (by decide) (fun c3 => ?_) (fun c3 => ?_)
  · have hf := it_p c3 hf
    refine lv_iconst (v := (-1)) hx hb dX9_lengthBetween_23 (by decide) ?_
    cases hf
    exact g_iret S M hr hlk (by decide) (by decide) dX9_lengthBetween_24 rfl
  · have hf := it_n c3 hf
    refine lv_aload_n hx hb dX9_lengthBetween_9 rfl (lv_at hl 0 rfl) ?_
    refine gf_X9_0 (i := 2) S M (by decide) rfl tw_1_55 dX9_lengthBetween_10 ?_
    refine lv_iload_n hx hb dX9_lengthBetween_13 rfl (lv_at hl 1 rfl) ?_
    refine lv_bipush (v := 6) hx hb dX9_lengthBetween_14 (by decide) ?_
    refine lv_imul hx hb dX9_lengthBetween_16 ?_
    refine lv_iload_n hx hb dX9_lengthBetween_17 rfl (lv_at hl 2 rfl) ?_
    refine lv_iadd hx hb dX9_lengthBetween_18 ?_
    obtain ⟨h4, hf⟩ := gi_x hf
    refine gk_iald (i := 3) (k := ((a1 * 6) + a2).toNatClampNeg) S M (by decide) (gaa_36 rfl) h4 rfl dX9_lengthBetween_19 ?_
    refine lv_goto (tgt := 24) hx hb dX9_lengthBetween_20 (by decide) ?_
    cases hf
    exact g_iret S M hr hlk (by decide) (by decide) dX9_lengthBetween_24 rfl
theorem k_X12_present : gMV yX12_present cX12_present 1 (some .int) 1 := ⟨tw_3_148, tw_1_1, by decide⟩
set_option maxHeartbeats 400000 in
set_option maxRecDepth 100000 in
theorem c_X12_present (l : Launch) (hfl : l.stackTraces = false) (G : gT) (sz : Nat) (lo : Int64) (dd : UInt64) (σ : gM) (a1 : Int32) {o : (Int32) ⊕ (Nat)} (hf : f_X12_present σ a1 = some o) : gCT l yX12_present cX12_present 1 (some .int) { frames := 8, cells := 1, slots := 6, locals := 123 } 1 6 G sz [.int a1] lo dd σ (got mkI o σ lo dd) := by
  refine gCT_of (by decide) (Nat.le_of_ble_eq_true rfl) (fun p e s m args below meth c ls S hr hlk hnx hsz C0 hl H locs M => ?_)
  subst hsz
  have hx := S.1
  have hb := S.2.1
  unfold f_X12_present at hf
  refine lv_iload_n hx hb dX12_present_0 rfl (lv_at hl 0 rfl) ?_
  refine lv_iconst (v := (-1)) hx hb dX12_present_1 (by decide) ?_
  refine lv_icmp_ne (tgt := 10) hx hb dX12_present_2 (by decide) (fun c1 => ?_) (fun c1 => ?_)
  · have hf := it_n c1 hf
    refine lv_iload_n hx hb dX12_present_10 rfl (lv_at hl 0 rfl) ?_
    rcases bt_x hf with ⟨r3, h2, hf⟩ | ⟨n4, h2, hf⟩
    · refine g_callR (st1 := [.int r3]) (cells' := 1) (slots' := 6) M (g_invS (index := 177) S M C0 hl (c_X12_accepted l hfl G H.size lo dd σ a1  h2) k_X12_accepted tw_2_92 tw_2_91 rfl rfl rfl rfl dX12_present_11) rfl rfl rfl (fun H locs M => ?_)
      cases hf
      exact g_iret S M hr hlk (by decide) (by decide) dX12_present_14 rfl
    · cases hf
      refine g_runX (cells' := 1) (slots' := 6) M (g_invS (index := 177) S M C0 hl (c_X12_accepted l hfl G H.size lo dd σ a1  h2) k_X12_accepted tw_2_92 tw_2_91 rfl rfl rfl rfl dX12_present_11) rfl rfl (fun ce q H locs M hq hv hcl => ?_)
      exact g_out M hnx hlk hq hv hcl (by decide) (by decide) rfl
  · have hf := it_p c1 hf
    refine lv_bipush (v := (-6)) hx hb dX12_present_5 (by decide) ?_
    refine lv_goto (tgt := 11) hx hb dX12_present_7 (by decide) ?_
    rcases bt_x hf with ⟨r6, h5, hf⟩ | ⟨n7, h5, hf⟩
    · refine g_callR (st1 := [.int r6]) (cells' := 1) (slots' := 6) M (g_invS (index := 177) S M C0 hl (c_X12_accepted l hfl G H.size lo dd σ (-6)  h5) k_X12_accepted tw_2_92 tw_2_91 rfl rfl rfl rfl dX12_present_11) rfl rfl rfl (fun H locs M => ?_)
      cases hf
      exact g_iret S M hr hlk (by decide) (by decide) dX12_present_14 rfl
    · cases hf
      refine g_runX (cells' := 1) (slots' := 6) M (g_invS (index := 177) S M C0 hl (c_X12_accepted l hfl G H.size lo dd σ (-6)  h5) k_X12_accepted tw_2_92 tw_2_91 rfl rfl rfl rfl dX12_present_11) rfl rfl (fun ce q H locs M hq hv hcl => ?_)
      exact g_out M hnx hlk hq hv hcl (by decide) (by decide) rfl
theorem k_X12_roadLength : gMV yX12_roadLength cX12_roadLength 3 (some .int) 2 := ⟨tw_5_201, tw_1_1, by decide⟩
set_option maxHeartbeats 400000 in
set_option maxRecDepth 100000 in
theorem c_X12_roadLength (l : Launch) (hfl : l.stackTraces = false) (G : gT) (sz : Nat) (lo : Int64) (dd : UInt64) (σ : gM) (a1 : Int32) (a2 : Int32) {o : (Int32) ⊕ (Nat)} (hf : f_X12_roadLength σ a1 a2 = some o) : gCT l yX12_roadLength cX12_roadLength 3 (some .int) { frames := 9, cells := 3, slots := 18, locals := 145 } 3 18 G sz [.ref (G.1 0), .int a1, .int a2] lo dd σ (got mkI o σ lo dd) := by
  refine gCT_of (by decide) (Nat.le_of_ble_eq_true rfl) (fun p e s m args below meth c ls S hr hlk hnx hsz C0 hl H locs M => ?_)
  subst hsz
  have hx := S.1
  have hb := S.2.1
  unfold f_X12_roadLength at hf
  refine lv_iload_n hx hb dX12_roadLength_0 rfl (lv_at hl 1 rfl) ?_
  refine lv_iload_n hx hb dX12_roadLength_1 rfl (lv_at hl 2 rfl) ?_
  rcases bt_x hf with ⟨u, h1, hf⟩ | ⟨n2, h1, hf⟩
  · refine g_callR (st1 := []) (cells' := 2) (slots' := 12) M (g_invS (index := 102) S M C0 hl (c_X12_requirePlaces l hfl G H.size lo dd σ a1 a2  h1) k_X12_requirePlaces tw_3_139 tw_3_138 rfl rfl rfl rfl dX12_roadLength_2) rfl rfl rfl (fun H locs M => ?_)
    refine lv_aload_n hx hb dX12_roadLength_5 rfl (lv_at hl 0 rfl) ?_
    refine gf_X12_0 (i := 0) S M (by decide) rfl tw_2_7 dX12_roadLength_6 ?_
    refine gf_X3_0 (i := 1) S M (by decide) rfl tw_1_134 dX12_roadLength_9 ?_
    refine lv_iload_n hx hb dX12_roadLength_12 rfl (lv_at hl 1 rfl) ?_
    refine lv_iload_n hx hb dX12_roadLength_13 rfl (lv_at hl 2 rfl) ?_
    obtain ⟨r4, h3, hf⟩ := bd_x hf
    refine g_callR (st1 := [.int r4]) (cells' := 2) (slots' := 12) M (g_invV (index := 106) S M C0 hl (c_X9_lengthBetween l G H.size lo dd σ a1 a2  h3) k_X9_lengthBetween tw_3_158 tw_3_159 tw_5_202 (by decide) (ge_2 rfl) rfl rfl rfl rfl rfl rfl dX12_roadLength_14) rfl rfl rfl (fun H locs M => ?_)
    rcases bt_x hf with ⟨r6, h5, hf⟩ | ⟨n7, h5, hf⟩
    · refine g_callR (st1 := [.int r6]) (cells' := 3) (slots' := 18) M (g_invS (index := 109) S M C0 hl (c_X12_present l hfl G H.size lo dd σ r4  h5) k_X12_present tw_3_147 tw_3_146 rfl rfl rfl rfl dX12_roadLength_17) rfl rfl rfl (fun H locs M => ?_)
      cases hf
      exact g_iret S M hr hlk (by decide) (by decide) dX12_roadLength_20 rfl
    · cases hf
      refine g_runX (cells' := 3) (slots' := 18) M (g_invS (index := 109) S M C0 hl (c_X12_present l hfl G H.size lo dd σ r4  h5) k_X12_present tw_3_147 tw_3_146 rfl rfl rfl rfl dX12_roadLength_17) rfl rfl (fun ce q H locs M hq hv hcl => ?_)
      exact g_out M hnx hlk hq hv hcl (by decide) (by decide) rfl
  · cases hf
    refine g_runX (cells' := 2) (slots' := 12) M (g_invS (index := 102) S M C0 hl (c_X12_requirePlaces l hfl G H.size lo dd σ a1 a2  h1) k_X12_requirePlaces tw_3_139 tw_3_138 rfl rfl rfl rfl dX12_roadLength_2) rfl rfl (fun ce q H locs M hq hv hcl => ?_)
    exact g_out M hnx hlk hq hv hcl (by decide) (by decide) rfl
theorem k_X12_distance : gMV yX12_distance cX12_distance 3 (some .int) 2 := ⟨tw_3_137, tw_1_1, by decide⟩
set_option maxHeartbeats 400000 in
set_option maxRecDepth 100000 in
theorem c_X12_distance (l : Launch) (hfl : l.stackTraces = false) (G : gT) (sz : Nat) (lo : Int64) (dd : UInt64) (σ : gM) (a1 : Int32) (a2 : Int32) {o : (Int32 × gM) ⊕ (Nat × gM)} (hf : f_X12_distance σ a1 a2 = some o) : gCT l yX12_distance cX12_distance 3 (some .int) { frames := 9, cells := 3, slots := 18, locals := 145 } 3 18 G sz [.ref (G.1 0), .int a1, .int a2] lo dd σ (got2 mkI o lo dd) := by
  refine gCT_of (by decide) (Nat.le_of_ble_eq_true rfl) (fun p e s m args below meth c ls S hr hlk hnx hsz C0 hl H locs M => ?_)
  subst hsz
  have hx := S.1
  have hb := S.2.1
  unfold f_X12_distance at hf
  refine lv_iload_n hx hb dX12_distance_0 rfl (lv_at hl 1 rfl) ?_
  refine lv_iload_n hx hb dX12_distance_1 rfl (lv_at hl 2 rfl) ?_
  rcases bt_x hf with ⟨u, h1, hf⟩ | ⟨n2, h1, hf⟩
  · refine g_callR (st1 := []) (cells' := 2) (slots' := 12) M (g_invS (index := 102) S M C0 hl (c_X12_requirePlaces l hfl G H.size lo dd σ a1 a2  h1) k_X12_requirePlaces tw_3_139 tw_3_138 rfl rfl rfl rfl dX12_distance_2) rfl rfl rfl (fun H locs M => ?_)
    refine lv_aload_n hx hb dX12_distance_5 rfl (lv_at hl 0 rfl) ?_
    refine gf_X12_0 (i := 0) S M (by decide) rfl tw_2_7 dX12_distance_6 ?_
    refine gf_X3_0 (i := 1) S M (by decide) rfl tw_1_134 dX12_distance_9 ?_
    refine lv_iload_n hx hb dX12_distance_12 rfl (lv_at hl 1 rfl) ?_
    refine lv_iload_n hx hb dX12_distance_13 rfl (lv_at hl 2 rfl) ?_
    obtain ⟨r4, σ5, h3, hf⟩ := bd2_x hf
    refine g_callR (st1 := [.int r4]) (cells' := 2) (slots' := 12) M (g_invV (index := 112) S M C0 hl (c_X9_shortest l G H.size lo dd σ a1 a2  h3) k_X9_shortest tw_3_91 tw_3_92 tw_3_145 (by decide) (ge_2 rfl) rfl rfl rfl rfl rfl rfl dX12_distance_14) rfl rfl rfl (fun H locs M => ?_)
    rcases bt_x hf with ⟨r7, h6, hf⟩ | ⟨n8, h6, hf⟩
    · refine g_callR (st1 := [.int r7]) (cells' := 3) (slots' := 18) M (g_invS (index := 109) S M C0 hl (c_X12_present l hfl G H.size lo dd σ5 r4  h6) k_X12_present tw_3_147 tw_3_146 rfl rfl rfl rfl dX12_distance_17) rfl rfl rfl (fun H locs M => ?_)
      cases hf
      exact g_iret S M hr hlk (by decide) (by decide) dX12_distance_20 rfl
    · cases hf
      refine g_runX (cells' := 3) (slots' := 18) M (g_invS (index := 109) S M C0 hl (c_X12_present l hfl G H.size lo dd σ5 r4  h6) k_X12_present tw_3_147 tw_3_146 rfl rfl rfl rfl dX12_distance_17) rfl rfl (fun ce q H locs M hq hv hcl => ?_)
      exact g_out M hnx hlk hq hv hcl (by decide) (by decide) rfl
  · cases hf
    refine g_runX (cells' := 2) (slots' := 12) M (g_invS (index := 102) S M C0 hl (c_X12_requirePlaces l hfl G H.size lo dd σ a1 a2  h1) k_X12_requirePlaces tw_3_139 tw_3_138 rfl rfl rfl rfl dX12_distance_2) rfl rfl (fun ce q H locs M hq hv hcl => ?_)
    exact g_out M hnx hlk hq hv hcl (by decide) (by decide) rfl
theorem k_X9_shortenBy : gMV yX9_shortenBy cX9_shortenBy 7 none 3 := ⟨tw_3_168, tw_1_3, by decide⟩
set_option maxHeartbeats 400000 in
set_option maxRecDepth 100000 in
theorem c_X9_shortenBy (l : Launch) (G : gT) (sz : Nat) (lo : Int64) (dd : UInt64) (σ : gM) (a1 : Int32) (a2 : Int32) (a3 : Int32) {o : gM} (hf : f_X9_shortenBy σ a1 a2 a3 = some o) : gCT l yX9_shortenBy cX9_shortenBy 7 none { frames := 0, cells := 0, slots := 0, locals := 0 } 0 0 G sz [.ref (G.1 2), .int a1, .int a2, .int a3] lo dd σ (.inl (none, o, lo, dd)) := by
  refine gCT_of (by decide) (Nat.le_of_ble_eq_true rfl) (fun p e s m args below meth c ls S hr hlk hnx hsz C0 hl H locs M => ?_)
  subst hsz
  have hx := S.1
  have hb := S.2.1
  unfold f_X9_shortenBy at hf
  refine lv_aload_n hx hb dX9_shortenBy_0 rfl (lv_at hl 0 rfl) ?_
  refine gf_X9_3 (i := 2) S M (by decide) rfl tw_1_58 dX9_shortenBy_1 ?_
  refine lv_iload_n hx hb dX9_shortenBy_4 rfl (lv_at hl 1 rfl) ?_
  refine lv_bipush (v := 6) hx hb dX9_shortenBy_5 (by decide) ?_
  refine lv_imul hx hb dX9_shortenBy_7 ?_
  refine lv_iload_n hx hb dX9_shortenBy_8 rfl (lv_at hl 2 rfl) ?_
  refine lv_iadd hx hb dX9_shortenBy_9 ?_
  obtain ⟨h1, hf⟩ := gi_x hf
  refine gk_iald (i := 6) (k := ((a1 * 6) + a2).toNatClampNeg) S M (by decide) (gaa_36 rfl) h1 rfl dX9_shortenBy_10 ?_
  obtain ⟨x2, ex2, hf⟩ := nm_x hf
  refine g_topi ex2 ?_
  refine lv_istore (lv' := [(4, .int x2), (0, .ref (G.1 2)), (1, .int a1), (2, .int a2), (3, .int a3)]) hx hb dX9_shortenBy_11 hl (by decide) rfl (fun ls hl => ?_)
  refine lv_aload_n hx hb dX9_shortenBy_13 rfl (lv_at hl 1 rfl) ?_
  refine gf_X9_3 (i := 2) S M (by decide) rfl tw_1_58 dX9_shortenBy_14 ?_
  refine lv_iload_n hx hb dX9_shortenBy_17 rfl (lv_at hl 3 rfl) ?_
  refine lv_bipush (v := 6) hx hb dX9_shortenBy_18 (by decide) ?_
  refine lv_imul hx hb dX9_shortenBy_20 ?_
  refine lv_iload_n hx hb dX9_shortenBy_21 rfl (lv_at hl 4 rfl) ?_
  refine lv_iadd hx hb dX9_shortenBy_22 ?_
  obtain ⟨h3, hf⟩ := gi_x hf
  refine gk_iald (i := 6) (k := ((a2 * 6) + a3).toNatClampNeg) S M (by decide) (gaa_36 rfl) h3 rfl dX9_shortenBy_23 ?_
  obtain ⟨x4, ex4, hf⟩ := nm_x hf
  refine g_topi ex4 ?_
  refine lv_istore (lv' := [(5, .int x4), (4, .int x2), (0, .ref (G.1 2)), (1, .int a1), (2, .int a2), (3, .int a3)]) hx hb dX9_shortenBy_24 hl (by decide) rfl (fun ls hl => ?_)
  refine lv_iload hx hb dX9_shortenBy_26 (lv_at hl 1 rfl) ?_
  refine lv_iconst (v := (-1)) hx hb dX9_shortenBy_28 (by decide) ?_
  refine lv_icmp_eq (tgt := 38) hx hb dX9_shortenBy_29 (by decide) (fun c5 => ?_) (fun c5 => ?_)
  · have hf := it_p c5 hf
    cases hf
    exact g_vret S M hr hlk (by decide) (by decide) dX9_shortenBy_38 rfl
  · have hf := it_n c5 hf
    refine lv_iload hx hb dX9_shortenBy_32 (lv_at hl 0 rfl) ?_
    refine lv_iconst (v := (-1)) hx hb dX9_shortenBy_34 (by decide) ?_
    refine lv_icmp_ne (tgt := 39) hx hb dX9_shortenBy_35 (by decide) (fun c6 => ?_) (fun c6 => ?_)
    · have hf := it_n c6 hf
      refine lv_aload_n hx hb dX9_shortenBy_39 rfl (lv_at hl 2 rfl) ?_
      refine gf_X9_3 (i := 2) S M (by decide) rfl tw_1_58 dX9_shortenBy_40 ?_
      refine lv_iload_n hx hb dX9_shortenBy_43 rfl (lv_at hl 3 rfl) ?_
      refine lv_bipush (v := 6) hx hb dX9_shortenBy_44 (by decide) ?_
      refine lv_imul hx hb dX9_shortenBy_46 ?_
      refine lv_iload_n hx hb dX9_shortenBy_47 rfl (lv_at hl 5 rfl) ?_
      refine lv_iadd hx hb dX9_shortenBy_48 ?_
      obtain ⟨h7, hf⟩ := gi_x hf
      refine gk_iald (i := 6) (k := ((a1 * 6) + a3).toNatClampNeg) S M (by decide) (gaa_36 rfl) h7 rfl dX9_shortenBy_49 ?_
      obtain ⟨x8, ex8, hf⟩ := nm_x hf
      refine g_topi ex8 ?_
      refine lv_istore (lv' := [(6, .int x8), (5, .int x4), (4, .int x2), (0, .ref (G.1 2)), (1, .int a1), (2, .int a2), (3, .int a3)]) hx hb dX9_shortenBy_50 hl (by decide) rfl (fun ls hl => ?_)
      refine lv_iload hx hb dX9_shortenBy_52 (lv_at hl 0 rfl) ?_
      refine lv_iconst (v := (-1)) hx hb dX9_shortenBy_54 (by decide) ?_
      refine lv_icmp_eq (tgt := 68) hx hb dX9_shortenBy_55 (by decide) (fun c9 => ?_) (fun c9 => ?_)
      · have hf := it_p c9 hf
        refine lv_aload_n hx hb dX9_shortenBy_68 rfl (lv_at hl 3 rfl) ?_
        refine gf_X9_3 (i := 2) S M (by decide) rfl tw_1_58 dX9_shortenBy_69 ?_
        refine lv_iload_n hx hb dX9_shortenBy_72 rfl (lv_at hl 4 rfl) ?_
        refine lv_bipush (v := 6) hx hb dX9_shortenBy_73 (by decide) ?_
        refine lv_imul hx hb dX9_shortenBy_75 ?_
        refine lv_iload_n hx hb dX9_shortenBy_76 rfl (lv_at hl 6 rfl) ?_
        refine lv_iadd hx hb dX9_shortenBy_77 ?_
        refine lv_iload hx hb dX9_shortenBy_78 (lv_at hl 2 rfl) ?_
        refine lv_iload hx hb dX9_shortenBy_80 (lv_at hl 1 rfl) ?_
        refine lv_iadd hx hb dX9_shortenBy_82 ?_
        obtain ⟨h10, hf⟩ := gi_x hf
        obtain ⟨σ11, eσ11, hf⟩ := nm_x hf
        refine gk_iast (i := 6) (k := ((a1 * 6) + a3).toNatClampNeg) S M (by decide) (fun _ => (gaa_36 rfl)) h10 rfl dX9_shortenBy_83 (fun H locs M => ?_)
        rw [← eσ11] at M
        cases hf
        exact g_vret S M hr hlk (by decide) (by decide) dX9_shortenBy_84 rfl
      · have hf := it_n c9 hf
        refine lv_iload hx hb dX9_shortenBy_58 (lv_at hl 2 rfl) ?_
        refine lv_iload hx hb dX9_shortenBy_60 (lv_at hl 1 rfl) ?_
        refine lv_iadd hx hb dX9_shortenBy_62 ?_
        refine lv_iload hx hb dX9_shortenBy_63 (lv_at hl 0 rfl) ?_
        refine lv_icmp_ge (tgt := 84) hx hb dX9_shortenBy_65 (by decide) (fun c12 => ?_) (fun c12 => ?_)
        · have hf := it_p c12 hf
          cases hf
          exact g_vret S M hr hlk (by decide) (by decide) dX9_shortenBy_84 rfl
        · have hf := it_n c12 hf
          refine lv_aload_n hx hb dX9_shortenBy_68 rfl (lv_at hl 3 rfl) ?_
          refine gf_X9_3 (i := 2) S M (by decide) rfl tw_1_58 dX9_shortenBy_69 ?_
          refine lv_iload_n hx hb dX9_shortenBy_72 rfl (lv_at hl 4 rfl) ?_
          refine lv_bipush (v := 6) hx hb dX9_shortenBy_73 (by decide) ?_
          refine lv_imul hx hb dX9_shortenBy_75 ?_
          refine lv_iload_n hx hb dX9_shortenBy_76 rfl (lv_at hl 6 rfl) ?_
          refine lv_iadd hx hb dX9_shortenBy_77 ?_
          refine lv_iload hx hb dX9_shortenBy_78 (lv_at hl 2 rfl) ?_
          refine lv_iload hx hb dX9_shortenBy_80 (lv_at hl 1 rfl) ?_
          refine lv_iadd hx hb dX9_shortenBy_82 ?_
          obtain ⟨h13, hf⟩ := gi_x hf
          obtain ⟨σ14, eσ14, hf⟩ := nm_x hf
          refine gk_iast (i := 6) (k := ((a1 * 6) + a3).toNatClampNeg) S M (by decide) (fun _ => (gaa_36 rfl)) h13 rfl dX9_shortenBy_83 (fun H locs M => ?_)
          rw [← eσ14] at M
          cases hf
          exact g_vret S M hr hlk (by decide) (by decide) dX9_shortenBy_84 rfl
    · have hf := it_p c6 hf
      cases hf
      exact g_vret S M hr hlk (by decide) (by decide) dX9_shortenBy_38 rfl
theorem k_X9_measureByRounds : gMV yX9_measureByRounds cX9_measureByRounds 4 none 0 := ⟨tw_3_156, tw_1_3, by decide⟩
set_option maxHeartbeats 400000 in
set_option maxRecDepth 100000 in
theorem w_X9_measureByRounds_L10 {p : Program} {l : Launch} {e : Env} {s : State} {m : MethodId} {args : Array Value} {below : List Frame} {meth : Method} {c : Code} {Q : State → Prop} {G : gT} {lo : Int64} {dd : UInt64} (S : CallFix p m c cX9_measureByRounds 4 s args gTs RX9) (C0 : gCST G (gAA G s.heap.size) s) (p1 : Int32) : ∀ (n : Nat) (v2 : Int32) (σ : gM) (res : gM), f_X9_measureByRounds_L10 p1 n v2 σ = some res → ∀ (H : Heap) (locs : List Loc) (ls : Array Slot), gMS G (gAA G s.heap.size) lo dd σ s H locs → lv_has ls 4 [(0, .ref (G.1 2)), (1, .int p1), (2, .int v2)] → (k48 : ∀ (τ : gM), res = τ → ∀ (H : Heap) (locs : List Loc) (ls : Array Slot), gMS G (gAA G s.heap.size) lo dd τ s H locs → lv_has ls 4 [(0, .ref (G.1 2)), (1, .int p1)] → W p l e ({ frames := 2, cells := 0, slots := 0, locals := 44 } : Room) s m args below meth c H locs 0 0 Q (F0 m 48 ls [])) → W p l e ({ frames := 2, cells := 0, slots := 0, locals := 44 } : Room) s m args below meth c H locs 0 0 Q (F0 m 10 ls []) := by
  have hx := S.1
  have hb := S.2.1
  intro n
  induction n with
  | zero =>
    intro v2 σ res hf
    cases hf
  | succ n ih =>
    intro v2 σ res hf H locs ls M hl k48
    rw [f_X9_measureByRounds_L10] at hf
    refine lv_iload_n hx hb dX9_measureByRounds_10 rfl (lv_at hl 2 rfl) ?_
    refine lv_bipush (v := 6) hx hb dX9_measureByRounds_11 (by decide) ?_
    refine lv_icmp_ge (tgt := 48) hx hb dX9_measureByRounds_13 (by decide) (fun c2 => ?_) (fun c2 => ?_)
    · have hf := it_p c2 hf
      cases hf
      exact k48 _ rfl _ _ _ M (lv_sub hl [0, 1] rfl)
    · have hf := it_n c2 hf
      refine lv_aload_n hx hb dX9_measureByRounds_16 rfl (lv_at hl 0 rfl) ?_
      refine gf_X9_3 (i := 2) S M (by decide) rfl tw_1_58 dX9_measureByRounds_17 ?_
      refine lv_iload_n hx hb dX9_measureByRounds_20 rfl (lv_at hl 1 rfl) ?_
      refine lv_bipush (v := 6) hx hb dX9_measureByRounds_21 (by decide) ?_
      refine lv_imul hx hb dX9_measureByRounds_23 ?_
      refine lv_iload_n hx hb dX9_measureByRounds_24 rfl (lv_at hl 2 rfl) ?_
      refine lv_iadd hx hb dX9_measureByRounds_25 ?_
      refine lv_iload_n hx hb dX9_measureByRounds_26 rfl (lv_at hl 1 rfl) ?_
      refine lv_iload_n hx hb dX9_measureByRounds_27 rfl (lv_at hl 2 rfl) ?_
      refine lv_icmp_ne (tgt := 35) hx hb dX9_measureByRounds_28 (by decide) (fun c3 => ?_) (fun c3 => ?_)
      · have hf := it_n c3 hf
        refine lv_aload_n hx hb dX9_measureByRounds_35 rfl (lv_at hl 0 rfl) ?_
        refine lv_iload_n hx hb dX9_measureByRounds_36 rfl (lv_at hl 1 rfl) ?_
        refine lv_iload_n hx hb dX9_measureByRounds_37 rfl (lv_at hl 2 rfl) ?_
        obtain ⟨r5, h4, hf⟩ := bd_x hf
        refine g_callR (st1 := [.int r5, .int ((p1 * 6) + v2), .ref (G.1 6)]) (cells' := 0) (slots' := 0) M (g_invV (index := 50) S M C0 hl (c_X9_lengthBetween l G H.size lo dd σ p1 v2  h4) k_X9_lengthBetween tw_3_158 tw_3_159 tw_3_157 (by decide) (ge_2 rfl) rfl rfl rfl rfl rfl rfl dX9_measureByRounds_38) rfl rfl rfl (fun H locs M => ?_)
        obtain ⟨h6, hf⟩ := gi_x hf
        obtain ⟨σ7, eσ7, hf⟩ := nm_x hf
        refine gk_iast (i := 6) (k := ((p1 * 6) + v2).toNatClampNeg) S M (by decide) (fun _ => (gaa_36 rfl)) h6 rfl dX9_measureByRounds_41 (fun H locs M => ?_)
        rw [← eσ7] at M
        obtain ⟨x8, ex8, hf⟩ := nm_x hf
        refine lv_iinc (v := x8) (lv' := [(2, .int x8), (0, .ref (G.1 2)), (1, .int p1)]) hx hb dX9_measureByRounds_42 hl (k := 2) rfl (by rw [ex8]; rfl) (by decide) rfl (fun ls hl => ?_)
        refine lv_goto (tgt := 10) hx hb dX9_measureByRounds_45 (by decide) ?_
        exact ih _ _ _ hf _ _ _ M (lv_sub hl [1, 2, 0] rfl) k48
      · have hf := it_p c3 hf
        refine lv_iconst (v := 0) hx hb dX9_measureByRounds_31 (by decide) ?_
        refine lv_goto (tgt := 41) hx hb dX9_measureByRounds_32 (by decide) ?_
        obtain ⟨h9, hf⟩ := gi_x hf
        obtain ⟨σ10, eσ10, hf⟩ := nm_x hf
        refine gk_iast (i := 6) (k := ((p1 * 6) + v2).toNatClampNeg) S M (by decide) (fun _ => (gaa_36 rfl)) h9 rfl dX9_measureByRounds_41 (fun H locs M => ?_)
        rw [← eσ10] at M
        obtain ⟨x11, ex11, hf⟩ := nm_x hf
        refine lv_iinc (v := x11) (lv' := [(2, .int x11), (0, .ref (G.1 2)), (1, .int p1)]) hx hb dX9_measureByRounds_42 hl (k := 2) rfl (by rw [ex11]; rfl) (by decide) rfl (fun ls hl => ?_)
        refine lv_goto (tgt := 10) hx hb dX9_measureByRounds_45 (by decide) ?_
        exact ih _ _ _ hf _ _ _ M (lv_sub hl [1, 2, 0] rfl) k48
set_option maxHeartbeats 400000 in
set_option maxRecDepth 100000 in
theorem w_X9_measureByRounds_L2 {p : Program} {l : Launch} {e : Env} {s : State} {m : MethodId} {args : Array Value} {below : List Frame} {meth : Method} {c : Code} {Q : State → Prop} {G : gT} {lo : Int64} {dd : UInt64} (S : CallFix p m c cX9_measureByRounds 4 s args gTs RX9) (C0 : gCST G (gAA G s.heap.size) s) : ∀ (n : Nat) (v1 : Int32) (σ : gM) (res : gM), f_X9_measureByRounds_L2 n v1 σ = some res → ∀ (H : Heap) (locs : List Loc) (ls : Array Slot), gMS G (gAA G s.heap.size) lo dd σ s H locs → lv_has ls 4 [(0, .ref (G.1 2)), (1, .int v1)] → (k54 : ∀ (τ : gM), res = τ → ∀ (H : Heap) (locs : List Loc) (ls : Array Slot), gMS G (gAA G s.heap.size) lo dd τ s H locs → lv_has ls 4 [(0, .ref (G.1 2))] → W p l e ({ frames := 2, cells := 0, slots := 0, locals := 44 } : Room) s m args below meth c H locs 0 0 Q (F0 m 54 ls [])) → W p l e ({ frames := 2, cells := 0, slots := 0, locals := 44 } : Room) s m args below meth c H locs 0 0 Q (F0 m 2 ls []) := by
  have hx := S.1
  have hb := S.2.1
  intro n
  induction n with
  | zero =>
    intro v1 σ res hf
    cases hf
  | succ n ih =>
    intro v1 σ res hf H locs ls M hl k54
    rw [f_X9_measureByRounds_L2] at hf
    refine lv_iload_n hx hb dX9_measureByRounds_2 rfl (lv_at hl 1 rfl) ?_
    refine lv_bipush (v := 6) hx hb dX9_measureByRounds_3 (by decide) ?_
    refine lv_icmp_ge (tgt := 54) hx hb dX9_measureByRounds_5 (by decide) (fun c1 => ?_) (fun c1 => ?_)
    · have hf := it_p c1 hf
      cases hf
      exact k54 _ rfl _ _ _ M (lv_sub hl [0] rfl)
    · have hf := it_n c1 hf
      refine lv_iconst (v := 0) hx hb dX9_measureByRounds_8 (by decide) ?_
      refine lv_istore_n (lv' := [(2, .int 0), (0, .ref (G.1 2)), (1, .int v1)]) hx hb dX9_measureByRounds_9 rfl hl (by decide) rfl (fun ls hl => ?_)
      obtain ⟨σ13, h12, hf⟩ := bd_x hf
      refine w_X9_measureByRounds_L10 S C0 v1 gFU 0 σ _ h12 _ _ _ M (lv_sub hl [1, 2, 0] rfl) (fun _ eq H locs ls M hl => ?_)
      cases eq
      obtain ⟨x14, ex14, hf⟩ := nm_x hf
      refine lv_iinc (v := x14) (lv' := [(1, .int x14), (0, .ref (G.1 2))]) hx hb dX9_measureByRounds_48 hl (k := 1) rfl (by rw [ex14]; rfl) (by decide) rfl (fun ls hl => ?_)
      refine lv_goto (tgt := 2) hx hb dX9_measureByRounds_51 (by decide) ?_
      exact ih _ _ _ hf _ _ _ M (lv_sub hl [1, 0] rfl) k54
set_option maxHeartbeats 400000 in
set_option maxRecDepth 100000 in
theorem w_X9_measureByRounds_L72 {p : Program} {l : Launch} {e : Env} {s : State} {m : MethodId} {args : Array Value} {below : List Frame} {meth : Method} {c : Code} {Q : State → Prop} {G : gT} {lo : Int64} {dd : UInt64} (S : CallFix p m c cX9_measureByRounds 4 s args gTs RX9) (C0 : gCST G (gAA G s.heap.size) s) (p1 : Int32) (p2 : Int32) : ∀ (n : Nat) (v3 : Int32) (σ : gM) (res : gM), f_X9_measureByRounds_L72 p1 p2 n v3 σ = some res → ∀ (H : Heap) (locs : List Loc) (ls : Array Slot), gMS G (gAA G s.heap.size) lo dd σ s H locs → lv_has ls 4 [(0, .ref (G.1 2)), (1, .int p1), (2, .int p2), (3, .int v3)] → (k91 : ∀ (τ : gM), res = τ → ∀ (H : Heap) (locs : List Loc) (ls : Array Slot), gMS G (gAA G s.heap.size) lo dd τ s H locs → lv_has ls 4 [(0, .ref (G.1 2)), (1, .int p1), (2, .int p2)] → W p l e ({ frames := 2, cells := 0, slots := 0, locals := 44 } : Room) s m args below meth c H locs 0 0 Q (F0 m 91 ls [])) → W p l e ({ frames := 2, cells := 0, slots := 0, locals := 44 } : Room) s m args below meth c H locs 0 0 Q (F0 m 72 ls []) := by
  have hx := S.1
  have hb := S.2.1
  intro n
  induction n with
  | zero =>
    intro v3 σ res hf
    cases hf
  | succ n ih =>
    intro v3 σ res hf H locs ls M hl k91
    rw [f_X9_measureByRounds_L72] at hf
    refine lv_iload_n hx hb dX9_measureByRounds_72 rfl (lv_at hl 3 rfl) ?_
    refine lv_bipush (v := 6) hx hb dX9_measureByRounds_73 (by decide) ?_
    refine lv_icmp_ge (tgt := 91) hx hb dX9_measureByRounds_75 (by decide) (fun c19 => ?_) (fun c19 => ?_)
    · have hf := it_p c19 hf
      cases hf
      exact k91 _ rfl _ _ _ M (lv_sub hl [0, 1, 2] rfl)
    · have hf := it_n c19 hf
      refine lv_aload_n hx hb dX9_measureByRounds_78 rfl (lv_at hl 0 rfl) ?_
      refine lv_iload_n hx hb dX9_measureByRounds_79 rfl (lv_at hl 2 rfl) ?_
      refine lv_iload_n hx hb dX9_measureByRounds_80 rfl (lv_at hl 1 rfl) ?_
      refine lv_iload_n hx hb dX9_measureByRounds_81 rfl (lv_at hl 3 rfl) ?_
      obtain ⟨σ21, h20, hf⟩ := bd_x hf
      refine g_callR (st1 := []) (cells' := 0) (slots' := 0) M (g_invV (index := 54) S M C0 hl (c_X9_shortenBy l G H.size lo dd σ p2 p1 v3  h20) k_X9_shortenBy tw_3_167 tw_0_7 tw_3_165 (by decide) (ge_2 rfl) rfl rfl rfl rfl rfl rfl dX9_measureByRounds_82) rfl rfl rfl (fun H locs M => ?_)
      obtain ⟨x22, ex22, hf⟩ := nm_x hf
      refine lv_iinc (v := x22) (lv' := [(3, .int x22), (0, .ref (G.1 2)), (1, .int p1), (2, .int p2)]) hx hb dX9_measureByRounds_85 hl (k := 3) rfl (by rw [ex22]; rfl) (by decide) rfl (fun ls hl => ?_)
      refine lv_goto (tgt := 72) hx hb dX9_measureByRounds_88 (by decide) ?_
      exact ih _ _ _ hf _ _ _ M (lv_sub hl [1, 2, 3, 0] rfl) k91
set_option maxHeartbeats 400000 in
set_option maxRecDepth 100000 in
theorem w_X9_measureByRounds_L64 {p : Program} {l : Launch} {e : Env} {s : State} {m : MethodId} {args : Array Value} {below : List Frame} {meth : Method} {c : Code} {Q : State → Prop} {G : gT} {lo : Int64} {dd : UInt64} (S : CallFix p m c cX9_measureByRounds 4 s args gTs RX9) (C0 : gCST G (gAA G s.heap.size) s) (p1 : Int32) : ∀ (n : Nat) (v2 : Int32) (σ : gM) (res : gM), f_X9_measureByRounds_L64 p1 n v2 σ = some res → ∀ (H : Heap) (locs : List Loc) (ls : Array Slot), gMS G (gAA G s.heap.size) lo dd σ s H locs → lv_has ls 4 [(0, .ref (G.1 2)), (1, .int p1), (2, .int v2)] → (k97 : ∀ (τ : gM), res = τ → ∀ (H : Heap) (locs : List Loc) (ls : Array Slot), gMS G (gAA G s.heap.size) lo dd τ s H locs → lv_has ls 4 [(0, .ref (G.1 2)), (1, .int p1)] → W p l e ({ frames := 2, cells := 0, slots := 0, locals := 44 } : Room) s m args below meth c H locs 0 0 Q (F0 m 97 ls [])) → W p l e ({ frames := 2, cells := 0, slots := 0, locals := 44 } : Room) s m args below meth c H locs 0 0 Q (F0 m 64 ls []) := by
  have hx := S.1
  have hb := S.2.1
  intro n
  induction n with
  | zero =>
    intro v2 σ res hf
    cases hf
  | succ n ih =>
    intro v2 σ res hf H locs ls M hl k97
    rw [f_X9_measureByRounds_L64] at hf
    refine lv_iload_n hx hb dX9_measureByRounds_64 rfl (lv_at hl 2 rfl) ?_
    refine lv_bipush (v := 6) hx hb dX9_measureByRounds_65 (by decide) ?_
    refine lv_icmp_ge (tgt := 97) hx hb dX9_measureByRounds_67 (by decide) (fun c18 => ?_) (fun c18 => ?_)
    · have hf := it_p c18 hf
      cases hf
      exact k97 _ rfl _ _ _ M (lv_sub hl [0, 1] rfl)
    · have hf := it_n c18 hf
      refine lv_iconst (v := 0) hx hb dX9_measureByRounds_70 (by decide) ?_
      refine lv_istore_n (lv' := [(3, .int 0), (0, .ref (G.1 2)), (1, .int p1), (2, .int v2)]) hx hb dX9_measureByRounds_71 rfl hl (by decide) rfl (fun ls hl => ?_)
      obtain ⟨σ24, h23, hf⟩ := bd_x hf
      refine w_X9_measureByRounds_L72 S C0 p1 v2 gFU 0 σ _ h23 _ _ _ M (lv_sub hl [1, 2, 3, 0] rfl) (fun _ eq H locs ls M hl => ?_)
      cases eq
      obtain ⟨x25, ex25, hf⟩ := nm_x hf
      refine lv_iinc (v := x25) (lv' := [(2, .int x25), (0, .ref (G.1 2)), (1, .int p1)]) hx hb dX9_measureByRounds_91 hl (k := 2) rfl (by rw [ex25]; rfl) (by decide) rfl (fun ls hl => ?_)
      refine lv_goto (tgt := 64) hx hb dX9_measureByRounds_94 (by decide) ?_
      exact ih _ _ _ hf _ _ _ M (lv_sub hl [1, 2, 0] rfl) k97
set_option maxHeartbeats 400000 in
set_option maxRecDepth 100000 in
theorem w_X9_measureByRounds_L56 {p : Program} {l : Launch} {e : Env} {s : State} {m : MethodId} {args : Array Value} {below : List Frame} {meth : Method} {c : Code} {Q : State → Prop} {G : gT} {lo : Int64} {dd : UInt64} (S : CallFix p m c cX9_measureByRounds 4 s args gTs RX9) (C0 : gCST G (gAA G s.heap.size) s) : ∀ (n : Nat) (v1 : Int32) (σ : gM) (res : gM), f_X9_measureByRounds_L56 n v1 σ = some res → ∀ (H : Heap) (locs : List Loc) (ls : Array Slot), gMS G (gAA G s.heap.size) lo dd σ s H locs → lv_has ls 4 [(0, .ref (G.1 2)), (1, .int v1)] → (k103 : ∀ (τ : gM), res = τ → ∀ (H : Heap) (locs : List Loc) (ls : Array Slot), gMS G (gAA G s.heap.size) lo dd τ s H locs → lv_has ls 4 [] → W p l e ({ frames := 2, cells := 0, slots := 0, locals := 44 } : Room) s m args below meth c H locs 0 0 Q (F0 m 103 ls [])) → W p l e ({ frames := 2, cells := 0, slots := 0, locals := 44 } : Room) s m args below meth c H locs 0 0 Q (F0 m 56 ls []) := by
  have hx := S.1
  have hb := S.2.1
  intro n
  induction n with
  | zero =>
    intro v1 σ res hf
    cases hf
  | succ n ih =>
    intro v1 σ res hf H locs ls M hl k103
    rw [f_X9_measureByRounds_L56] at hf
    refine lv_iload_n hx hb dX9_measureByRounds_56 rfl (lv_at hl 1 rfl) ?_
    refine lv_bipush (v := 6) hx hb dX9_measureByRounds_57 (by decide) ?_
    refine lv_icmp_ge (tgt := 103) hx hb dX9_measureByRounds_59 (by decide) (fun c17 => ?_) (fun c17 => ?_)
    · have hf := it_p c17 hf
      cases hf
      exact k103 _ rfl _ _ _ M (lv_sub hl [] rfl)
    · have hf := it_n c17 hf
      refine lv_iconst (v := 0) hx hb dX9_measureByRounds_62 (by decide) ?_
      refine lv_istore_n (lv' := [(2, .int 0), (0, .ref (G.1 2)), (1, .int v1)]) hx hb dX9_measureByRounds_63 rfl hl (by decide) rfl (fun ls hl => ?_)
      obtain ⟨σ27, h26, hf⟩ := bd_x hf
      refine w_X9_measureByRounds_L64 S C0 v1 gFU 0 σ _ h26 _ _ _ M (lv_sub hl [1, 2, 0] rfl) (fun _ eq H locs ls M hl => ?_)
      cases eq
      obtain ⟨x28, ex28, hf⟩ := nm_x hf
      refine lv_iinc (v := x28) (lv' := [(1, .int x28), (0, .ref (G.1 2))]) hx hb dX9_measureByRounds_97 hl (k := 1) rfl (by rw [ex28]; rfl) (by decide) rfl (fun ls hl => ?_)
      refine lv_goto (tgt := 56) hx hb dX9_measureByRounds_100 (by decide) ?_
      exact ih _ _ _ hf _ _ _ M (lv_sub hl [1, 0] rfl) k103
set_option maxHeartbeats 400000 in
set_option maxRecDepth 100000 in
theorem c_X9_measureByRounds (l : Launch) (G : gT) (sz : Nat) (lo : Int64) (dd : UInt64) (σ : gM) {o : gM} (hf : f_X9_measureByRounds σ = some o) : gCT l yX9_measureByRounds cX9_measureByRounds 4 none { frames := 2, cells := 0, slots := 0, locals := 44 } 0 0 G sz [.ref (G.1 2)] lo dd σ (.inl (none, o, lo, dd)) := by
  refine gCT_of (by decide) (Nat.le_of_ble_eq_true rfl) (fun p e s m args below meth c ls S hr hlk hnx hsz C0 hl H locs M => ?_)
  subst hsz
  have hx := S.1
  have hb := S.2.1
  unfold f_X9_measureByRounds at hf
  refine lv_iconst (v := 0) hx hb dX9_measureByRounds_0 (by decide) ?_
  refine lv_istore_n (lv' := [(1, .int 0), (0, .ref (G.1 2))]) hx hb dX9_measureByRounds_1 rfl hl (by decide) rfl (fun ls hl => ?_)
  obtain ⟨σ16, h15, hf⟩ := bd_x hf
  refine w_X9_measureByRounds_L2 S C0 gFU 0 σ _ h15 _ _ _ M (lv_sub hl [1, 0] rfl) (fun _ eq H locs ls M hl => ?_)
  cases eq
  refine lv_iconst (v := 0) hx hb dX9_measureByRounds_54 (by decide) ?_
  refine lv_istore_n (lv' := [(1, .int 0), (0, .ref (G.1 2))]) hx hb dX9_measureByRounds_55 rfl hl (by decide) rfl (fun ls hl => ?_)
  obtain ⟨σ30, h29, hf⟩ := bd_x hf
  refine w_X9_measureByRounds_L56 S C0 gFU 0 σ16 _ h29 _ _ _ M (lv_sub hl [1, 0] rfl) (fun _ eq H locs ls M hl => ?_)
  cases eq
  cases hf
  exact g_vret S M hr hlk (by decide) (by decide) dX9_measureByRounds_103 rfl
theorem k_X9_measuredByRounds : gMV yX9_measuredByRounds cX9_measuredByRounds 3 (some .int) 2 := ⟨tw_3_172, tw_1_3, by decide⟩
set_option maxHeartbeats 400000 in
set_option maxRecDepth 100000 in
theorem c_X9_measuredByRounds (l : Launch) (G : gT) (sz : Nat) (lo : Int64) (dd : UInt64) (σ : gM) (a1 : Int32) (a2 : Int32) {o : Int32} (hf : f_X9_measuredByRounds σ a1 a2 = some o) : gCT l yX9_measuredByRounds cX9_measuredByRounds 3 (some .int) { frames := 0, cells := 0, slots := 0, locals := 0 } 0 0 G sz [.ref (G.1 2), .int a1, .int a2] lo dd σ (.inl (mkI o, σ, lo, dd)) := by
  refine gCT_of (by decide) (Nat.le_of_ble_eq_true rfl) (fun p e s m args below meth c ls S hr hlk hnx hsz C0 hl H locs M => ?_)
  subst hsz
  have hx := S.1
  have hb := S.2.1
  unfold f_X9_measuredByRounds at hf
  refine lv_aload_n hx hb dX9_measuredByRounds_0 rfl (lv_at hl 0 rfl) ?_
  refine gf_X9_3 (i := 2) S M (by decide) rfl tw_1_58 dX9_measuredByRounds_1 ?_
  refine lv_iload_n hx hb dX9_measuredByRounds_4 rfl (lv_at hl 1 rfl) ?_
  refine lv_bipush (v := 6) hx hb dX9_measuredByRounds_5 (by decide) ?_
  refine lv_imul hx hb dX9_measuredByRounds_7 ?_
  refine lv_iload_n hx hb dX9_measuredByRounds_8 rfl (lv_at hl 2 rfl) ?_
  refine lv_iadd hx hb dX9_measuredByRounds_9 ?_
  obtain ⟨h1, hf⟩ := gi_x hf
  refine gk_iald (i := 6) (k := ((a1 * 6) + a2).toNatClampNeg) S M (by decide) (gaa_36 rfl) h1 rfl dX9_measuredByRounds_10 ?_
  cases hf
  exact g_iret S M hr hlk (by decide) (by decide) dX9_measuredByRounds_11 rfl
theorem k_X12_distanceByRounds : gMV yX12_distanceByRounds cX12_distanceByRounds 3 (some .int) 2 := ⟨tw_3_152, tw_1_1, by decide⟩
set_option maxHeartbeats 400000 in
set_option maxRecDepth 100000 in
theorem c_X12_distanceByRounds (l : Launch) (hfl : l.stackTraces = false) (G : gT) (sz : Nat) (lo : Int64) (dd : UInt64) (σ : gM) (a1 : Int32) (a2 : Int32) {o : (Int32 × gM) ⊕ (Nat × gM)} (hf : f_X12_distanceByRounds σ a1 a2 = some o) : gCT l yX12_distanceByRounds cX12_distanceByRounds 3 (some .int) { frames := 9, cells := 3, slots := 18, locals := 145 } 3 18 G sz [.ref (G.1 0), .int a1, .int a2] lo dd σ (got2 mkI o lo dd) := by
  refine gCT_of (by decide) (Nat.le_of_ble_eq_true rfl) (fun p e s m args below meth c ls S hr hlk hnx hsz C0 hl H locs M => ?_)
  subst hsz
  have hx := S.1
  have hb := S.2.1
  unfold f_X12_distanceByRounds at hf
  refine lv_iload_n hx hb dX12_distanceByRounds_0 rfl (lv_at hl 1 rfl) ?_
  refine lv_iload_n hx hb dX12_distanceByRounds_1 rfl (lv_at hl 2 rfl) ?_
  rcases bt_x hf with ⟨u, h1, hf⟩ | ⟨n2, h1, hf⟩
  · refine g_callR (st1 := []) (cells' := 2) (slots' := 12) M (g_invS (index := 102) S M C0 hl (c_X12_requirePlaces l hfl G H.size lo dd σ a1 a2  h1) k_X12_requirePlaces tw_3_139 tw_3_138 rfl rfl rfl rfl dX12_distanceByRounds_2) rfl rfl rfl (fun H locs M => ?_)
    refine lv_aload_n hx hb dX12_distanceByRounds_5 rfl (lv_at hl 0 rfl) ?_
    refine gf_X12_0 (i := 0) S M (by decide) rfl tw_2_7 dX12_distanceByRounds_6 ?_
    refine gf_X3_0 (i := 1) S M (by decide) rfl tw_1_134 dX12_distanceByRounds_9 ?_
    obtain ⟨σ4, h3, hf⟩ := bd_x hf
    refine g_callR (st1 := []) (cells' := 2) (slots' := 12) M (g_invV (index := 115) S M C0 hl (c_X9_measureByRounds l G H.size lo dd σ   h3) k_X9_measureByRounds tw_3_154 tw_3_155 tw_3_153 (by decide) (ge_2 rfl) rfl rfl rfl rfl rfl rfl dX12_distanceByRounds_12) rfl rfl rfl (fun H locs M => ?_)
    refine lv_aload_n hx hb dX12_distanceByRounds_15 rfl (lv_at hl 0 rfl) ?_
    refine gf_X12_0 (i := 0) S M (by decide) rfl tw_2_7 dX12_distanceByRounds_16 ?_
    refine gf_X3_0 (i := 1) S M (by decide) rfl tw_1_134 dX12_distanceByRounds_19 ?_
    refine lv_iload_n hx hb dX12_distanceByRounds_22 rfl (lv_at hl 1 rfl) ?_
    refine lv_iload_n hx hb dX12_distanceByRounds_23 rfl (lv_at hl 2 rfl) ?_
    obtain ⟨r6, h5, hf⟩ := bd_x hf
    refine g_callR (st1 := [.int r6]) (cells' := 2) (slots' := 12) M (g_invV (index := 118) S M C0 hl (c_X9_measuredByRounds l G H.size lo dd σ4 a1 a2  h5) k_X9_measuredByRounds tw_3_170 tw_3_171 tw_3_169 (by decide) (ge_2 rfl) rfl rfl rfl rfl rfl rfl dX12_distanceByRounds_24) rfl rfl rfl (fun H locs M => ?_)
    rcases bt_x hf with ⟨r8, h7, hf⟩ | ⟨n9, h7, hf⟩
    · refine g_callR (st1 := [.int r8]) (cells' := 3) (slots' := 18) M (g_invS (index := 109) S M C0 hl (c_X12_present l hfl G H.size lo dd σ4 r6  h7) k_X12_present tw_3_147 tw_3_146 rfl rfl rfl rfl dX12_distanceByRounds_27) rfl rfl rfl (fun H locs M => ?_)
      cases hf
      exact g_iret S M hr hlk (by decide) (by decide) dX12_distanceByRounds_30 rfl
    · cases hf
      refine g_runX (cells' := 3) (slots' := 18) M (g_invS (index := 109) S M C0 hl (c_X12_present l hfl G H.size lo dd σ4 r6  h7) k_X12_present tw_3_147 tw_3_146 rfl rfl rfl rfl dX12_distanceByRounds_27) rfl rfl (fun ce q H locs M hq hv hcl => ?_)
      exact g_out M hnx hlk hq hv hcl (by decide) (by decide) rfl
  · cases hf
    refine g_runX (cells' := 2) (slots' := 12) M (g_invS (index := 102) S M C0 hl (c_X12_requirePlaces l hfl G H.size lo dd σ a1 a2  h1) k_X12_requirePlaces tw_3_139 tw_3_138 rfl rfl rfl rfl dX12_distanceByRounds_2) rfl rfl (fun ce q H locs M hq hv hcl => ?_)
    exact g_out M hnx hlk hq hv hcl (by decide) (by decide) rfl
theorem k_X9_farthestFrom : gMV yX9_farthestFrom cX9_farthestFrom 4 (some .int) 1 := ⟨tw_3_180, tw_1_3, by decide⟩
set_option maxHeartbeats 400000 in
set_option maxRecDepth 100000 in
theorem w_X9_farthestFrom_L9 {p : Program} {l : Launch} {e : Env} {s : State} {m : MethodId} {args : Array Value} {below : List Frame} {meth : Method} {c : Code} {Q : State → Prop} {G : gT} {lo : Int64} {dd : UInt64} (S : CallFix p m c cX9_farthestFrom 4 s args gTs RX9) (C0 : gCST G (gAA G s.heap.size) s) (σ : gM) : ∀ (n : Nat) (v2 : Int32) (v3 : Int32) (res : Int32), f_X9_farthestFrom_L9 σ n v2 v3 = some res → ∀ (H : Heap) (locs : List Loc) (ls : Array Slot), gMS G (gAA G s.heap.size) lo dd σ s H locs → lv_has ls 4 [(0, .ref (G.1 2)), (2, .int v2), (3, .int v3)] → (k38 : ∀ (u2 : Int32), res = u2 → ∀ (H : Heap) (locs : List Loc) (ls : Array Slot), gMS G (gAA G s.heap.size) lo dd σ s H locs → lv_has ls 4 [(2, .int u2)] → W p l e ({ frames := 2, cells := 0, slots := 0, locals := 47 } : Room) s m args below meth c H locs 0 0 Q (F0 m 38 ls [])) → W p l e ({ frames := 2, cells := 0, slots := 0, locals := 47 } : Room) s m args below meth c H locs 0 0 Q (F0 m 9 ls []) := by
  have hx := S.1
  have hb := S.2.1
  intro n
  induction n with
  | zero =>
    intro v2 v3 res hf
    cases hf
  | succ n ih =>
    intro v2 v3 res hf H locs ls M hl k38
    rw [f_X9_farthestFrom_L9] at hf
    refine lv_iload_n hx hb dX9_farthestFrom_9 rfl (lv_at hl 2 rfl) ?_
    refine lv_bipush (v := 6) hx hb dX9_farthestFrom_10 (by decide) ?_
    refine lv_icmp_ge (tgt := 38) hx hb dX9_farthestFrom_12 (by decide) (fun c3 => ?_) (fun c3 => ?_)
    · have hf := it_p c3 hf
      cases hf
      exact k38 _ rfl _ _ _ M (lv_sub hl [1] rfl)
    · have hf := it_n c3 hf
      refine lv_aload_n hx hb dX9_farthestFrom_15 rfl (lv_at hl 0 rfl) ?_
      refine gf_X9_1 (i := 2) S M (by decide) rfl tw_1_56 dX9_farthestFrom_16 ?_
      refine lv_iload_n hx hb dX9_farthestFrom_19 rfl (lv_at hl 2 rfl) ?_
      obtain ⟨h4, hf⟩ := gi_x hf
      refine gk_iald (i := 4) (k := v3.toNatClampNeg) S M (by decide) (gaa_6 rfl) h4 rfl dX9_farthestFrom_20 ?_
      refine lv_aload_n hx hb dX9_farthestFrom_21 rfl (lv_at hl 0 rfl) ?_
      refine gf_X9_1 (i := 2) S M (by decide) rfl tw_1_56 dX9_farthestFrom_22 ?_
      refine lv_iload_n hx hb dX9_farthestFrom_25 rfl (lv_at hl 1 rfl) ?_
      obtain ⟨h5, hf⟩ := gi_x hf
      refine gk_iald (i := 4) (k := v2.toNatClampNeg) S M (by decide) (gaa_6 rfl) h5 rfl dX9_farthestFrom_26 ?_
      refine lv_icmp_le (tgt := 32) hx hb dX9_farthestFrom_27 (by decide) (fun c6 => ?_) (fun c6 => ?_)
      · have hf := it_p c6 hf
        obtain ⟨x7, ex7, hf⟩ := nm_x hf
        refine lv_iinc (v := x7) (lv' := [(3, .int x7), (0, .ref (G.1 2)), (2, .int v2)]) hx hb dX9_farthestFrom_32 hl (k := 2) rfl (by rw [ex7]; rfl) (by decide) rfl (fun ls hl => ?_)
        refine lv_goto (tgt := 9) hx hb dX9_farthestFrom_35 (by decide) ?_
        exact ih _ _ _ hf _ _ _ M (lv_sub hl [1, 2, 0] rfl) k38
      · have hf := it_n c6 hf
        refine lv_iload_n hx hb dX9_farthestFrom_30 rfl (lv_at hl 2 rfl) ?_
        refine lv_istore_n (lv' := [(2, .int v3), (0, .ref (G.1 2)), (3, .int v3)]) hx hb dX9_farthestFrom_31 rfl hl (by decide) rfl (fun ls hl => ?_)
        obtain ⟨x8, ex8, hf⟩ := nm_x hf
        refine lv_iinc (v := x8) (lv' := [(3, .int x8), (2, .int v3), (0, .ref (G.1 2))]) hx hb dX9_farthestFrom_32 hl (k := 2) rfl (by rw [ex8]; rfl) (by decide) rfl (fun ls hl => ?_)
        refine lv_goto (tgt := 9) hx hb dX9_farthestFrom_35 (by decide) ?_
        exact ih _ _ _ hf _ _ _ M (lv_sub hl [2, 1, 0] rfl) k38
set_option maxHeartbeats 400000 in
set_option maxRecDepth 100000 in
theorem c_X9_farthestFrom (l : Launch) (G : gT) (sz : Nat) (lo : Int64) (dd : UInt64) (σ : gM) (a1 : Int32) {r : Int32} {o : gM} (hf : f_X9_farthestFrom σ a1 = some (r, o)) : gCT l yX9_farthestFrom cX9_farthestFrom 4 (some .int) { frames := 2, cells := 0, slots := 0, locals := 47 } 0 0 G sz [.ref (G.1 2), .int a1] lo dd σ (.inl (mkI r, o, lo, dd)) := by
  refine gCT_of (by decide) (Nat.le_of_ble_eq_true rfl) (fun p e s m args below meth c ls S hr hlk hnx hsz C0 hl H locs M => ?_)
  subst hsz
  have hx := S.1
  have hb := S.2.1
  unfold f_X9_farthestFrom at hf
  refine lv_aload_n hx hb dX9_farthestFrom_0 rfl (lv_at hl 0 rfl) ?_
  refine lv_iload_n hx hb dX9_farthestFrom_1 rfl (lv_at hl 1 rfl) ?_
  obtain ⟨σ2, h1, hf⟩ := bd_x hf
  refine g_callR (st1 := []) (cells' := 0) (slots' := 0) M (g_invV (index := 39) S M C0 hl (c_X9_measureFrom l G H.size lo dd σ a1  h1) k_X9_measureFrom tw_3_96 tw_0_4 tw_3_94 (by decide) (ge_2 rfl) rfl rfl rfl rfl rfl rfl dX9_farthestFrom_2) rfl rfl rfl (fun H locs M => ?_)
  refine lv_iload_n hx hb dX9_farthestFrom_5 rfl (lv_at hl 1 rfl) ?_
  refine lv_istore_n (lv' := [(2, .int a1), (0, .ref (G.1 2)), (1, .int a1)]) hx hb dX9_farthestFrom_6 rfl hl (by decide) rfl (fun ls hl => ?_)
  refine lv_iconst (v := 0) hx hb dX9_farthestFrom_7 (by decide) ?_
  refine lv_istore_n (lv' := [(3, .int 0), (2, .int a1), (0, .ref (G.1 2)), (1, .int a1)]) hx hb dX9_farthestFrom_8 rfl hl (by decide) rfl (fun ls hl => ?_)
  obtain ⟨y10, h9, hf⟩ := bd_x hf
  refine w_X9_farthestFrom_L9 S C0 σ2 gFU a1 0 _ h9 _ _ _ M (lv_sub hl [2, 1, 0] rfl) (fun _ eq H locs ls M hl => ?_)
  cases eq
  refine lv_iload_n hx hb dX9_farthestFrom_38 rfl (lv_at hl 0 rfl) ?_
  cases hf
  exact g_iret S M hr hlk (by decide) (by decide) dX9_farthestFrom_39 rfl
theorem k_X12_farthestPlace : gMV yX12_farthestPlace cX12_farthestPlace 2 (some .int) 1 := ⟨tw_3_176, tw_1_1, by decide⟩
set_option maxHeartbeats 400000 in
set_option maxRecDepth 100000 in
theorem c_X12_farthestPlace (l : Launch) (hfl : l.stackTraces = false) (G : gT) (sz : Nat) (lo : Int64) (dd : UInt64) (σ : gM) (a1 : Int32) {o : (Int32 × gM) ⊕ (Nat × gM)} (hf : f_X12_farthestPlace σ a1 = some o) : gCT l yX12_farthestPlace cX12_farthestPlace 2 (some .int) { frames := 8, cells := 1, slots := 6, locals := 124 } 1 6 G sz [.ref (G.1 0), .int a1] lo dd σ (got2 mkI o lo dd) := by
  refine gCT_of (by decide) (Nat.le_of_ble_eq_true rfl) (fun p e s m args below meth c ls S hr hlk hnx hsz C0 hl H locs M => ?_)
  subst hsz
  have hx := S.1
  have hb := S.2.1
  unfold f_X12_farthestPlace at hf
  refine lv_iload_n hx hb dX12_farthestPlace_0 rfl (lv_at hl 1 rfl) ?_
  refine lv_bipush (v := 6) hx hb dX12_farthestPlace_1 (by decide) ?_
  rcases bt_x hf with ⟨u, h1, hf⟩ | ⟨n2, h1, hf⟩
  · refine g_callR (st1 := []) (cells' := 1) (slots' := 6) M (g_invS (index := 121) S M C0 hl (c_X12_requireIndex l hfl G H.size lo dd σ a1 6  h1) k_X12_requireIndex tw_3_142 tw_3_141 rfl rfl rfl rfl dX12_farthestPlace_3) rfl rfl rfl (fun H locs M => ?_)
    refine lv_aload_n hx hb dX12_farthestPlace_6 rfl (lv_at hl 0 rfl) ?_
    refine gf_X12_0 (i := 0) S M (by decide) rfl tw_2_7 dX12_farthestPlace_7 ?_
    refine gf_X3_0 (i := 1) S M (by decide) rfl tw_1_134 dX12_farthestPlace_10 ?_
    refine lv_iload_n hx hb dX12_farthestPlace_13 rfl (lv_at hl 1 rfl) ?_
    obtain ⟨r4, σ5, h3, hf⟩ := bd2_x hf
    refine g_callR (st1 := [.int r4]) (cells' := 1) (slots' := 6) M (g_invV (index := 124) S M C0 hl (c_X9_farthestFrom l G H.size lo dd σ a1  h3) k_X9_farthestFrom tw_3_178 tw_3_179 tw_3_177 (by decide) (ge_2 rfl) rfl rfl rfl rfl rfl rfl dX12_farthestPlace_14) rfl rfl rfl (fun H locs M => ?_)
    cases hf
    exact g_iret S M hr hlk (by decide) (by decide) dX12_farthestPlace_17 rfl
  · cases hf
    refine g_runX (cells' := 1) (slots' := 6) M (g_invS (index := 121) S M C0 hl (c_X12_requireIndex l hfl G H.size lo dd σ a1 6  h1) k_X12_requireIndex tw_3_142 tw_3_141 rfl rfl rfl rfl dX12_farthestPlace_3) rfl rfl (fun ce q H locs M hq hv hcl => ?_)
    exact g_out M hnx hlk hq hv hcl (by decide) (by decide) rfl
theorem k_X12_parcelCount : gMV yX12_parcelCount cX12_parcelCount 1 (some .int) 0 := ⟨tw_5_190, tw_1_1, by decide⟩
set_option maxHeartbeats 400000 in
set_option maxRecDepth 100000 in
theorem c_X12_parcelCount (l : Launch) (G : gT) (sz : Nat) (lo : Int64) (dd : UInt64) (σ : gM) {o : Int32} (hf : f_X12_parcelCount σ = some o) : gCT l yX12_parcelCount cX12_parcelCount 1 (some .int) { frames := 1, cells := 0, slots := 0, locals := 20 } 0 0 G sz [.ref (G.1 0)] lo dd σ (.inl (mkI o, σ, lo, dd)) := by
  refine gCT_of (by decide) (Nat.le_of_ble_eq_true rfl) (fun p e s m args below meth c ls S hr hlk hnx hsz C0 hl H locs M => ?_)
  subst hsz
  have hx := S.1
  have hb := S.2.1
  unfold f_X12_parcelCount at hf
  refine lv_aload_n hx hb dX12_parcelCount_0 rfl (lv_at hl 0 rfl) ?_
  refine gf_X12_0 (i := 0) S M (by decide) rfl tw_2_7 dX12_parcelCount_1 ?_
  refine gf_X3_1 (i := 1) S M (by decide) rfl tw_1_138 dX12_parcelCount_4 ?_
  obtain ⟨r2, h1, hf⟩ := bd_x hf
  refine g_callR (st1 := [.int r2]) (cells' := 0) (slots' := 0) M (g_invV (index := 131) S M C0 hl (c_X8_size l G H.size lo dd σ   h1) k_X8_size tw_3_22 tw_3_23 tw_3_189 (by decide) (ge_3 rfl) rfl rfl rfl rfl rfl rfl dX12_parcelCount_7) rfl rfl rfl (fun H locs M => ?_)
  cases hf
  exact g_iret S M hr hlk (by decide) (by decide) dX12_parcelCount_10 rfl
theorem k_X12_requireParcel : gMV yX12_requireParcel cX12_requireParcel 2 none 1 := ⟨tw_3_188, tw_1_1, by decide⟩
set_option maxHeartbeats 400000 in
set_option maxRecDepth 100000 in
theorem c_X12_requireParcel (l : Launch) (hfl : l.stackTraces = false) (G : gT) (sz : Nat) (lo : Int64) (dd : UInt64) (σ : gM) (a1 : Int32) {o : (Unit) ⊕ (Nat)} (hf : f_X12_requireParcel σ a1 = some o) : gCT l yX12_requireParcel cX12_requireParcel 2 none { frames := 8, cells := 1, slots := 6, locals := 124 } 1 6 G sz [.ref (G.1 0), .int a1] lo dd σ (got mkU o σ lo dd) := by
  refine gCT_of (by decide) (Nat.le_of_ble_eq_true rfl) (fun p e s m args below meth c ls S hr hlk hnx hsz C0 hl H locs M => ?_)
  subst hsz
  have hx := S.1
  have hb := S.2.1
  unfold f_X12_requireParcel at hf
  refine lv_iload_n hx hb dX12_requireParcel_0 rfl (lv_at hl 1 rfl) ?_
  refine lv_aload_n hx hb dX12_requireParcel_1 rfl (lv_at hl 0 rfl) ?_
  refine gf_X12_0 (i := 0) S M (by decide) rfl tw_2_7 dX12_requireParcel_2 ?_
  refine gf_X3_1 (i := 1) S M (by decide) rfl tw_1_138 dX12_requireParcel_5 ?_
  obtain ⟨r2, h1, hf⟩ := bd_x hf
  refine g_callR (st1 := [.int r2, .int a1]) (cells' := 0) (slots' := 0) M (g_invV (index := 131) S M C0 hl (c_X8_size l G H.size lo dd σ   h1) k_X8_size tw_3_22 tw_3_23 tw_3_189 (by decide) (ge_3 rfl) rfl rfl rfl rfl rfl rfl dX12_requireParcel_8) rfl rfl rfl (fun H locs M => ?_)
  rcases bt_x hf with ⟨u, h3, hf⟩ | ⟨n4, h3, hf⟩
  · refine g_callR (st1 := []) (cells' := 1) (slots' := 6) M (g_invS (index := 121) S M C0 hl (c_X12_requireIndex l hfl G H.size lo dd σ a1 r2  h3) k_X12_requireIndex tw_3_142 tw_3_141 rfl rfl rfl rfl dX12_requireParcel_11) rfl rfl rfl (fun H locs M => ?_)
    cases hf
    exact g_vret S M hr hlk (by decide) (by decide) dX12_requireParcel_14 rfl
  · cases hf
    refine g_runX (cells' := 1) (slots' := 6) M (g_invS (index := 121) S M C0 hl (c_X12_requireIndex l hfl G H.size lo dd σ a1 r2  h3) k_X12_requireIndex tw_3_142 tw_3_141 rfl rfl rfl rfl dX12_requireParcel_11) rfl rfl (fun ce q H locs M hq hv hcl => ?_)
    exact g_out M hnx hlk hq hv hcl (by decide) (by decide) rfl
theorem k_X12_weight : gMV yX12_weight cX12_weight 2 (some .int) 1 := ⟨tw_5_206, tw_1_1, by decide⟩
set_option maxHeartbeats 400000 in
set_option maxRecDepth 100000 in
theorem c_X12_weight (l : Launch) (hfl : l.stackTraces = false) (G : gT) (sz : Nat) (lo : Int64) (dd : UInt64) (σ : gM) (a1 : Int32) {o : (Int32) ⊕ (Nat)} (hf : f_X12_weight σ a1 = some o) : gCT l yX12_weight cX12_weight 2 (some .int) { frames := 9, cells := 1, slots := 6, locals := 145 } 1 6 G sz [.ref (G.1 0), .int a1] lo dd σ (got mkI o σ lo dd) := by
  refine gCT_of (by decide) (Nat.le_of_ble_eq_true rfl) (fun p e s m args below meth c ls S hr hlk hnx hsz C0 hl H locs M => ?_)
  subst hsz
  have hx := S.1
  have hb := S.2.1
  unfold f_X12_weight at hf
  refine lv_aload_n hx hb dX12_weight_0 rfl (lv_at hl 0 rfl) ?_
  refine lv_iload_n hx hb dX12_weight_1 rfl (lv_at hl 1 rfl) ?_
  rcases bt_x hf with ⟨u, h1, hf⟩ | ⟨n2, h1, hf⟩
  · refine g_callR (st1 := []) (cells' := 1) (slots' := 6) M (g_invV (index := 134) S M C0 hl (c_X12_requireParcel l hfl G H.size lo dd σ a1  h1) k_X12_requireParcel tw_3_187 tw_0_8 tw_3_185 (by decide) (ge_0 rfl) rfl rfl rfl rfl rfl rfl dX12_weight_2) rfl rfl rfl (fun H locs M => ?_)
    refine lv_aload_n hx hb dX12_weight_5 rfl (lv_at hl 0 rfl) ?_
    refine gf_X12_0 (i := 0) S M (by decide) rfl tw_2_7 dX12_weight_6 ?_
    refine gf_X3_1 (i := 1) S M (by decide) rfl tw_1_138 dX12_weight_9 ?_
    refine lv_iload_n hx hb dX12_weight_12 rfl (lv_at hl 1 rfl) ?_
    obtain ⟨r4, h3, hf⟩ := bd_x hf
    refine g_callR (st1 := [.int r4]) (cells' := 1) (slots' := 6) M (g_invV (index := 138) S M C0 hl (c_X8_weightOf l G H.size lo dd σ a1  h3) k_X8_weightOf tw_3_30 tw_3_31 tw_5_207 (by decide) (ge_3 rfl) rfl rfl rfl rfl rfl rfl dX12_weight_13) rfl rfl rfl (fun H locs M => ?_)
    cases hf
    exact g_iret S M hr hlk (by decide) (by decide) dX12_weight_16 rfl
  · cases hf
    refine g_runX (cells' := 1) (slots' := 6) M (g_invV (index := 134) S M C0 hl (c_X12_requireParcel l hfl G H.size lo dd σ a1  h1) k_X12_requireParcel tw_3_187 tw_0_8 tw_3_185 (by decide) (ge_0 rfl) rfl rfl rfl rfl rfl rfl dX12_weight_2) rfl rfl (fun ce q H locs M hq hv hcl => ?_)
    exact g_out M hnx hlk hq hv hcl (by decide) (by decide) rfl
theorem k_X12_hazard : gMV yX12_hazard cX12_hazard 2 (some .int) 1 := ⟨tw_5_211, tw_1_1, by decide⟩
set_option maxHeartbeats 400000 in
set_option maxRecDepth 100000 in
theorem c_X12_hazard (l : Launch) (hfl : l.stackTraces = false) (G : gT) (sz : Nat) (lo : Int64) (dd : UInt64) (σ : gM) (a1 : Int32) {o : (Int32) ⊕ (Nat)} (hf : f_X12_hazard σ a1 = some o) : gCT l yX12_hazard cX12_hazard 2 (some .int) { frames := 9, cells := 1, slots := 6, locals := 145 } 1 6 G sz [.ref (G.1 0), .int a1] lo dd σ (got mkI o σ lo dd) := by
  refine gCT_of (by decide) (Nat.le_of_ble_eq_true rfl) (fun p e s m args below meth c ls S hr hlk hnx hsz C0 hl H locs M => ?_)
  subst hsz
  have hx := S.1
  have hb := S.2.1
  unfold f_X12_hazard at hf
  refine lv_aload_n hx hb dX12_hazard_0 rfl (lv_at hl 0 rfl) ?_
  refine lv_iload_n hx hb dX12_hazard_1 rfl (lv_at hl 1 rfl) ?_
  rcases bt_x hf with ⟨u, h1, hf⟩ | ⟨n2, h1, hf⟩
  · refine g_callR (st1 := []) (cells' := 1) (slots' := 6) M (g_invV (index := 134) S M C0 hl (c_X12_requireParcel l hfl G H.size lo dd σ a1  h1) k_X12_requireParcel tw_3_187 tw_0_8 tw_3_185 (by decide) (ge_0 rfl) rfl rfl rfl rfl rfl rfl dX12_hazard_2) rfl rfl rfl (fun H locs M => ?_)
    refine lv_aload_n hx hb dX12_hazard_5 rfl (lv_at hl 0 rfl) ?_
    refine gf_X12_0 (i := 0) S M (by decide) rfl tw_2_7 dX12_hazard_6 ?_
    refine gf_X3_1 (i := 1) S M (by decide) rfl tw_1_138 dX12_hazard_9 ?_
    refine lv_iload_n hx hb dX12_hazard_12 rfl (lv_at hl 1 rfl) ?_
    obtain ⟨r4, h3, hf⟩ := bd_x hf
    refine g_callR (st1 := [.int r4]) (cells' := 1) (slots' := 6) M (g_invV (index := 141) S M C0 hl (c_X8_hazardOf l G H.size lo dd σ a1  h3) k_X8_hazardOf tw_3_46 tw_3_47 tw_4_2 (by decide) (ge_3 rfl) rfl rfl rfl rfl rfl rfl dX12_hazard_13) rfl rfl rfl (fun H locs M => ?_)
    cases hf
    exact g_iret S M hr hlk (by decide) (by decide) dX12_hazard_16 rfl
  · cases hf
    refine g_runX (cells' := 1) (slots' := 6) M (g_invV (index := 134) S M C0 hl (c_X12_requireParcel l hfl G H.size lo dd σ a1  h1) k_X12_requireParcel tw_3_187 tw_0_8 tw_3_185 (by decide) (ge_0 rfl) rfl rfl rfl rfl rfl rfl dX12_hazard_2) rfl rfl (fun ce q H locs M hq hv hcl => ?_)
    exact g_out M hnx hlk hq hv hcl (by decide) (by decide) rfl
theorem k_X8_destinationOf : gMV yX8_destinationOf cX8_destinationOf 2 (some .int) 1 := ⟨tw_5_100, tw_1_4, by decide⟩
set_option maxHeartbeats 400000 in
set_option maxRecDepth 100000 in
theorem c_X8_destinationOf (l : Launch) (G : gT) (sz : Nat) (lo : Int64) (dd : UInt64) (σ : gM) (a1 : Int32) {o : Int32} (hf : f_X8_destinationOf σ a1 = some o) : gCT l yX8_destinationOf cX8_destinationOf 2 (some .int) { frames := 0, cells := 0, slots := 0, locals := 0 } 0 0 G sz [.ref (G.1 7), .int a1] lo dd σ (.inl (mkI o, σ, lo, dd)) := by
  refine gCT_of (by decide) (Nat.le_of_ble_eq_true rfl) (fun p e s m args below meth c ls S hr hlk hnx hsz C0 hl H locs M => ?_)
  subst hsz
  have hx := S.1
  have hb := S.2.1
  unfold f_X8_destinationOf at hf
  refine lv_aload_n hx hb dX8_destinationOf_0 rfl (lv_at hl 0 rfl) ?_
  refine gf_X8_2 (i := 7) S M (by decide) rfl tw_1_81 dX8_destinationOf_1 ?_
  refine lv_iload_n hx hb dX8_destinationOf_4 rfl (lv_at hl 1 rfl) ?_
  obtain ⟨h1, hf⟩ := gi_x hf
  refine gk_iald (i := 10) (k := a1.toNatClampNeg) S M (by decide) (gaa_12 rfl) h1 rfl dX8_destinationOf_5 ?_
  cases hf
  exact g_iret S M hr hlk (by decide) (by decide) dX8_destinationOf_6 rfl
theorem k_X12_destination : gMV yX12_destination cX12_destination 2 (some .int) 1 := ⟨tw_5_215, tw_1_1, by decide⟩
set_option maxHeartbeats 400000 in
set_option maxRecDepth 100000 in
theorem c_X12_destination (l : Launch) (hfl : l.stackTraces = false) (G : gT) (sz : Nat) (lo : Int64) (dd : UInt64) (σ : gM) (a1 : Int32) {o : (Int32) ⊕ (Nat)} (hf : f_X12_destination σ a1 = some o) : gCT l yX12_destination cX12_destination 2 (some .int) { frames := 9, cells := 1, slots := 6, locals := 145 } 1 6 G sz [.ref (G.1 0), .int a1] lo dd σ (got mkI o σ lo dd) := by
  refine gCT_of (by decide) (Nat.le_of_ble_eq_true rfl) (fun p e s m args below meth c ls S hr hlk hnx hsz C0 hl H locs M => ?_)
  subst hsz
  have hx := S.1
  have hb := S.2.1
  unfold f_X12_destination at hf
  refine lv_aload_n hx hb dX12_destination_0 rfl (lv_at hl 0 rfl) ?_
  refine lv_iload_n hx hb dX12_destination_1 rfl (lv_at hl 1 rfl) ?_
  rcases bt_x hf with ⟨u, h1, hf⟩ | ⟨n2, h1, hf⟩
  · refine g_callR (st1 := []) (cells' := 1) (slots' := 6) M (g_invV (index := 134) S M C0 hl (c_X12_requireParcel l hfl G H.size lo dd σ a1  h1) k_X12_requireParcel tw_3_187 tw_0_8 tw_3_185 (by decide) (ge_0 rfl) rfl rfl rfl rfl rfl rfl dX12_destination_2) rfl rfl rfl (fun H locs M => ?_)
    refine lv_aload_n hx hb dX12_destination_5 rfl (lv_at hl 0 rfl) ?_
    refine gf_X12_0 (i := 0) S M (by decide) rfl tw_2_7 dX12_destination_6 ?_
    refine gf_X3_1 (i := 1) S M (by decide) rfl tw_1_138 dX12_destination_9 ?_
    refine lv_iload_n hx hb dX12_destination_12 rfl (lv_at hl 1 rfl) ?_
    obtain ⟨r4, h3, hf⟩ := bd_x hf
    refine g_callR (st1 := [.int r4]) (cells' := 1) (slots' := 6) M (g_invV (index := 144) S M C0 hl (c_X8_destinationOf l G H.size lo dd σ a1  h3) k_X8_destinationOf tw_5_98 tw_5_99 tw_5_216 (by decide) (ge_3 rfl) rfl rfl rfl rfl rfl rfl dX12_destination_13) rfl rfl rfl (fun H locs M => ?_)
    cases hf
    exact g_iret S M hr hlk (by decide) (by decide) dX12_destination_16 rfl
  · cases hf
    refine g_runX (cells' := 1) (slots' := 6) M (g_invV (index := 134) S M C0 hl (c_X12_requireParcel l hfl G H.size lo dd σ a1  h1) k_X12_requireParcel tw_3_187 tw_0_8 tw_3_185 (by decide) (ge_0 rfl) rfl rfl rfl rfl rfl rfl dX12_destination_2) rfl rfl (fun ce q H locs M hq hv hcl => ?_)
    exact g_out M hnx hlk hq hv hcl (by decide) (by decide) rfl
theorem k_X8_stateOf : gMV yX8_stateOf cX8_stateOf 2 (some .char) 1 := ⟨tw_3_193, tw_1_4, by decide⟩
set_option maxHeartbeats 400000 in
set_option maxRecDepth 100000 in
theorem c_X8_stateOf (l : Launch) (G : gT) (sz : Nat) (lo : Int64) (dd : UInt64) (σ : gM) (a1 : Int32) {o : Int32} (hf : f_X8_stateOf σ a1 = some o) : gCT l yX8_stateOf cX8_stateOf 2 (some .char) { frames := 0, cells := 0, slots := 0, locals := 0 } 0 0 G sz [.ref (G.1 7), .int a1] lo dd σ (.inl (mkI o, σ, lo, dd)) := by
  refine gCT_of (by decide) (Nat.le_of_ble_eq_true rfl) (fun p e s m args below meth c ls S hr hlk hnx hsz C0 hl H locs M => ?_)
  subst hsz
  have hx := S.1
  have hb := S.2.1
  unfold f_X8_stateOf at hf
  refine lv_aload_n hx hb dX8_stateOf_0 rfl (lv_at hl 0 rfl) ?_
  refine gf_X8_3 (i := 7) S M (by decide) rfl tw_1_82 dX8_stateOf_1 ?_
  refine lv_iload_n hx hb dX8_stateOf_4 rfl (lv_at hl 1 rfl) ?_
  obtain ⟨h1, hf⟩ := gi_x hf
  refine gk_iald (i := 11) (k := a1.toNatClampNeg) S M (by decide) (gaa_12 rfl) h1 rfl dX8_stateOf_5 ?_
  refine lv_iconst (v := (-1)) hx hb dX8_stateOf_6 (by decide) ?_
  refine lv_icmp_ne (tgt := 13) hx hb dX8_stateOf_7 (by decide) (fun c2 => ?_) (fun c2 => ?_)
  · have hf := it_n c2 hf
    refine lv_aload_n hx hb dX8_stateOf_13 rfl (lv_at hl 0 rfl) ?_
    refine gf_X8_3 (i := 7) S M (by decide) rfl tw_1_82 dX8_stateOf_14 ?_
    refine lv_iload_n hx hb dX8_stateOf_17 rfl (lv_at hl 1 rfl) ?_
    obtain ⟨h3, hf⟩ := gi_x hf
    refine gk_iald (i := 11) (k := a1.toNatClampNeg) S M (by decide) (gaa_12 rfl) h3 rfl dX8_stateOf_18 ?_
    refine lv_bipush (v := (-2)) hx hb dX8_stateOf_19 (by decide) ?_
    refine lv_icmp_ne (tgt := 29) hx hb dX8_stateOf_21 (by decide) (fun c4 => ?_) (fun c4 => ?_)
    · have hf := it_n c4 hf
      refine lv_bipush (v := 115) hx hb dX8_stateOf_29 (by decide) ?_
      cases hf
      exact g_zret S M hr hlk (by decide) (by decide) (by decide) dX8_stateOf_31 rfl
    · have hf := it_p c4 hf
      refine lv_bipush (v := 100) hx hb dX8_stateOf_24 (by decide) ?_
      refine lv_goto (tgt := 31) hx hb dX8_stateOf_26 (by decide) ?_
      cases hf
      exact g_zret S M hr hlk (by decide) (by decide) (by decide) dX8_stateOf_31 rfl
  · have hf := it_p c2 hf
    refine lv_bipush (v := 119) hx hb dX8_stateOf_10 (by decide) ?_
    cases hf
    exact g_zret S M hr hlk (by decide) (by decide) (by decide) dX8_stateOf_12 rfl
theorem k_X12_state : gMV yX12_state cX12_state 2 (some .char) 1 := ⟨tw_3_184, tw_1_1, by decide⟩
set_option maxHeartbeats 400000 in
set_option maxRecDepth 100000 in
theorem c_X12_state (l : Launch) (hfl : l.stackTraces = false) (G : gT) (sz : Nat) (lo : Int64) (dd : UInt64) (σ : gM) (a1 : Int32) {o : (Int32) ⊕ (Nat)} (hf : f_X12_state σ a1 = some o) : gCT l yX12_state cX12_state 2 (some .char) { frames := 9, cells := 1, slots := 6, locals := 145 } 1 6 G sz [.ref (G.1 0), .int a1] lo dd σ (got mkI o σ lo dd) := by
  refine gCT_of (by decide) (Nat.le_of_ble_eq_true rfl) (fun p e s m args below meth c ls S hr hlk hnx hsz C0 hl H locs M => ?_)
  subst hsz
  have hx := S.1
  have hb := S.2.1
  unfold f_X12_state at hf
  refine lv_aload_n hx hb dX12_state_0 rfl (lv_at hl 0 rfl) ?_
  refine lv_iload_n hx hb dX12_state_1 rfl (lv_at hl 1 rfl) ?_
  rcases bt_x hf with ⟨u, h1, hf⟩ | ⟨n2, h1, hf⟩
  · refine g_callR (st1 := []) (cells' := 1) (slots' := 6) M (g_invV (index := 134) S M C0 hl (c_X12_requireParcel l hfl G H.size lo dd σ a1  h1) k_X12_requireParcel tw_3_187 tw_0_8 tw_3_185 (by decide) (ge_0 rfl) rfl rfl rfl rfl rfl rfl dX12_state_2) rfl rfl rfl (fun H locs M => ?_)
    refine lv_aload_n hx hb dX12_state_5 rfl (lv_at hl 0 rfl) ?_
    refine gf_X12_0 (i := 0) S M (by decide) rfl tw_2_7 dX12_state_6 ?_
    refine gf_X3_1 (i := 1) S M (by decide) rfl tw_1_138 dX12_state_9 ?_
    refine lv_iload_n hx hb dX12_state_12 rfl (lv_at hl 1 rfl) ?_
    obtain ⟨r4, h3, hf⟩ := bd_x hf
    refine g_callR (st1 := [.int r4]) (cells' := 1) (slots' := 6) M (g_invV (index := 147) S M C0 hl (c_X8_stateOf l G H.size lo dd σ a1  h3) k_X8_stateOf tw_3_191 tw_3_192 tw_3_190 (by decide) (ge_3 rfl) rfl rfl rfl rfl rfl rfl dX12_state_13) rfl rfl rfl (fun H locs M => ?_)
    obtain ⟨z5, hf⟩ := gn_x hf
    cases hf
    exact g_zret S M hr hlk (g_narC z5) (by decide) (by decide) dX12_state_16 rfl
  · cases hf
    refine g_runX (cells' := 1) (slots' := 6) M (g_invV (index := 134) S M C0 hl (c_X12_requireParcel l hfl G H.size lo dd σ a1  h1) k_X12_requireParcel tw_3_187 tw_0_8 tw_3_185 (by decide) (ge_0 rfl) rfl rfl rfl rfl rfl rfl dX12_state_2) rfl rfl (fun ce q H locs M hq hv hcl => ?_)
    exact g_out M hnx hlk hq hv hcl (by decide) (by decide) rfl
theorem k_X12_sackOf : gMV yX12_sackOf cX12_sackOf 3 (some .int) 1 := ⟨tw_5_223, tw_1_1, by decide⟩
set_option maxHeartbeats 400000 in
set_option maxRecDepth 100000 in
theorem c_X12_sackOf (l : Launch) (hfl : l.stackTraces = false) (G : gT) (sz : Nat) (lo : Int64) (dd : UInt64) (σ : gM) (a1 : Int32) {o : (Int32) ⊕ (Nat)} (hf : f_X12_sackOf σ a1 = some o) : gCT l yX12_sackOf cX12_sackOf 3 (some .int) { frames := 9, cells := 2, slots := 12, locals := 145 } 2 12 G sz [.ref (G.1 0), .int a1] lo dd σ (got mkI o σ lo dd) := by
  refine gCT_of (by decide) (Nat.le_of_ble_eq_true rfl) (fun p e s m args below meth c ls S hr hlk hnx hsz C0 hl H locs M => ?_)
  subst hsz
  have hx := S.1
  have hb := S.2.1
  unfold f_X12_sackOf at hf
  refine lv_aload_n hx hb dX12_sackOf_0 rfl (lv_at hl 0 rfl) ?_
  refine lv_iload_n hx hb dX12_sackOf_1 rfl (lv_at hl 1 rfl) ?_
  rcases bt_x hf with ⟨u, h1, hf⟩ | ⟨n2, h1, hf⟩
  · refine g_callR (st1 := []) (cells' := 1) (slots' := 6) M (g_invV (index := 134) S M C0 hl (c_X12_requireParcel l hfl G H.size lo dd σ a1  h1) k_X12_requireParcel tw_3_187 tw_0_8 tw_3_185 (by decide) (ge_0 rfl) rfl rfl rfl rfl rfl rfl dX12_sackOf_2) rfl rfl rfl (fun H locs M => ?_)
    refine lv_aload_n hx hb dX12_sackOf_5 rfl (lv_at hl 0 rfl) ?_
    refine gf_X12_0 (i := 0) S M (by decide) rfl tw_2_7 dX12_sackOf_6 ?_
    refine gf_X3_1 (i := 1) S M (by decide) rfl tw_1_138 dX12_sackOf_9 ?_
    refine lv_iload_n hx hb dX12_sackOf_12 rfl (lv_at hl 1 rfl) ?_
    obtain ⟨r4, h3, hf⟩ := bd_x hf
    refine g_callR (st1 := [.int r4]) (cells' := 1) (slots' := 6) M (g_invV (index := 151) S M C0 hl (c_X8_whereIs l G H.size lo dd σ a1  h3) k_X8_whereIs tw_3_26 tw_3_27 tw_5_224 (by decide) (ge_3 rfl) rfl rfl rfl rfl rfl rfl dX12_sackOf_13) rfl rfl rfl (fun H locs M => ?_)
    refine lv_istore_n (lv' := [(2, .int r4), (0, .ref (G.1 0)), (1, .int a1)]) hx hb dX12_sackOf_16 rfl hl (by decide) rfl (fun ls hl => ?_)
    refine lv_iload_n hx hb dX12_sackOf_17 rfl (lv_at hl 0 rfl) ?_
    refine lv_iconst (v := 3) hx hb dX12_sackOf_18 (by decide) ?_
    obtain ⟨r6, h5, hf⟩ := bd_x hf
    refine g_callR (st1 := [.int r6]) (cells' := 1) (slots' := 6) M (g_invS (index := 154) S M C0 hl (c_X12_isIndex l G H.size lo dd σ r4 3  h5) k_X12_isIndex tw_2_74 tw_3_144 rfl rfl rfl rfl dX12_sackOf_19) rfl rfl rfl (fun H locs M => ?_)
    refine lv_if_eq (tgt := 29) hx hb dX12_sackOf_22 (by decide) (fun c7 => ?_) (fun c7 => ?_)
    · have hf := it_p c7 hf
      refine lv_iconst (v := (-1)) hx hb dX12_sackOf_29 (by decide) ?_
      rcases bt_x hf with ⟨r9, h8, hf⟩ | ⟨n10, h8, hf⟩
      · refine g_callR (st1 := [.int r9]) (cells' := 2) (slots' := 12) M (g_invS (index := 109) S M C0 hl (c_X12_present l hfl G H.size lo dd σ (-1)  h8) k_X12_present tw_3_147 tw_3_146 rfl rfl rfl rfl dX12_sackOf_30) rfl rfl rfl (fun H locs M => ?_)
        cases hf
        exact g_iret S M hr hlk (by decide) (by decide) dX12_sackOf_33 rfl
      · cases hf
        refine g_runX (cells' := 2) (slots' := 12) M (g_invS (index := 109) S M C0 hl (c_X12_present l hfl G H.size lo dd σ (-1)  h8) k_X12_present tw_3_147 tw_3_146 rfl rfl rfl rfl dX12_sackOf_30) rfl rfl (fun ce q H locs M hq hv hcl => ?_)
        exact g_out M hnx hlk hq hv hcl (by decide) (by decide) rfl
    · have hf := it_n c7 hf
      refine lv_iload_n hx hb dX12_sackOf_25 rfl (lv_at hl 0 rfl) ?_
      refine lv_goto (tgt := 30) hx hb dX12_sackOf_26 (by decide) ?_
      rcases bt_x hf with ⟨r12, h11, hf⟩ | ⟨n13, h11, hf⟩
      · refine g_callR (st1 := [.int r12]) (cells' := 2) (slots' := 12) M (g_invS (index := 109) S M C0 hl (c_X12_present l hfl G H.size lo dd σ r4  h11) k_X12_present tw_3_147 tw_3_146 rfl rfl rfl rfl dX12_sackOf_30) rfl rfl rfl (fun H locs M => ?_)
        cases hf
        exact g_iret S M hr hlk (by decide) (by decide) dX12_sackOf_33 rfl
      · cases hf
        refine g_runX (cells' := 2) (slots' := 12) M (g_invS (index := 109) S M C0 hl (c_X12_present l hfl G H.size lo dd σ r4  h11) k_X12_present tw_3_147 tw_3_146 rfl rfl rfl rfl dX12_sackOf_30) rfl rfl (fun ce q H locs M hq hv hcl => ?_)
        exact g_out M hnx hlk hq hv hcl (by decide) (by decide) rfl
  · cases hf
    refine g_runX (cells' := 1) (slots' := 6) M (g_invV (index := 134) S M C0 hl (c_X12_requireParcel l hfl G H.size lo dd σ a1  h1) k_X12_requireParcel tw_3_187 tw_0_8 tw_3_185 (by decide) (ge_0 rfl) rfl rfl rfl rfl rfl rfl dX12_sackOf_2) rfl rfl (fun ce q H locs M hq hv hcl => ?_)
    exact g_out M hnx hlk hq hv hcl (by decide) (by decide) rfl
theorem k_X8_returnsOf : gMV yX8_returnsOf cX8_returnsOf 2 (some .int) 1 := ⟨tw_3_201, tw_1_4, by decide⟩
set_option maxHeartbeats 400000 in
set_option maxRecDepth 100000 in
theorem c_X8_returnsOf (l : Launch) (G : gT) (sz : Nat) (lo : Int64) (dd : UInt64) (σ : gM) (a1 : Int32) {o : Int32} (hf : f_X8_returnsOf σ a1 = some o) : gCT l yX8_returnsOf cX8_returnsOf 2 (some .int) { frames := 0, cells := 0, slots := 0, locals := 0 } 0 0 G sz [.ref (G.1 7), .int a1] lo dd σ (.inl (mkI o, σ, lo, dd)) := by
  refine gCT_of (by decide) (Nat.le_of_ble_eq_true rfl) (fun p e s m args below meth c ls S hr hlk hnx hsz C0 hl H locs M => ?_)
  subst hsz
  have hx := S.1
  have hb := S.2.1
  unfold f_X8_returnsOf at hf
  refine lv_aload_n hx hb dX8_returnsOf_0 rfl (lv_at hl 0 rfl) ?_
  refine gf_X8_4 (i := 7) S M (by decide) rfl tw_1_83 dX8_returnsOf_1 ?_
  refine lv_iload_n hx hb dX8_returnsOf_4 rfl (lv_at hl 1 rfl) ?_
  obtain ⟨h1, hf⟩ := gi_x hf
  refine gk_iald (i := 12) (k := a1.toNatClampNeg) S M (by decide) (gaa_12 rfl) h1 rfl dX8_returnsOf_5 ?_
  cases hf
  exact g_iret S M hr hlk (by decide) (by decide) dX8_returnsOf_6 rfl
theorem k_X12_returns : gMV yX12_returns cX12_returns 2 (some .int) 1 := ⟨tw_3_197, tw_1_1, by decide⟩
set_option maxHeartbeats 400000 in
set_option maxRecDepth 100000 in
theorem c_X12_returns (l : Launch) (hfl : l.stackTraces = false) (G : gT) (sz : Nat) (lo : Int64) (dd : UInt64) (σ : gM) (a1 : Int32) {o : (Int32) ⊕ (Nat)} (hf : f_X12_returns σ a1 = some o) : gCT l yX12_returns cX12_returns 2 (some .int) { frames := 9, cells := 1, slots := 6, locals := 145 } 1 6 G sz [.ref (G.1 0), .int a1] lo dd σ (got mkI o σ lo dd) := by
  refine gCT_of (by decide) (Nat.le_of_ble_eq_true rfl) (fun p e s m args below meth c ls S hr hlk hnx hsz C0 hl H locs M => ?_)
  subst hsz
  have hx := S.1
  have hb := S.2.1
  unfold f_X12_returns at hf
  refine lv_aload_n hx hb dX12_returns_0 rfl (lv_at hl 0 rfl) ?_
  refine lv_iload_n hx hb dX12_returns_1 rfl (lv_at hl 1 rfl) ?_
  rcases bt_x hf with ⟨u, h1, hf⟩ | ⟨n2, h1, hf⟩
  · refine g_callR (st1 := []) (cells' := 1) (slots' := 6) M (g_invV (index := 134) S M C0 hl (c_X12_requireParcel l hfl G H.size lo dd σ a1  h1) k_X12_requireParcel tw_3_187 tw_0_8 tw_3_185 (by decide) (ge_0 rfl) rfl rfl rfl rfl rfl rfl dX12_returns_2) rfl rfl rfl (fun H locs M => ?_)
    refine lv_aload_n hx hb dX12_returns_5 rfl (lv_at hl 0 rfl) ?_
    refine gf_X12_0 (i := 0) S M (by decide) rfl tw_2_7 dX12_returns_6 ?_
    refine gf_X3_1 (i := 1) S M (by decide) rfl tw_1_138 dX12_returns_9 ?_
    refine lv_iload_n hx hb dX12_returns_12 rfl (lv_at hl 1 rfl) ?_
    obtain ⟨r4, h3, hf⟩ := bd_x hf
    refine g_callR (st1 := [.int r4]) (cells' := 1) (slots' := 6) M (g_invV (index := 158) S M C0 hl (c_X8_returnsOf l G H.size lo dd σ a1  h3) k_X8_returnsOf tw_3_199 tw_3_200 tw_3_198 (by decide) (ge_3 rfl) rfl rfl rfl rfl rfl rfl dX12_returns_13) rfl rfl rfl (fun H locs M => ?_)
    cases hf
    exact g_iret S M hr hlk (by decide) (by decide) dX12_returns_16 rfl
  · cases hf
    refine g_runX (cells' := 1) (slots' := 6) M (g_invV (index := 134) S M C0 hl (c_X12_requireParcel l hfl G H.size lo dd σ a1  h1) k_X12_requireParcel tw_3_187 tw_0_8 tw_3_185 (by decide) (ge_0 rfl) rfl rfl rfl rfl rfl rfl dX12_returns_2) rfl rfl (fun ce q H locs M hq hv hcl => ?_)
    exact g_out M hnx hlk hq hv hcl (by decide) (by decide) rfl
theorem k_X8_countAt : gMV yX8_countAt cX8_countAt 4 (some .int) 1 := ⟨tw_3_209, tw_1_4, by decide⟩
set_option maxHeartbeats 400000 in
set_option maxRecDepth 100000 in
theorem w_X8_countAt_L4 {p : Program} {l : Launch} {e : Env} {s : State} {m : MethodId} {args : Array Value} {below : List Frame} {meth : Method} {c : Code} {Q : State → Prop} {G : gT} {lo : Int64} {dd : UInt64} (S : CallFix p m c cX8_countAt 4 s args gTs RX8) (C0 : gCST G (gAA G s.heap.size) s) (p1 : Int32) (σ : gM) : ∀ (n : Nat) (v2 : Int32) (v3 : Int32) (res : Int32), f_X8_countAt_L4 p1 σ n v2 v3 = some res → ∀ (H : Heap) (locs : List Loc) (ls : Array Slot), gMS G (gAA G s.heap.size) lo dd σ s H locs → lv_has ls 4 [(0, .ref (G.1 7)), (1, .int p1), (2, .int v2), (3, .int v3)] → (k31 : ∀ (u2 : Int32), res = u2 → ∀ (H : Heap) (locs : List Loc) (ls : Array Slot), gMS G (gAA G s.heap.size) lo dd σ s H locs → lv_has ls 4 [(2, .int u2)] → W p l e ({ frames := 0, cells := 0, slots := 0, locals := 0 } : Room) s m args below meth c H locs 0 0 Q (F0 m 31 ls [])) → W p l e ({ frames := 0, cells := 0, slots := 0, locals := 0 } : Room) s m args below meth c H locs 0 0 Q (F0 m 4 ls []) := by
  have hx := S.1
  have hb := S.2.1
  intro n
  induction n with
  | zero =>
    intro v2 v3 res hf
    cases hf
  | succ n ih =>
    intro v2 v3 res hf H locs ls M hl k31
    rw [f_X8_countAt_L4] at hf
    refine lv_iload_n hx hb dX8_countAt_4 rfl (lv_at hl 3 rfl) ?_
    refine lv_aload_n hx hb dX8_countAt_5 rfl (lv_at hl 0 rfl) ?_
    refine gf_X8_5 (i := 7) S M (by decide) rfl tw_1_84 dX8_countAt_6 ?_
    refine lv_icmp_ge (tgt := 31) hx hb dX8_countAt_9 (by decide) (fun c1 => ?_) (fun c1 => ?_)
    · have hf := it_p c1 hf
      cases hf
      exact k31 _ rfl _ _ _ M (lv_sub hl [2] rfl)
    · have hf := it_n c1 hf
      refine lv_aload_n hx hb dX8_countAt_12 rfl (lv_at hl 0 rfl) ?_
      refine gf_X8_3 (i := 7) S M (by decide) rfl tw_1_82 dX8_countAt_13 ?_
      refine lv_iload_n hx hb dX8_countAt_16 rfl (lv_at hl 3 rfl) ?_
      obtain ⟨h2, hf⟩ := gi_x hf
      refine gk_iald (i := 11) (k := v3.toNatClampNeg) S M (by decide) (gaa_12 rfl) h2 rfl dX8_countAt_17 ?_
      refine lv_iload_n hx hb dX8_countAt_18 rfl (lv_at hl 1 rfl) ?_
      refine lv_icmp_ne (tgt := 25) hx hb dX8_countAt_19 (by decide) (fun c3 => ?_) (fun c3 => ?_)
      · have hf := it_n c3 hf
        obtain ⟨x4, ex4, hf⟩ := nm_x hf
        refine lv_iinc (v := x4) (lv' := [(3, .int x4), (0, .ref (G.1 7)), (1, .int p1), (2, .int v2)]) hx hb dX8_countAt_25 hl (k := 3) rfl (by rw [ex4]; rfl) (by decide) rfl (fun ls hl => ?_)
        refine lv_goto (tgt := 4) hx hb dX8_countAt_28 (by decide) ?_
        exact ih _ _ _ hf _ _ _ M (lv_sub hl [1, 2, 3, 0] rfl) k31
      · have hf := it_p c3 hf
        obtain ⟨x5, ex5, hf⟩ := nm_x hf
        refine lv_iinc (v := x5) (lv' := [(2, .int x5), (0, .ref (G.1 7)), (1, .int p1), (3, .int v3)]) hx hb dX8_countAt_22 hl (k := 2) rfl (by rw [ex5]; rfl) (by decide) rfl (fun ls hl => ?_)
        obtain ⟨x6, ex6, hf⟩ := nm_x hf
        refine lv_iinc (v := x6) (lv' := [(3, .int x6), (2, .int x5), (0, .ref (G.1 7)), (1, .int p1)]) hx hb dX8_countAt_25 hl (k := 3) rfl (by rw [ex6]; rfl) (by decide) rfl (fun ls hl => ?_)
        refine lv_goto (tgt := 4) hx hb dX8_countAt_28 (by decide) ?_
        exact ih _ _ _ hf _ _ _ M (lv_sub hl [2, 3, 1, 0] rfl) k31
set_option maxHeartbeats 400000 in
set_option maxRecDepth 100000 in
theorem c_X8_countAt (l : Launch) (G : gT) (sz : Nat) (lo : Int64) (dd : UInt64) (σ : gM) (a1 : Int32) {o : Int32} (hf : f_X8_countAt σ a1 = some o) : gCT l yX8_countAt cX8_countAt 4 (some .int) { frames := 0, cells := 0, slots := 0, locals := 0 } 0 0 G sz [.ref (G.1 7), .int a1] lo dd σ (.inl (mkI o, σ, lo, dd)) := by
  refine gCT_of (by decide) (Nat.le_of_ble_eq_true rfl) (fun p e s m args below meth c ls S hr hlk hnx hsz C0 hl H locs M => ?_)
  subst hsz
  have hx := S.1
  have hb := S.2.1
  unfold f_X8_countAt at hf
  refine lv_iconst (v := 0) hx hb dX8_countAt_0 (by decide) ?_
  refine lv_istore_n (lv' := [(2, .int 0), (0, .ref (G.1 7)), (1, .int a1)]) hx hb dX8_countAt_1 rfl hl (by decide) rfl (fun ls hl => ?_)
  refine lv_iconst (v := 0) hx hb dX8_countAt_2 (by decide) ?_
  refine lv_istore_n (lv' := [(3, .int 0), (2, .int 0), (0, .ref (G.1 7)), (1, .int a1)]) hx hb dX8_countAt_3 rfl hl (by decide) rfl (fun ls hl => ?_)
  obtain ⟨y8, h7, hf⟩ := bd_x hf
  refine w_X8_countAt_L4 S C0 a1 σ gFU 0 0 _ h7 _ _ _ M (lv_sub hl [2, 3, 1, 0] rfl) (fun _ eq H locs ls M hl => ?_)
  cases eq
  refine lv_iload_n hx hb dX8_countAt_31 rfl (lv_at hl 0 rfl) ?_
  cases hf
  exact g_iret S M hr hlk (by decide) (by decide) dX8_countAt_32 rfl
theorem k_X12_waitingCount : gMV yX12_waitingCount cX12_waitingCount 1 (some .int) 0 := ⟨tw_3_205, tw_1_1, by decide⟩
set_option maxHeartbeats 400000 in
set_option maxRecDepth 100000 in
theorem c_X12_waitingCount (l : Launch) (G : gT) (sz : Nat) (lo : Int64) (dd : UInt64) (σ : gM) {o : Int32} (hf : f_X12_waitingCount σ = some o) : gCT l yX12_waitingCount cX12_waitingCount 1 (some .int) { frames := 1, cells := 0, slots := 0, locals := 23 } 0 0 G sz [.ref (G.1 0)] lo dd σ (.inl (mkI o, σ, lo, dd)) := by
  refine gCT_of (by decide) (Nat.le_of_ble_eq_true rfl) (fun p e s m args below meth c ls S hr hlk hnx hsz C0 hl H locs M => ?_)
  subst hsz
  have hx := S.1
  have hb := S.2.1
  unfold f_X12_waitingCount at hf
  refine lv_aload_n hx hb dX12_waitingCount_0 rfl (lv_at hl 0 rfl) ?_
  refine gf_X12_0 (i := 0) S M (by decide) rfl tw_2_7 dX12_waitingCount_1 ?_
  refine gf_X3_1 (i := 1) S M (by decide) rfl tw_1_138 dX12_waitingCount_4 ?_
  refine lv_iconst (v := (-1)) hx hb dX12_waitingCount_7 (by decide) ?_
  obtain ⟨r2, h1, hf⟩ := bd_x hf
  refine g_callR (st1 := [.int r2]) (cells' := 0) (slots' := 0) M (g_invV (index := 161) S M C0 hl (c_X8_countAt l G H.size lo dd σ (-1)  h1) k_X8_countAt tw_3_207 tw_3_208 tw_3_206 (by decide) (ge_3 rfl) rfl rfl rfl rfl rfl rfl dX12_waitingCount_8) rfl rfl rfl (fun H locs M => ?_)
  cases hf
  exact g_iret S M hr hlk (by decide) (by decide) dX12_waitingCount_11 rfl
theorem k_X12_deliveredCount : gMV yX12_deliveredCount cX12_deliveredCount 1 (some .int) 0 := ⟨tw_3_213, tw_1_1, by decide⟩
set_option maxHeartbeats 400000 in
set_option maxRecDepth 100000 in
theorem c_X12_deliveredCount (l : Launch) (G : gT) (sz : Nat) (lo : Int64) (dd : UInt64) (σ : gM) {o : Int32} (hf : f_X12_deliveredCount σ = some o) : gCT l yX12_deliveredCount cX12_deliveredCount 1 (some .int) { frames := 1, cells := 0, slots := 0, locals := 23 } 0 0 G sz [.ref (G.1 0)] lo dd σ (.inl (mkI o, σ, lo, dd)) := by
  refine gCT_of (by decide) (Nat.le_of_ble_eq_true rfl) (fun p e s m args below meth c ls S hr hlk hnx hsz C0 hl H locs M => ?_)
  subst hsz
  have hx := S.1
  have hb := S.2.1
  unfold f_X12_deliveredCount at hf
  refine lv_aload_n hx hb dX12_deliveredCount_0 rfl (lv_at hl 0 rfl) ?_
  refine gf_X12_0 (i := 0) S M (by decide) rfl tw_2_7 dX12_deliveredCount_1 ?_
  refine gf_X3_1 (i := 1) S M (by decide) rfl tw_1_138 dX12_deliveredCount_4 ?_
  refine lv_bipush (v := (-2)) hx hb dX12_deliveredCount_7 (by decide) ?_
  obtain ⟨r2, h1, hf⟩ := bd_x hf
  refine g_callR (st1 := [.int r2]) (cells' := 0) (slots' := 0) M (g_invV (index := 161) S M C0 hl (c_X8_countAt l G H.size lo dd σ (-2)  h1) k_X8_countAt tw_3_207 tw_3_208 tw_3_206 (by decide) (ge_3 rfl) rfl rfl rfl rfl rfl rfl dX12_deliveredCount_9) rfl rfl rfl (fun H locs M => ?_)
  cases hf
  exact g_iret S M hr hlk (by decide) (by decide) dX12_deliveredCount_12 rfl
theorem k_X6_size : gMV yX6_size cX6_size 1 (some .int) 0 := ⟨tw_3_221, tw_1_5, by decide⟩
set_option maxHeartbeats 400000 in
set_option maxRecDepth 100000 in
theorem c_X6_size (l : Launch) (G : gT) (sz : Nat) (lo : Int64) (dd : UInt64) (σ : gM) {o : Int32} (hf : f_X6_size σ = some o) : gCT l yX6_size cX6_size 1 (some .int) { frames := 0, cells := 0, slots := 0, locals := 0 } 0 0 G sz [.ref (G.1 13)] lo dd σ (.inl (mkI o, σ, lo, dd)) := by
  refine gCT_of (by decide) (Nat.le_of_ble_eq_true rfl) (fun p e s m args below meth c ls S hr hlk hnx hsz C0 hl H locs M => ?_)
  subst hsz
  have hx := S.1
  have hb := S.2.1
  unfold f_X6_size at hf
  refine lv_aload_n hx hb dX6_size_0 rfl (lv_at hl 0 rfl) ?_
  refine gf_X6_2 (i := 13) S M (by decide) rfl tw_1_106 dX6_size_1 ?_
  cases hf
  exact g_iret S M hr hlk (by decide) (by decide) dX6_size_4 rfl
theorem k_X12_gloveCount : gMV yX12_gloveCount cX12_gloveCount 1 (some .int) 0 := ⟨tw_3_217, tw_1_1, by decide⟩
set_option maxHeartbeats 400000 in
set_option maxRecDepth 100000 in
theorem c_X12_gloveCount (l : Launch) (G : gT) (sz : Nat) (lo : Int64) (dd : UInt64) (σ : gM) {o : Int32} (hf : f_X12_gloveCount σ = some o) : gCT l yX12_gloveCount cX12_gloveCount 1 (some .int) { frames := 1, cells := 0, slots := 0, locals := 20 } 0 0 G sz [.ref (G.1 0)] lo dd σ (.inl (mkI o, σ, lo, dd)) := by
  refine gCT_of (by decide) (Nat.le_of_ble_eq_true rfl) (fun p e s m args below meth c ls S hr hlk hnx hsz C0 hl H locs M => ?_)
  subst hsz
  have hx := S.1
  have hb := S.2.1
  unfold f_X12_gloveCount at hf
  refine lv_aload_n hx hb dX12_gloveCount_0 rfl (lv_at hl 0 rfl) ?_
  refine gf_X12_0 (i := 0) S M (by decide) rfl tw_2_7 dX12_gloveCount_1 ?_
  refine gf_X3_2 (i := 1) S M (by decide) rfl tw_1_141 dX12_gloveCount_4 ?_
  obtain ⟨r2, h1, hf⟩ := bd_x hf
  refine g_callR (st1 := [.int r2]) (cells' := 0) (slots' := 0) M (g_invV (index := 168) S M C0 hl (c_X6_size l G H.size lo dd σ   h1) k_X6_size tw_3_219 tw_3_220 tw_3_218 (by decide) (ge_4 rfl) rfl rfl rfl rfl rfl rfl dX12_gloveCount_7) rfl rfl rfl (fun H locs M => ?_)
  cases hf
  exact g_iret S M hr hlk (by decide) (by decide) dX12_gloveCount_10 rfl
theorem k_X6_gradeOf : gMV yX6_gradeOf cX6_gradeOf 2 (some .int) 1 := ⟨tw_3_229, tw_1_5, by decide⟩
set_option maxHeartbeats 400000 in
set_option maxRecDepth 100000 in
theorem c_X6_gradeOf (l : Launch) (G : gT) (sz : Nat) (lo : Int64) (dd : UInt64) (σ : gM) (a1 : Int32) {o : Int32} (hf : f_X6_gradeOf σ a1 = some o) : gCT l yX6_gradeOf cX6_gradeOf 2 (some .int) { frames := 0, cells := 0, slots := 0, locals := 0 } 0 0 G sz [.ref (G.1 13), .int a1] lo dd σ (.inl (mkI o, σ, lo, dd)) := by
  refine gCT_of (by decide) (Nat.le_of_ble_eq_true rfl) (fun p e s m args below meth c ls S hr hlk hnx hsz C0 hl H locs M => ?_)
  subst hsz
  have hx := S.1
  have hb := S.2.1
  unfold f_X6_gradeOf at hf
  refine lv_aload_n hx hb dX6_gradeOf_0 rfl (lv_at hl 0 rfl) ?_
  refine gf_X6_0 (i := 13) S M (by decide) rfl tw_1_104 dX6_gradeOf_1 ?_
  refine lv_iload_n hx hb dX6_gradeOf_4 rfl (lv_at hl 1 rfl) ?_
  obtain ⟨h1, hf⟩ := gi_x hf
  refine gk_iald (i := 14) (k := a1.toNatClampNeg) S M (by decide) (gaa_8 rfl) h1 rfl dX6_gradeOf_5 ?_
  cases hf
  exact g_iret S M hr hlk (by decide) (by decide) dX6_gradeOf_6 rfl
theorem k_X12_grade : gMV yX12_grade cX12_grade 2 (some .int) 1 := ⟨tw_3_225, tw_1_1, by decide⟩
set_option maxHeartbeats 400000 in
set_option maxRecDepth 100000 in
theorem c_X12_grade (l : Launch) (hfl : l.stackTraces = false) (G : gT) (sz : Nat) (lo : Int64) (dd : UInt64) (σ : gM) (a1 : Int32) {o : (Int32) ⊕ (Nat)} (hf : f_X12_grade σ a1 = some o) : gCT l yX12_grade cX12_grade 2 (some .int) { frames := 8, cells := 1, slots := 6, locals := 124 } 1 6 G sz [.ref (G.1 0), .int a1] lo dd σ (got mkI o σ lo dd) := by
  refine gCT_of (by decide) (Nat.le_of_ble_eq_true rfl) (fun p e s m args below meth c ls S hr hlk hnx hsz C0 hl H locs M => ?_)
  subst hsz
  have hx := S.1
  have hb := S.2.1
  unfold f_X12_grade at hf
  refine lv_iload_n hx hb dX12_grade_0 rfl (lv_at hl 1 rfl) ?_
  refine lv_aload_n hx hb dX12_grade_1 rfl (lv_at hl 0 rfl) ?_
  refine gf_X12_0 (i := 0) S M (by decide) rfl tw_2_7 dX12_grade_2 ?_
  refine gf_X3_2 (i := 1) S M (by decide) rfl tw_1_141 dX12_grade_5 ?_
  obtain ⟨r2, h1, hf⟩ := bd_x hf
  refine g_callR (st1 := [.int r2, .int a1]) (cells' := 0) (slots' := 0) M (g_invV (index := 168) S M C0 hl (c_X6_size l G H.size lo dd σ   h1) k_X6_size tw_3_219 tw_3_220 tw_3_218 (by decide) (ge_4 rfl) rfl rfl rfl rfl rfl rfl dX12_grade_8) rfl rfl rfl (fun H locs M => ?_)
  rcases bt_x hf with ⟨u, h3, hf⟩ | ⟨n4, h3, hf⟩
  · refine g_callR (st1 := []) (cells' := 1) (slots' := 6) M (g_invS (index := 121) S M C0 hl (c_X12_requireIndex l hfl G H.size lo dd σ a1 r2  h3) k_X12_requireIndex tw_3_142 tw_3_141 rfl rfl rfl rfl dX12_grade_11) rfl rfl rfl (fun H locs M => ?_)
    refine lv_aload_n hx hb dX12_grade_14 rfl (lv_at hl 0 rfl) ?_
    refine gf_X12_0 (i := 0) S M (by decide) rfl tw_2_7 dX12_grade_15 ?_
    refine gf_X3_2 (i := 1) S M (by decide) rfl tw_1_141 dX12_grade_18 ?_
    refine lv_iload_n hx hb dX12_grade_21 rfl (lv_at hl 1 rfl) ?_
    obtain ⟨r6, h5, hf⟩ := bd_x hf
    refine g_callR (st1 := [.int r6]) (cells' := 1) (slots' := 6) M (g_invV (index := 171) S M C0 hl (c_X6_gradeOf l G H.size lo dd σ a1  h5) k_X6_gradeOf tw_3_227 tw_3_228 tw_3_226 (by decide) (ge_4 rfl) rfl rfl rfl rfl rfl rfl dX12_grade_22) rfl rfl rfl (fun H locs M => ?_)
    cases hf
    exact g_iret S M hr hlk (by decide) (by decide) dX12_grade_25 rfl
  · cases hf
    refine g_runX (cells' := 1) (slots' := 6) M (g_invS (index := 121) S M C0 hl (c_X12_requireIndex l hfl G H.size lo dd σ a1 r2  h3) k_X12_requireIndex tw_3_142 tw_3_141 rfl rfl rfl rfl dX12_grade_11) rfl rfl (fun ce q H locs M hq hv hcl => ?_)
    exact g_out M hnx hlk hq hv hcl (by decide) (by decide) rfl
theorem k_X6_usesLeftOf : gMV yX6_usesLeftOf cX6_usesLeftOf 2 (some .int) 1 := ⟨tw_3_237, tw_1_5, by decide⟩
set_option maxHeartbeats 400000 in
set_option maxRecDepth 100000 in
theorem c_X6_usesLeftOf (l : Launch) (G : gT) (sz : Nat) (lo : Int64) (dd : UInt64) (σ : gM) (a1 : Int32) {o : Int32} (hf : f_X6_usesLeftOf σ a1 = some o) : gCT l yX6_usesLeftOf cX6_usesLeftOf 2 (some .int) { frames := 0, cells := 0, slots := 0, locals := 0 } 0 0 G sz [.ref (G.1 13), .int a1] lo dd σ (.inl (mkI o, σ, lo, dd)) := by
  refine gCT_of (by decide) (Nat.le_of_ble_eq_true rfl) (fun p e s m args below meth c ls S hr hlk hnx hsz C0 hl H locs M => ?_)
  subst hsz
  have hx := S.1
  have hb := S.2.1
  unfold f_X6_usesLeftOf at hf
  refine lv_aload_n hx hb dX6_usesLeftOf_0 rfl (lv_at hl 0 rfl) ?_
  refine gf_X6_1 (i := 13) S M (by decide) rfl tw_1_105 dX6_usesLeftOf_1 ?_
  refine lv_iload_n hx hb dX6_usesLeftOf_4 rfl (lv_at hl 1 rfl) ?_
  obtain ⟨h1, hf⟩ := gi_x hf
  refine gk_iald (i := 15) (k := a1.toNatClampNeg) S M (by decide) (gaa_8 rfl) h1 rfl dX6_usesLeftOf_5 ?_
  cases hf
  exact g_iret S M hr hlk (by decide) (by decide) dX6_usesLeftOf_6 rfl
theorem k_X12_usesLeft : gMV yX12_usesLeft cX12_usesLeft 2 (some .int) 1 := ⟨tw_3_233, tw_1_1, by decide⟩
set_option maxHeartbeats 400000 in
set_option maxRecDepth 100000 in
theorem c_X12_usesLeft (l : Launch) (hfl : l.stackTraces = false) (G : gT) (sz : Nat) (lo : Int64) (dd : UInt64) (σ : gM) (a1 : Int32) {o : (Int32) ⊕ (Nat)} (hf : f_X12_usesLeft σ a1 = some o) : gCT l yX12_usesLeft cX12_usesLeft 2 (some .int) { frames := 8, cells := 1, slots := 6, locals := 124 } 1 6 G sz [.ref (G.1 0), .int a1] lo dd σ (got mkI o σ lo dd) := by
  refine gCT_of (by decide) (Nat.le_of_ble_eq_true rfl) (fun p e s m args below meth c ls S hr hlk hnx hsz C0 hl H locs M => ?_)
  subst hsz
  have hx := S.1
  have hb := S.2.1
  unfold f_X12_usesLeft at hf
  refine lv_iload_n hx hb dX12_usesLeft_0 rfl (lv_at hl 1 rfl) ?_
  refine lv_aload_n hx hb dX12_usesLeft_1 rfl (lv_at hl 0 rfl) ?_
  refine gf_X12_0 (i := 0) S M (by decide) rfl tw_2_7 dX12_usesLeft_2 ?_
  refine gf_X3_2 (i := 1) S M (by decide) rfl tw_1_141 dX12_usesLeft_5 ?_
  obtain ⟨r2, h1, hf⟩ := bd_x hf
  refine g_callR (st1 := [.int r2, .int a1]) (cells' := 0) (slots' := 0) M (g_invV (index := 168) S M C0 hl (c_X6_size l G H.size lo dd σ   h1) k_X6_size tw_3_219 tw_3_220 tw_3_218 (by decide) (ge_4 rfl) rfl rfl rfl rfl rfl rfl dX12_usesLeft_8) rfl rfl rfl (fun H locs M => ?_)
  rcases bt_x hf with ⟨u, h3, hf⟩ | ⟨n4, h3, hf⟩
  · refine g_callR (st1 := []) (cells' := 1) (slots' := 6) M (g_invS (index := 121) S M C0 hl (c_X12_requireIndex l hfl G H.size lo dd σ a1 r2  h3) k_X12_requireIndex tw_3_142 tw_3_141 rfl rfl rfl rfl dX12_usesLeft_11) rfl rfl rfl (fun H locs M => ?_)
    refine lv_aload_n hx hb dX12_usesLeft_14 rfl (lv_at hl 0 rfl) ?_
    refine gf_X12_0 (i := 0) S M (by decide) rfl tw_2_7 dX12_usesLeft_15 ?_
    refine gf_X3_2 (i := 1) S M (by decide) rfl tw_1_141 dX12_usesLeft_18 ?_
    refine lv_iload_n hx hb dX12_usesLeft_21 rfl (lv_at hl 1 rfl) ?_
    obtain ⟨r6, h5, hf⟩ := bd_x hf
    refine g_callR (st1 := [.int r6]) (cells' := 1) (slots' := 6) M (g_invV (index := 174) S M C0 hl (c_X6_usesLeftOf l G H.size lo dd σ a1  h5) k_X6_usesLeftOf tw_3_235 tw_3_236 tw_3_234 (by decide) (ge_4 rfl) rfl rfl rfl rfl rfl rfl dX12_usesLeft_22) rfl rfl rfl (fun H locs M => ?_)
    cases hf
    exact g_iret S M hr hlk (by decide) (by decide) dX12_usesLeft_25 rfl
  · cases hf
    refine g_runX (cells' := 1) (slots' := 6) M (g_invS (index := 121) S M C0 hl (c_X12_requireIndex l hfl G H.size lo dd σ a1 r2  h3) k_X12_requireIndex tw_3_142 tw_3_141 rfl rfl rfl rfl dX12_usesLeft_11) rfl rfl (fun ce q H locs M hq hv hcl => ?_)
    exact g_out M hnx hlk hq hv hcl (by decide) (by decide) rfl
