theorem k_X13_writeSack : gMV yX13_writeSack cX13_writeSack 3 (some .int) 1 := ⟨tw_8_29, tw_1_12, by decide⟩
set_option maxHeartbeats 400000 in
set_option maxRecDepth 100000 in
theorem w_X13_writeSack_L57 {p : Program} {l : Launch} {e : Env} {s : State} {m : MethodId} {args : Array Value} {below : List Frame} {meth : Method} {c : Code} {Q : State → Prop} {G : gT} {lo : Int64} {dd : UInt64} (S : CallFix p m c cX13_writeSack 3 s args gTs RX13) (C0 : gCST G (gAA G s.heap.size) s) (p1 : Int32) : ∀ (n : Nat) (v2 : Int32) (σ : gM) (res : gM), f_X13_writeSack_L57 p1 n v2 σ = some res → ∀ (H : Heap) (locs : List Loc) (ls : Array Slot), gMS G (gAA G s.heap.size) lo dd σ s H locs → lv_has ls 3 [(0, .ref (G.1 219)), (1, .int p1), (2, .int v2)] → (k105 : ∀ (τ : gM), res = τ → ∀ (H : Heap) (locs : List Loc) (ls : Array Slot), gMS G (gAA G s.heap.size) lo dd τ s H locs → lv_has ls 3 [(0, .ref (G.1 219))] → W p l e ({ frames := 2, cells := 0, slots := 0, locals := 43 } : Room) s m args below meth c H locs 0 0 Q (F0 m 105 ls [])) → W p l e ({ frames := 2, cells := 0, slots := 0, locals := 43 } : Room) s m args below meth c H locs 0 0 Q (F0 m 57 ls []) := by
  have hx := S.1
  have hb := S.2.1
  intro n
  induction n with
  | zero =>
    intro v2 σ res hf
    cases hf
  | succ n ih =>
    intro v2 σ res hf H locs ls M hl k105
    rw [f_X13_writeSack_L57] at hf
    refine lv_iload_n hx hb dX13_writeSack_57 rfl (lv_at hl 2 rfl) ?_
    refine lv_aload_n hx hb dX13_writeSack_58 rfl (lv_at hl 0 rfl) ?_
    refine gf_X13_0 (i := 219) S M (by decide) rfl tw_6_107 dX13_writeSack_59 ?_
    refine lv_bipush (v := 36) hx hb dX13_writeSack_62 (by decide) ?_
    refine gk_iald (i := 220) (k := 36) S M (by decide) (gaa_134 rfl) (by unfold vp_in; decide) (by decide) dX13_writeSack_64 ?_
    refine lv_icmp_ge (tgt := 105) hx hb dX13_writeSack_65 (by decide) (fun c14 => ?_) (fun c14 => ?_)
    · have hf := it_p c14 hf
      cases hf
      exact k105 _ rfl _ _ _ M (lv_sub hl [0] rfl)
    · have hf := it_n c14 hf
      refine lv_aload_n hx hb dX13_writeSack_68 rfl (lv_at hl 0 rfl) ?_
      refine gf_X13_0 (i := 219) S M (by decide) rfl tw_6_107 dX13_writeSack_69 ?_
      refine lv_bipush (v := 76) hx hb dX13_writeSack_72 (by decide) ?_
      refine lv_iload_n hx hb dX13_writeSack_74 rfl (lv_at hl 2 rfl) ?_
      refine lv_iadd hx hb dX13_writeSack_75 ?_
      obtain ⟨h15, hf⟩ := gi_x hf
      refine gk_iald (i := 220) (k := (76 + v2).toNatClampNeg) S M (by decide) (gaa_134 rfl) h15 rfl dX13_writeSack_76 ?_
      refine lv_iconst (v := 1) hx hb dX13_writeSack_77 (by decide) ?_
      refine lv_icmp_ne (tgt := 99) hx hb dX13_writeSack_78 (by decide) (fun c16 => ?_) (fun c16 => ?_)
      · have hf := it_n c16 hf
        obtain ⟨x17, ex17, hf⟩ := nm_x hf
        refine lv_iinc (v := x17) (lv' := [(2, .int x17), (0, .ref (G.1 219)), (1, .int p1)]) hx hb dX13_writeSack_99 hl (k := 2) rfl (by rw [ex17]; rfl) (by decide) rfl (fun ls hl => ?_)
        refine lv_goto (tgt := 57) hx hb dX13_writeSack_102 (by decide) ?_
        exact ih _ _ _ hf _ _ _ M (lv_sub hl [1, 2, 0] rfl) k105
      · have hf := it_p c16 hf
        refine lv_aload_n hx hb dX13_writeSack_81 rfl (lv_at hl 0 rfl) ?_
        refine gf_X13_0 (i := 219) S M (by decide) rfl tw_6_107 dX13_writeSack_82 ?_
        refine lv_bipush (v := 88) hx hb dX13_writeSack_85 (by decide) ?_
        refine lv_iload_n hx hb dX13_writeSack_87 rfl (lv_at hl 2 rfl) ?_
        refine lv_iadd hx hb dX13_writeSack_88 ?_
        obtain ⟨h18, hf⟩ := gi_x hf
        refine gk_iald (i := 220) (k := (88 + v2).toNatClampNeg) S M (by decide) (gaa_134 rfl) h18 rfl dX13_writeSack_89 ?_
        refine lv_iload_n hx hb dX13_writeSack_90 rfl (lv_at hl 1 rfl) ?_
        refine lv_icmp_ne (tgt := 99) hx hb dX13_writeSack_91 (by decide) (fun c19 => ?_) (fun c19 => ?_)
        · have hf := it_n c19 hf
          obtain ⟨x20, ex20, hf⟩ := nm_x hf
          refine lv_iinc (v := x20) (lv' := [(2, .int x20), (0, .ref (G.1 219)), (1, .int p1)]) hx hb dX13_writeSack_99 hl (k := 2) rfl (by rw [ex20]; rfl) (by decide) rfl (fun ls hl => ?_)
          refine lv_goto (tgt := 57) hx hb dX13_writeSack_102 (by decide) ?_
          exact ih _ _ _ hf _ _ _ M (lv_sub hl [1, 2, 0] rfl) k105
        · have hf := it_p c19 hf
          refine lv_aload_n hx hb dX13_writeSack_94 rfl (lv_at hl 0 rfl) ?_
          refine lv_iload_n hx hb dX13_writeSack_95 rfl (lv_at hl 2 rfl) ?_
          obtain ⟨σ22, h21, hf⟩ := bd_x hf
          refine g_callR (st1 := []) (cells' := 0) (slots' := 0) M (g_invV (index := 203) S M C0 hl (c_X13_writesParcel l G H.size lo dd σ v2  h21) k_X13_writesParcel tw_8_36 tw_0_61 tw_8_34 (by decide) (ge_13 rfl) rfl rfl rfl rfl rfl rfl dX13_writeSack_96) rfl rfl rfl (fun H locs M => ?_)
          obtain ⟨x23, ex23, hf⟩ := nm_x hf
          refine lv_iinc (v := x23) (lv' := [(2, .int x23), (0, .ref (G.1 219)), (1, .int p1)]) hx hb dX13_writeSack_99 hl (k := 2) rfl (by rw [ex23]; rfl) (by decide) rfl (fun ls hl => ?_)
          refine lv_goto (tgt := 57) hx hb dX13_writeSack_102 (by decide) ?_
          exact ih _ _ _ hf _ _ _ M (lv_sub hl [1, 2, 0] rfl) k105
set_option maxHeartbeats 400000 in
set_option maxRecDepth 100000 in
theorem c_X13_writeSack (l : Launch) (G : gT) (sz : Nat) (lo : Int64) (dd : UInt64) (σ : gM) (a1 : Int32) {r : Int32} {o : gM} (hf : f_X13_writeSack σ a1 = some (r, o)) : gCT l yX13_writeSack cX13_writeSack 3 (some .int) { frames := 2, cells := 0, slots := 0, locals := 43 } 0 0 G sz [.ref (G.1 219), .int a1] lo dd σ (.inl (mkI r, o, lo, dd)) := by
  refine gCT_of (by decide) (Nat.le_of_ble_eq_true rfl) (fun p e s m args below meth c ls S hr hlk hnx hsz C0 hl H locs M => ?_)
  subst hsz
  have hx := S.1
  have hb := S.2.1
  unfold f_X13_writeSack at hf
  refine lv_iload_n hx hb dX13_writeSack_0 rfl (lv_at hl 1 rfl) ?_
  obtain ⟨r2, h1, hf⟩ := bd_x hf
  refine g_callR (st1 := [.int r2]) (cells' := 0) (slots' := 0) M (g_invS (index := 95) S M C0 hl (c_X13_isSack l G H.size lo dd σ a1  h1) k_X13_isSack tw_6_229 tw_6_228 rfl rfl rfl rfl dX13_writeSack_1) rfl rfl rfl (fun H locs M => ?_)
  refine lv_if_ne (tgt := 13) hx hb dX13_writeSack_4 (by decide) (fun c3 => ?_) (fun c3 => ?_)
  · have hf := it_n c3 hf
    refine lv_aload_n hx hb dX13_writeSack_13 rfl (lv_at hl 0 rfl) ?_
    refine lv_iconst (v := 0) hx hb dX13_writeSack_14 (by decide) ?_
    obtain ⟨σ4, eσ4, hf⟩ := nm_x hf
    refine gp_X13_11 (i := 219) S M (by decide) rfl tw_6_118 dX13_writeSack_15 (fun H locs M => ?_)
    rw [← eσ4] at M
    refine lv_aload_n hx hb dX13_writeSack_18 rfl (lv_at hl 0 rfl) ?_
    refine lv_bipush (v := 115) hx hb dX13_writeSack_19 (by decide) ?_
    obtain ⟨σ6, h5, hf⟩ := bd_x hf
    refine g_callR (st1 := []) (cells' := 0) (slots' := 0) M (g_invV (index := 200) S M C0 hl (c_X13_writes l G H.size lo dd σ4 115  h5) k_X13_writes tw_8_32 tw_0_60 tw_8_30 (by decide) (ge_13 rfl) rfl rfl rfl rfl rfl rfl dX13_writeSack_21) rfl rfl rfl (fun H locs M => ?_)
    refine lv_aload_n hx hb dX13_writeSack_24 rfl (lv_at hl 0 rfl) ?_
    refine lv_bipush (v := 48) hx hb dX13_writeSack_25 (by decide) ?_
    refine lv_iload_n hx hb dX13_writeSack_27 rfl (lv_at hl 1 rfl) ?_
    refine lv_iadd hx hb dX13_writeSack_28 ?_
    obtain ⟨σ8, h7, hf⟩ := bd_x hf
    refine g_callR (st1 := []) (cells' := 0) (slots' := 0) M (g_invV (index := 200) S M C0 hl (c_X13_writes l G H.size lo dd σ6 (48 + a1)  h7) k_X13_writes tw_8_32 tw_0_60 tw_8_30 (by decide) (ge_13 rfl) rfl rfl rfl rfl rfl rfl dX13_writeSack_29) rfl rfl rfl (fun H locs M => ?_)
    refine lv_aload_n hx hb dX13_writeSack_32 rfl (lv_at hl 0 rfl) ?_
    refine lv_bipush (v := 64) hx hb dX13_writeSack_33 (by decide) ?_
    obtain ⟨σ10, h9, hf⟩ := bd_x hf
    refine g_callR (st1 := []) (cells' := 0) (slots' := 0) M (g_invV (index := 200) S M C0 hl (c_X13_writes l G H.size lo dd σ8 64  h9) k_X13_writes tw_8_32 tw_0_60 tw_8_30 (by decide) (ge_13 rfl) rfl rfl rfl rfl rfl rfl dX13_writeSack_35) rfl rfl rfl (fun H locs M => ?_)
    refine lv_aload_n hx hb dX13_writeSack_38 rfl (lv_at hl 0 rfl) ?_
    refine lv_bipush (v := 48) hx hb dX13_writeSack_39 (by decide) ?_
    refine lv_aload_n hx hb dX13_writeSack_41 rfl (lv_at hl 0 rfl) ?_
    refine gf_X13_0 (i := 219) S M (by decide) rfl tw_6_107 dX13_writeSack_42 ?_
    refine lv_sipush (v := 128) hx hb dX13_writeSack_45 (by decide) ?_
    refine lv_iload_n hx hb dX13_writeSack_48 rfl (lv_at hl 1 rfl) ?_
    refine lv_iadd hx hb dX13_writeSack_49 ?_
    obtain ⟨h11, hf⟩ := gi_x hf
    refine gk_iald (i := 220) (k := (128 + a1).toNatClampNeg) S M (by decide) (gaa_134 rfl) h11 rfl dX13_writeSack_50 ?_
    refine lv_iadd hx hb dX13_writeSack_51 ?_
    obtain ⟨σ13, h12, hf⟩ := bd_x hf
    refine g_callR (st1 := []) (cells' := 0) (slots' := 0) M (g_invV (index := 200) S M C0 hl (c_X13_writes l G H.size lo dd σ10 (48 + (σ10 220 (128 + a1).toNatClampNeg))  h12) k_X13_writes tw_8_32 tw_0_60 tw_8_30 (by decide) (ge_13 rfl) rfl rfl rfl rfl rfl rfl dX13_writeSack_52) rfl rfl rfl (fun H locs M => ?_)
    refine lv_iconst (v := 0) hx hb dX13_writeSack_55 (by decide) ?_
    refine lv_istore_n (lv' := [(2, .int 0), (0, .ref (G.1 219)), (1, .int a1)]) hx hb dX13_writeSack_56 rfl hl (by decide) rfl (fun ls hl => ?_)
    obtain ⟨σ25, h24, hf⟩ := bd_x hf
    refine w_X13_writeSack_L57 S C0 a1 gFU 0 σ13 _ h24 _ _ _ M (lv_sub hl [1, 2, 0] rfl) (fun _ eq H locs ls M hl => ?_)
    cases eq
    refine lv_aload_n hx hb dX13_writeSack_105 rfl (lv_at hl 0 rfl) ?_
    refine lv_aload_n hx hb dX13_writeSack_106 rfl (lv_at hl 0 rfl) ?_
    refine gf_X13_11 (i := 219) S M (by decide) rfl tw_6_118 dX13_writeSack_107 ?_
    obtain ⟨r27, σ28, h26, hf⟩ := bd2_x hf
    refine g_callR (st1 := [.int r27]) (cells' := 0) (slots' := 0) M (g_invV (index := 72) S M C0 hl (c_X13_done l G H.size lo dd σ25 (σ25 219 11)  h26) k_X13_done tw_6_198 tw_0_29 tw_6_196 (by decide) (ge_13 rfl) rfl rfl rfl rfl rfl rfl dX13_writeSack_110) rfl rfl rfl (fun H locs M => ?_)
    cases hf
    exact g_iret S M hr hlk (by decide) (by decide) dX13_writeSack_113 rfl
  · have hf := it_p c3 hf
    refine lv_aload_n hx hb dX13_writeSack_7 rfl (lv_at hl 0 rfl) ?_
    refine lv_iconst (v := 1) hx hb dX13_writeSack_8 (by decide) ?_
    obtain ⟨r30, σ31, h29, hf⟩ := bd2_x hf
    refine g_callR (st1 := [.int r30]) (cells' := 0) (slots' := 0) M (g_invV (index := 64) S M C0 hl (c_X13_fails l G H.size lo dd σ 1  h29) k_X13_fails tw_6_186 tw_0_26 tw_6_184 (by decide) (ge_13 rfl) rfl rfl rfl rfl rfl rfl dX13_writeSack_9) rfl rfl rfl (fun H locs M => ?_)
    cases hf
    exact g_iret S M hr hlk (by decide) (by decide) dX13_writeSack_12 rfl
theorem k_X13_outputChar : gMV yX13_outputChar cX13_outputChar 2 (some .char) 1 := ⟨tw_8_41, tw_1_12, by decide⟩
set_option maxHeartbeats 400000 in
set_option maxRecDepth 100000 in
theorem c_X13_outputChar (l : Launch) (G : gT) (sz : Nat) (lo : Int64) (dd : UInt64) (σ : gM) (a1 : Int32) {r : Int32} {o : gM} (hf : f_X13_outputChar σ a1 = some (r, o)) : gCT l yX13_outputChar cX13_outputChar 2 (some .char) { frames := 1, cells := 0, slots := 0, locals := 22 } 0 0 G sz [.ref (G.1 219), .int a1] lo dd σ (.inl (mkI r, o, lo, dd)) := by
  refine gCT_of (by decide) (Nat.le_of_ble_eq_true rfl) (fun p e s m args below meth c ls S hr hlk hnx hsz C0 hl H locs M => ?_)
  subst hsz
  have hx := S.1
  have hb := S.2.1
  unfold f_X13_outputChar at hf
  refine lv_aload_n hx hb dX13_outputChar_0 rfl (lv_at hl 0 rfl) ?_
  refine lv_iload_n hx hb dX13_outputChar_1 rfl (lv_at hl 1 rfl) ?_
  refine lv_iconst (v := 0) hx hb dX13_outputChar_2 (by decide) ?_
  refine lv_aload_n hx hb dX13_outputChar_3 rfl (lv_at hl 0 rfl) ?_
  refine gf_X13_11 (i := 219) S M (by decide) rfl tw_6_118 dX13_outputChar_4 ?_
  refine lv_iconst (v := 1) hx hb dX13_outputChar_7 (by decide) ?_
  refine lv_isub hx hb dX13_outputChar_8 ?_
  obtain ⟨r2, h1, hf⟩ := bd_x hf
  refine g_callR (st1 := [.int r2, .ref (G.1 219)]) (cells' := 0) (slots' := 0) M (g_invS (index := 52) S M C0 hl (c_X13_in l G H.size lo dd σ a1 0 ((σ 219 11) - 1)  h1) k_X13_in tw_6_182 tw_6_181 rfl rfl rfl rfl dX13_outputChar_9) rfl rfl rfl (fun H locs M => ?_)
  refine lv_if_eq (tgt := 19) hx hb dX13_outputChar_12 (by decide) (fun c3 => ?_) (fun c3 => ?_)
  · have hf := it_p c3 hf
    refine lv_iconst (v := 1) hx hb dX13_outputChar_19 (by decide) ?_
    obtain ⟨σ4, eσ4, hf⟩ := nm_x hf
    refine gp_X13_12 (i := 219) S M (by decide) rfl tw_6_119 dX13_outputChar_20 (fun H locs M => ?_)
    rw [← eσ4] at M
    refine lv_aload_n hx hb dX13_outputChar_23 rfl (lv_at hl 0 rfl) ?_
    refine gf_X13_12 (i := 219) S M (by decide) rfl tw_6_119 dX13_outputChar_24 ?_
    refine lv_if_ne (tgt := 39) hx hb dX13_outputChar_27 (by decide) (fun c5 => ?_) (fun c5 => ?_)
    · have hf := it_n c5 hf
      refine lv_iconst (v := 0) hx hb dX13_outputChar_39 (by decide) ?_
      cases hf
      exact g_zret S M hr hlk (by decide) (by decide) (by decide) dX13_outputChar_40 rfl
    · have hf := it_p c5 hf
      refine lv_aload_n hx hb dX13_outputChar_30 rfl (lv_at hl 0 rfl) ?_
      refine gf_X13_10 (i := 219) S M (by decide) rfl tw_6_117 dX13_outputChar_31 ?_
      refine lv_iload_n hx hb dX13_outputChar_34 rfl (lv_at hl 1 rfl) ?_
      obtain ⟨h6, hf⟩ := gi_x hf
      refine gk_cald (i := 225) (k := a1.toNatClampNeg) S M (by decide) (gca_200 rfl) h6 rfl dX13_outputChar_35 ?_
      refine lv_goto (tgt := 40) hx hb dX13_outputChar_36 (by decide) ?_
      obtain ⟨z7, hf⟩ := gn_x hf
      cases hf
      exact g_zret S M hr hlk (g_narC z7) (by decide) (by decide) dX13_outputChar_40 rfl
  · have hf := it_n c3 hf
    refine lv_iconst (v := 0) hx hb dX13_outputChar_15 (by decide) ?_
    refine lv_goto (tgt := 20) hx hb dX13_outputChar_16 (by decide) ?_
    obtain ⟨σ8, eσ8, hf⟩ := nm_x hf
    refine gp_X13_12 (i := 219) S M (by decide) rfl tw_6_119 dX13_outputChar_20 (fun H locs M => ?_)
    rw [← eσ8] at M
    refine lv_aload_n hx hb dX13_outputChar_23 rfl (lv_at hl 0 rfl) ?_
    refine gf_X13_12 (i := 219) S M (by decide) rfl tw_6_119 dX13_outputChar_24 ?_
    refine lv_if_ne (tgt := 39) hx hb dX13_outputChar_27 (by decide) (fun c9 => ?_) (fun c9 => ?_)
    · have hf := it_n c9 hf
      refine lv_iconst (v := 0) hx hb dX13_outputChar_39 (by decide) ?_
      cases hf
      exact g_zret S M hr hlk (by decide) (by decide) (by decide) dX13_outputChar_40 rfl
    · have hf := it_p c9 hf
      refine lv_aload_n hx hb dX13_outputChar_30 rfl (lv_at hl 0 rfl) ?_
      refine gf_X13_10 (i := 219) S M (by decide) rfl tw_6_117 dX13_outputChar_31 ?_
      refine lv_iload_n hx hb dX13_outputChar_34 rfl (lv_at hl 1 rfl) ?_
      obtain ⟨h10, hf⟩ := gi_x hf
      refine gk_cald (i := 225) (k := a1.toNatClampNeg) S M (by decide) (gca_200 rfl) h10 rfl dX13_outputChar_35 ?_
      refine lv_goto (tgt := 40) hx hb dX13_outputChar_36 (by decide) ?_
      obtain ⟨z11, hf⟩ := gn_x hf
      cases hf
      exact g_zret S M hr hlk (g_narC z11) (by decide) (by decide) dX13_outputChar_40 rfl
theorem k_X13_undoCount : gMV yX13_undoCount cX13_undoCount 1 (some .int) 0 := ⟨tw_8_45, tw_1_12, by decide⟩
set_option maxHeartbeats 400000 in
set_option maxRecDepth 100000 in
theorem c_X13_undoCount (l : Launch) (G : gT) (sz : Nat) (lo : Int64) (dd : UInt64) (σ : gM) {r : Int32} {o : gM} (hf : f_X13_undoCount σ = some (r, o)) : gCT l yX13_undoCount cX13_undoCount 1 (some .int) { frames := 1, cells := 0, slots := 0, locals := 21 } 0 0 G sz [.ref (G.1 219)] lo dd σ (.inl (mkI r, o, lo, dd)) := by
  refine gCT_of (by decide) (Nat.le_of_ble_eq_true rfl) (fun p e s m args below meth c ls S hr hlk hnx hsz C0 hl H locs M => ?_)
  subst hsz
  have hx := S.1
  have hb := S.2.1
  unfold f_X13_undoCount at hf
  refine lv_aload_n hx hb dX13_undoCount_0 rfl (lv_at hl 0 rfl) ?_
  refine lv_aload_n hx hb dX13_undoCount_1 rfl (lv_at hl 0 rfl) ?_
  refine gf_X13_3 (i := 219) S M (by decide) rfl tw_6_110 dX13_undoCount_2 ?_
  obtain ⟨r2, σ3, h1, hf⟩ := bd2_x hf
  refine g_callR (st1 := [.int r2]) (cells' := 0) (slots' := 0) M (g_invV (index := 72) S M C0 hl (c_X13_done l G H.size lo dd σ (σ 219 3)  h1) k_X13_done tw_6_198 tw_0_29 tw_6_196 (by decide) (ge_13 rfl) rfl rfl rfl rfl rfl rfl dX13_undoCount_5) rfl rfl rfl (fun H locs M => ?_)
  cases hf
  exact g_iret S M hr hlk (by decide) (by decide) dX13_undoCount_8 rfl
theorem k_X13_undo : gMV yX13_undo cX13_undo 1 (some .int) 0 := ⟨tw_8_49, tw_1_12, by decide⟩
set_option maxHeartbeats 400000 in
set_option maxRecDepth 100000 in
theorem c_X13_undo (l : Launch) (G : gT) (sz : Nat) (lo : Int64) (dd : UInt64) (σ : gM) {r : Int32} {o : gM} (hf : f_X13_undo σ = some (r, o)) : gCT l yX13_undo cX13_undo 1 (some .int) { frames := 1, cells := 0, slots := 0, locals := 24 } 0 0 G sz [.ref (G.1 219)] lo dd σ (.inl (mkI r, o, lo, dd)) := by
  refine gCT_of (by decide) (Nat.le_of_ble_eq_true rfl) (fun p e s m args below meth c ls S hr hlk hnx hsz C0 hl H locs M => ?_)
  subst hsz
  have hx := S.1
  have hb := S.2.1
  unfold f_X13_undo at hf
  refine lv_aload_n hx hb dX13_undo_0 rfl (lv_at hl 0 rfl) ?_
  refine gf_X13_3 (i := 219) S M (by decide) rfl tw_6_110 dX13_undo_1 ?_
  refine lv_if_ne (tgt := 13) hx hb dX13_undo_4 (by decide) (fun c1 => ?_) (fun c1 => ?_)
  · have hf := it_n c1 hf
    refine lv_aload_n hx hb dX13_undo_13 rfl (lv_at hl 0 rfl) ?_
    refine lv_dup hx hb dX13_undo_14 rfl ?_
    refine gf_X13_3 (i := 219) S M (by decide) rfl tw_6_110 dX13_undo_15 ?_
    refine lv_iconst (v := 1) hx hb dX13_undo_18 (by decide) ?_
    refine lv_isub hx hb dX13_undo_19 ?_
    obtain ⟨σ2, eσ2, hf⟩ := nm_x hf
    refine gp_X13_3 (i := 219) S M (by decide) rfl tw_6_110 dX13_undo_20 (fun H locs M => ?_)
    rw [← eσ2] at M
    refine lv_aload_n hx hb dX13_undo_23 rfl (lv_at hl 0 rfl) ?_
    refine gf_X13_2 (i := 219) S M (by decide) rfl tw_6_109 dX13_undo_24 ?_
    refine lv_aload_n hx hb dX13_undo_27 rfl (lv_at hl 0 rfl) ?_
    refine gf_X13_3 (i := 219) S M (by decide) rfl tw_6_110 dX13_undo_28 ?_
    refine lv_sipush (v := 134) hx hb dX13_undo_31 (by decide) ?_
    refine lv_imul hx hb dX13_undo_34 ?_
    refine lv_aload_n hx hb dX13_undo_35 rfl (lv_at hl 0 rfl) ?_
    refine gf_X13_0 (i := 219) S M (by decide) rfl tw_6_107 dX13_undo_36 ?_
    refine lv_iconst (v := 0) hx hb dX13_undo_39 (by decide) ?_
    obtain ⟨σ4, h3, hf⟩ := bd_x hf
    refine g_callR (st1 := []) (cells' := 0) (slots' := 0) M (g_invS (index := 45) S M C0 hl (c_X13_copy l G H.size lo dd σ2 222 1072 ((σ2 219 3) * 134) 220 134 0 (by decide) rfl (by decide) (by decide) rfl (by decide) h3) k_X13_copy tw_6_172 tw_6_171 rfl rfl rfl rfl dX13_undo_40) rfl rfl rfl (fun H locs M => ?_)
    refine lv_aload_n hx hb dX13_undo_43 rfl (lv_at hl 0 rfl) ?_
    refine lv_aload_n hx hb dX13_undo_44 rfl (lv_at hl 0 rfl) ?_
    refine gf_X13_3 (i := 219) S M (by decide) rfl tw_6_110 dX13_undo_45 ?_
    obtain ⟨r6, σ7, h5, hf⟩ := bd2_x hf
    refine g_callR (st1 := [.int r6]) (cells' := 0) (slots' := 0) M (g_invV (index := 72) S M C0 hl (c_X13_done l G H.size lo dd σ4 (σ4 219 3)  h5) k_X13_done tw_6_198 tw_0_29 tw_6_196 (by decide) (ge_13 rfl) rfl rfl rfl rfl rfl rfl dX13_undo_48) rfl rfl rfl (fun H locs M => ?_)
    cases hf
    exact g_iret S M hr hlk (by decide) (by decide) dX13_undo_51 rfl
  · have hf := it_p c1 hf
    refine lv_aload_n hx hb dX13_undo_7 rfl (lv_at hl 0 rfl) ?_
    refine lv_iconst (v := 1) hx hb dX13_undo_8 (by decide) ?_
    obtain ⟨r9, σ10, h8, hf⟩ := bd2_x hf
    refine g_callR (st1 := [.int r9]) (cells' := 0) (slots' := 0) M (g_invV (index := 64) S M C0 hl (c_X13_fails l G H.size lo dd σ 1  h8) k_X13_fails tw_6_186 tw_0_26 tw_6_184 (by decide) (ge_13 rfl) rfl rfl rfl rfl rfl rfl dX13_undo_9) rfl rfl rfl (fun H locs M => ?_)
    cases hf
    exact g_iret S M hr hlk (by decide) (by decide) dX13_undo_12 rfl
theorem k_X13_save : gMV yX13_save cX13_save 1 (some .int) 0 := ⟨tw_8_53, tw_1_12, by decide⟩
set_option maxHeartbeats 400000 in
set_option maxRecDepth 100000 in
theorem c_X13_save (l : Launch) (G : gT) (sz : Nat) (lo : Int64) (dd : UInt64) (σ : gM) {r : Int32} {o : gM} (hf : f_X13_save σ = some (r, o)) : gCT l yX13_save cX13_save 1 (some .int) { frames := 1, cells := 0, slots := 0, locals := 24 } 0 0 G sz [.ref (G.1 219)] lo dd σ (.inl (mkI r, o, lo, dd)) := by
  refine gCT_of (by decide) (Nat.le_of_ble_eq_true rfl) (fun p e s m args below meth c ls S hr hlk hnx hsz C0 hl H locs M => ?_)
  subst hsz
  have hx := S.1
  have hb := S.2.1
  unfold f_X13_save at hf
  refine lv_aload_n hx hb dX13_save_0 rfl (lv_at hl 0 rfl) ?_
  refine gf_X13_0 (i := 219) S M (by decide) rfl tw_6_107 dX13_save_1 ?_
  refine lv_iconst (v := 0) hx hb dX13_save_4 (by decide) ?_
  refine lv_aload_n hx hb dX13_save_5 rfl (lv_at hl 0 rfl) ?_
  refine gf_X13_4 (i := 219) S M (by decide) rfl tw_6_111 dX13_save_6 ?_
  refine lv_iconst (v := 0) hx hb dX13_save_9 (by decide) ?_
  obtain ⟨σ2, h1, hf⟩ := bd_x hf
  refine g_callR (st1 := []) (cells' := 0) (slots' := 0) M (g_invS (index := 45) S M C0 hl (c_X13_copy l G H.size lo dd σ 220 134 0 223 134 0 (by decide) rfl (by decide) (by decide) rfl (by decide) h1) k_X13_copy tw_6_172 tw_6_171 rfl rfl rfl rfl dX13_save_10) rfl rfl rfl (fun H locs M => ?_)
  refine lv_aload_n hx hb dX13_save_13 rfl (lv_at hl 0 rfl) ?_
  refine lv_iconst (v := 1) hx hb dX13_save_14 (by decide) ?_
  obtain ⟨σ3, eσ3, hf⟩ := nm_x hf
  refine gp_X13_5 (i := 219) S M (by decide) rfl tw_6_112 (by decide) (by decide) dX13_save_15 (fun H locs M => ?_)
  rw [← eσ3] at M
  refine lv_aload_n hx hb dX13_save_18 rfl (lv_at hl 0 rfl) ?_
  refine lv_aload_n hx hb dX13_save_19 rfl (lv_at hl 0 rfl) ?_
  refine gf_X13_0 (i := 219) S M (by decide) rfl tw_6_107 dX13_save_20 ?_
  refine lv_bipush (v := 36) hx hb dX13_save_23 (by decide) ?_
  refine gk_iald (i := 220) (k := 36) S M (by decide) (gaa_134 rfl) (by unfold vp_in; decide) (by decide) dX13_save_25 ?_
  obtain ⟨r5, σ6, h4, hf⟩ := bd2_x hf
  refine g_callR (st1 := [.int r5]) (cells' := 0) (slots' := 0) M (g_invV (index := 72) S M C0 hl (c_X13_done l G H.size lo dd σ3 (σ3 220 36)  h4) k_X13_done tw_6_198 tw_0_29 tw_6_196 (by decide) (ge_13 rfl) rfl rfl rfl rfl rfl rfl dX13_save_26) rfl rfl rfl (fun H locs M => ?_)
  cases hf
  exact g_iret S M hr hlk (by decide) (by decide) dX13_save_29 rfl
theorem k_X13_restore : gMV yX13_restore cX13_restore 1 (some .int) 0 := ⟨tw_8_57, tw_1_12, by decide⟩
set_option maxHeartbeats 400000 in
set_option maxRecDepth 100000 in
theorem c_X13_restore (l : Launch) (G : gT) (sz : Nat) (lo : Int64) (dd : UInt64) (σ : gM) {r : Int32} {o : gM} (hf : f_X13_restore σ = some (r, o)) : gCT l yX13_restore cX13_restore 1 (some .int) { frames := 1, cells := 0, slots := 0, locals := 24 } 0 0 G sz [.ref (G.1 219)] lo dd σ (.inl (mkI r, o, lo, dd)) := by
  refine gCT_of (by decide) (Nat.le_of_ble_eq_true rfl) (fun p e s m args below meth c ls S hr hlk hnx hsz C0 hl H locs M => ?_)
  subst hsz
  have hx := S.1
  have hb := S.2.1
  unfold f_X13_restore at hf
  refine lv_aload_n hx hb dX13_restore_0 rfl (lv_at hl 0 rfl) ?_
  refine gf_X13_5 (i := 219) S M (by decide) rfl tw_6_112 dX13_restore_1 ?_
  refine lv_if_ne (tgt := 13) hx hb dX13_restore_4 (by decide) (fun c1 => ?_) (fun c1 => ?_)
  · have hf := it_n c1 hf
    refine lv_aload_n hx hb dX13_restore_13 rfl (lv_at hl 0 rfl) ?_
    refine gf_X13_4 (i := 219) S M (by decide) rfl tw_6_111 dX13_restore_14 ?_
    refine lv_iconst (v := 0) hx hb dX13_restore_17 (by decide) ?_
    refine lv_aload_n hx hb dX13_restore_18 rfl (lv_at hl 0 rfl) ?_
    refine gf_X13_0 (i := 219) S M (by decide) rfl tw_6_107 dX13_restore_19 ?_
    refine lv_iconst (v := 0) hx hb dX13_restore_22 (by decide) ?_
    obtain ⟨σ3, h2, hf⟩ := bd_x hf
    refine g_callR (st1 := []) (cells' := 0) (slots' := 0) M (g_invS (index := 45) S M C0 hl (c_X13_copy l G H.size lo dd σ 223 134 0 220 134 0 (by decide) rfl (by decide) (by decide) rfl (by decide) h2) k_X13_copy tw_6_172 tw_6_171 rfl rfl rfl rfl dX13_restore_23) rfl rfl rfl (fun H locs M => ?_)
    refine lv_aload_n hx hb dX13_restore_26 rfl (lv_at hl 0 rfl) ?_
    refine lv_iconst (v := 0) hx hb dX13_restore_27 (by decide) ?_
    obtain ⟨σ4, eσ4, hf⟩ := nm_x hf
    refine gp_X13_3 (i := 219) S M (by decide) rfl tw_6_110 dX13_restore_28 (fun H locs M => ?_)
    rw [← eσ4] at M
    refine lv_aload_n hx hb dX13_restore_31 rfl (lv_at hl 0 rfl) ?_
    refine lv_aload_n hx hb dX13_restore_32 rfl (lv_at hl 0 rfl) ?_
    refine gf_X13_0 (i := 219) S M (by decide) rfl tw_6_107 dX13_restore_33 ?_
    refine lv_bipush (v := 36) hx hb dX13_restore_36 (by decide) ?_
    refine gk_iald (i := 220) (k := 36) S M (by decide) (gaa_134 rfl) (by unfold vp_in; decide) (by decide) dX13_restore_38 ?_
    obtain ⟨r6, σ7, h5, hf⟩ := bd2_x hf
    refine g_callR (st1 := [.int r6]) (cells' := 0) (slots' := 0) M (g_invV (index := 72) S M C0 hl (c_X13_done l G H.size lo dd σ4 (σ4 220 36)  h5) k_X13_done tw_6_198 tw_0_29 tw_6_196 (by decide) (ge_13 rfl) rfl rfl rfl rfl rfl rfl dX13_restore_39) rfl rfl rfl (fun H locs M => ?_)
    cases hf
    exact g_iret S M hr hlk (by decide) (by decide) dX13_restore_42 rfl
  · have hf := it_p c1 hf
    refine lv_aload_n hx hb dX13_restore_7 rfl (lv_at hl 0 rfl) ?_
    refine lv_iconst (v := 1) hx hb dX13_restore_8 (by decide) ?_
    obtain ⟨r9, σ10, h8, hf⟩ := bd2_x hf
    refine g_callR (st1 := [.int r9]) (cells' := 0) (slots' := 0) M (g_invV (index := 64) S M C0 hl (c_X13_fails l G H.size lo dd σ 1  h8) k_X13_fails tw_6_186 tw_0_26 tw_6_184 (by decide) (ge_13 rfl) rfl rfl rfl rfl rfl rfl dX13_restore_9) rfl rfl rfl (fun H locs M => ?_)
    cases hf
    exact g_iret S M hr hlk (by decide) (by decide) dX13_restore_12 rfl
