theorem k_X12_isConsistent : gMV yX12_isConsistent cX12_isConsistent 1 (some .boolean) 0 := ⟨tw_4_157, tw_1_1, by decide⟩
set_option maxHeartbeats 400000 in
set_option maxRecDepth 100000 in
theorem c_X12_isConsistent (l : Launch) (G : gT) (sz : Nat) (lo : Int64) (dd : UInt64) (σ : gM) {r : Int32} {o : gM} (hf : f_X12_isConsistent σ = some (r, o)) : gCT l yX12_isConsistent cX12_isConsistent 1 (some .boolean) { frames := 4, cells := 0, slots := 0, locals := 100 } 0 0 G sz [.ref (G.1 0)] lo dd σ (.inl (mkI r, o, lo, dd)) := by
  refine gCT_of (by decide) (Nat.le_of_ble_eq_true rfl) (fun p e s m args below meth c ls S hr hlk hnx hsz C0 hl H locs M => ?_)
  subst hsz
  have hx := S.1
  have hb := S.2.1
  unfold f_X12_isConsistent at hf
  refine lv_aload_n hx hb dX12_isConsistent_0 rfl (lv_at hl 0 rfl) ?_
  refine gf_X12_0 (i := 0) S M (by decide) rfl tw_2_7 dX12_isConsistent_1 ?_
  refine gf_X3_0 (i := 1) S M (by decide) rfl tw_1_134 dX12_isConsistent_4 ?_
  obtain ⟨r2, σ3, h1, hf⟩ := bd2_x hf
  refine g_callR (st1 := [.int r2]) (cells' := 0) (slots' := 0) M (g_invV (index := 238) S M C0 hl (c_X9_bothDistancesAgree l G H.size lo dd σ   h1) k_X9_bothDistancesAgree tw_4_159 tw_4_160 tw_4_158 (by decide) (ge_2 rfl) rfl rfl rfl rfl rfl rfl dX12_isConsistent_7) rfl rfl rfl (fun H locs M => ?_)
  refine lv_if_eq (tgt := 31) hx hb dX12_isConsistent_10 (by decide) (fun c4 => ?_) (fun c4 => ?_)
  · have hf := it_p c4 hf
    refine lv_iconst (v := 0) hx hb dX12_isConsistent_31 (by decide) ?_
    cases hf
    exact g_zret S M hr hlk (by decide) (by decide) (by decide) dX12_isConsistent_32 rfl
  · have hf := it_n c4 hf
    refine lv_aload_n hx hb dX12_isConsistent_13 rfl (lv_at hl 0 rfl) ?_
    obtain ⟨r6, σ7, h5, hf⟩ := bd2_x hf
    refine g_callR (st1 := [.int r6]) (cells' := 0) (slots' := 0) M (g_invV (index := 242) S M C0 hl (c_X12_handlingAgrees l G H.size lo dd σ3   h5) k_X12_handlingAgrees tw_4_166 tw_0_13 tw_4_164 (by decide) (ge_0 rfl) rfl rfl rfl rfl rfl rfl dX12_isConsistent_14) rfl rfl rfl (fun H locs M => ?_)
    refine lv_if_eq (tgt := 31) hx hb dX12_isConsistent_17 (by decide) (fun c8 => ?_) (fun c8 => ?_)
    · have hf := it_p c8 hf
      refine lv_iconst (v := 0) hx hb dX12_isConsistent_31 (by decide) ?_
      cases hf
      exact g_zret S M hr hlk (by decide) (by decide) (by decide) dX12_isConsistent_32 rfl
    · have hf := it_n c8 hf
      refine lv_aload_n hx hb dX12_isConsistent_20 rfl (lv_at hl 0 rfl) ?_
      obtain ⟨r10, σ11, h9, hf⟩ := bd2_x hf
      refine g_callR (st1 := [.int r10]) (cells' := 0) (slots' := 0) M (g_invV (index := 245) S M C0 hl (c_X12_sacksAgree l G H.size lo dd σ7   h9) k_X12_sacksAgree tw_4_170 tw_0_14 tw_4_168 (by decide) (ge_0 rfl) rfl rfl rfl rfl rfl rfl dX12_isConsistent_21) rfl rfl rfl (fun H locs M => ?_)
      refine lv_if_eq (tgt := 31) hx hb dX12_isConsistent_24 (by decide) (fun c12 => ?_) (fun c12 => ?_)
      · have hf := it_p c12 hf
        refine lv_iconst (v := 0) hx hb dX12_isConsistent_31 (by decide) ?_
        cases hf
        exact g_zret S M hr hlk (by decide) (by decide) (by decide) dX12_isConsistent_32 rfl
      · have hf := it_n c12 hf
        refine lv_iconst (v := 1) hx hb dX12_isConsistent_27 (by decide) ?_
        refine lv_goto (tgt := 32) hx hb dX12_isConsistent_28 (by decide) ?_
        cases hf
        exact g_zret S M hr hlk (by decide) (by decide) (by decide) dX12_isConsistent_32 rfl
theorem k_X2_isFull : gMV yX2_isFull cX2_isFull 1 (some .boolean) 0 := ⟨tw_5_143, tw_1_9, by decide⟩
set_option maxHeartbeats 400000 in
set_option maxRecDepth 100000 in
theorem c_X2_isFull (l : Launch) (G : gT) (sz : Nat) (lo : Int64) (dd : UInt64) (σ : gM) {o : Int32} (hf : f_X2_isFull σ = some o) : gCT l yX2_isFull cX2_isFull 1 (some .boolean) { frames := 0, cells := 0, slots := 0, locals := 0 } 0 0 G sz [.ref (G.1 204)] lo dd σ (.inl (mkI o, σ, lo, dd)) := by
  refine gCT_of (by decide) (Nat.le_of_ble_eq_true rfl) (fun p e s m args below meth c ls S hr hlk hnx hsz C0 hl H locs M => ?_)
  subst hsz
  have hx := S.1
  have hb := S.2.1
  unfold f_X2_isFull at hf
  refine lv_aload_n hx hb dX2_isFull_0 rfl (lv_at hl 0 rfl) ?_
  refine gf_X2_2 (i := 204) S M (by decide) rfl tw_1_220 dX2_isFull_1 ?_
  refine lv_bipush (v := 60) hx hb dX2_isFull_4 (by decide) ?_
  refine lv_icmp_lt (tgt := 13) hx hb dX2_isFull_6 (by decide) (fun c1 => ?_) (fun c1 => ?_)
  · have hf := it_p c1 hf
    refine lv_iconst (v := 0) hx hb dX2_isFull_13 (by decide) ?_
    cases hf
    exact g_zret S M hr hlk (by decide) (by decide) (by decide) dX2_isFull_14 rfl
  · have hf := it_n c1 hf
    refine lv_iconst (v := 1) hx hb dX2_isFull_9 (by decide) ?_
    refine lv_goto (tgt := 14) hx hb dX2_isFull_10 (by decide) ?_
    cases hf
    exact g_zret S M hr hlk (by decide) (by decide) (by decide) dX2_isFull_14 rfl
theorem k_X2_add : gMV yX2_add cX2_add 2 (some .int) 1 := ⟨tw_5_147, tw_1_9, by decide⟩
set_option maxHeartbeats 400000 in
set_option maxRecDepth 100000 in
theorem c_X2_add (l : Launch) (G : gT) (sz : Nat) (lo : Int64) (dd : UInt64) (σ : gM) (a1 : Int32) {r : Int32} {o : gM} (hf : f_X2_add σ a1 = some (r, o)) : gCT l yX2_add cX2_add 2 (some .int) { frames := 0, cells := 0, slots := 0, locals := 0 } 0 0 G sz [.ref (G.1 204), .int a1] lo dd σ (.inl (mkI r, o, lo, dd)) := by
  refine gCT_of (by decide) (Nat.le_of_ble_eq_true rfl) (fun p e s m args below meth c ls S hr hlk hnx hsz C0 hl H locs M => ?_)
  subst hsz
  have hx := S.1
  have hb := S.2.1
  unfold f_X2_add at hf
  refine lv_aload_n hx hb dX2_add_0 rfl (lv_at hl 0 rfl) ?_
  refine gf_X2_0 (i := 204) S M (by decide) rfl tw_1_218 dX2_add_1 ?_
  refine lv_aload_n hx hb dX2_add_4 rfl (lv_at hl 0 rfl) ?_
  refine gf_X2_2 (i := 204) S M (by decide) rfl tw_1_220 dX2_add_5 ?_
  refine lv_iload_n hx hb dX2_add_8 rfl (lv_at hl 1 rfl) ?_
  obtain ⟨h1, hf⟩ := gi_x hf
  obtain ⟨σ2, eσ2, hf⟩ := nm_x hf
  refine gk_cast (i := 205) (k := (σ 204 2).toNatClampNeg) S M (by decide) (fun _ => (gca_60 rfl)) h1 rfl dX2_add_9 (fun H locs M => ?_)
  rw [← eσ2] at M
  refine lv_aload_n hx hb dX2_add_10 rfl (lv_at hl 0 rfl) ?_
  refine lv_dup hx hb dX2_add_11 rfl ?_
  refine gf_X2_2 (i := 204) S M (by decide) rfl tw_1_220 dX2_add_12 ?_
  refine lv_iconst (v := 1) hx hb dX2_add_15 (by decide) ?_
  refine lv_iadd hx hb dX2_add_16 ?_
  obtain ⟨σ3, eσ3, hf⟩ := nm_x hf
  refine gp_X2_2 (i := 204) S M (by decide) rfl tw_1_220 dX2_add_17 (fun H locs M => ?_)
  rw [← eσ3] at M
  refine lv_aload_n hx hb dX2_add_20 rfl (lv_at hl 0 rfl) ?_
  refine gf_X2_2 (i := 204) S M (by decide) rfl tw_1_220 dX2_add_21 ?_
  cases hf
  exact g_iret S M hr hlk (by decide) (by decide) dX2_add_24 rfl
theorem k_X12_feed : gMV yX12_feed cX12_feed 2 (some .int) 1 := ⟨tw_5_139, tw_1_1, by decide⟩
set_option maxHeartbeats 400000 in
set_option maxRecDepth 100000 in
theorem c_X12_feed (l : Launch) (hfl : l.stackTraces = false) (G : gT) (sz : Nat) (lo : Int64) (dd : UInt64) (σ : gM) (a1 : Int32) {o : (Int32 × gM) ⊕ (Nat × gM)} (hf : f_X12_feed σ a1 = some o) : gCT l yX12_feed cX12_feed 2 (some .int) { frames := 8, cells := 1, slots := 6, locals := 123 } 1 6 G sz [.ref (G.1 0), .int a1] lo dd σ (got2 mkI o lo dd) := by
  refine gCT_of (by decide) (Nat.le_of_ble_eq_true rfl) (fun p e s m args below meth c ls S hr hlk hnx hsz C0 hl H locs M => ?_)
  subst hsz
  have hx := S.1
  have hb := S.2.1
  unfold f_X12_feed at hf
  refine lv_aload_n hx hb dX12_feed_0 rfl (lv_at hl 0 rfl) ?_
  refine gf_X12_4 (i := 0) S M (by decide) rfl tw_2_11 dX12_feed_1 ?_
  obtain ⟨r2, h1, hf⟩ := bd_x hf
  refine g_callR (st1 := [.int r2]) (cells' := 0) (slots' := 0) M (g_invV (index := 248) S M C0 hl (c_X2_isFull l G H.size lo dd σ   h1) k_X2_isFull tw_5_141 tw_5_142 tw_5_140 (by decide) (ge_9 rfl) rfl rfl rfl rfl rfl rfl dX12_feed_4) rfl rfl rfl (fun H locs M => ?_)
  refine lv_if_eq (tgt := 15) hx hb dX12_feed_7 (by decide) (fun c3 => ?_) (fun c3 => ?_)
  · have hf := it_p c3 hf
    refine lv_aload_n hx hb dX12_feed_15 rfl (lv_at hl 0 rfl) ?_
    refine gf_X12_4 (i := 0) S M (by decide) rfl tw_2_11 dX12_feed_16 ?_
    refine lv_iload_n hx hb dX12_feed_19 rfl (lv_at hl 1 rfl) ?_
    obtain ⟨r5, σ6, h4, hf⟩ := bd2_x hf
    refine g_callR (st1 := [.int r5]) (cells' := 0) (slots' := 0) M (g_invV (index := 251) S M C0 hl (c_X2_add l G H.size lo dd σ a1  h4) k_X2_add tw_5_145 tw_5_146 tw_5_144 (by decide) (ge_9 rfl) rfl rfl rfl rfl rfl rfl dX12_feed_20) rfl rfl rfl (fun H locs M => ?_)
    rcases bt_x hf with ⟨r8, h7, hf⟩ | ⟨n9, h7, hf⟩
    · refine g_callR (st1 := [.int r8]) (cells' := 1) (slots' := 6) M (g_invS (index := 177) S M C0 hl (c_X12_accepted l hfl G H.size lo dd σ6 r5  h7) k_X12_accepted tw_2_92 tw_2_91 rfl rfl rfl rfl dX12_feed_23) rfl rfl rfl (fun H locs M => ?_)
      cases hf
      exact g_iret S M hr hlk (by decide) (by decide) dX12_feed_26 rfl
    · cases hf
      refine g_runX (cells' := 1) (slots' := 6) M (g_invS (index := 177) S M C0 hl (c_X12_accepted l hfl G H.size lo dd σ6 r5  h7) k_X12_accepted tw_2_92 tw_2_91 rfl rfl rfl rfl dX12_feed_23) rfl rfl (fun ce q H locs M hq hv hcl => ?_)
      exact g_out M hnx hlk hq hv hcl (by decide) (by decide) rfl
  · have hf := it_n c3 hf
    refine lv_bipush (v := (-4)) hx hb dX12_feed_10 (by decide) ?_
    refine lv_goto (tgt := 23) hx hb dX12_feed_12 (by decide) ?_
    rcases bt_x hf with ⟨r11, h10, hf⟩ | ⟨n12, h10, hf⟩
    · refine g_callR (st1 := [.int r11]) (cells' := 1) (slots' := 6) M (g_invS (index := 177) S M C0 hl (c_X12_accepted l hfl G H.size lo dd σ (-4)  h10) k_X12_accepted tw_2_92 tw_2_91 rfl rfl rfl rfl dX12_feed_23) rfl rfl rfl (fun H locs M => ?_)
      cases hf
      exact g_iret S M hr hlk (by decide) (by decide) dX12_feed_26 rfl
    · cases hf
      refine g_runX (cells' := 1) (slots' := 6) M (g_invS (index := 177) S M C0 hl (c_X12_accepted l hfl G H.size lo dd σ (-4)  h10) k_X12_accepted tw_2_92 tw_2_91 rfl rfl rfl rfl dX12_feed_23) rfl rfl (fun ce q H locs M hq hv hcl => ?_)
      exact g_out M hnx hlk hq hv hcl (by decide) (by decide) rfl
theorem k_X2_isDigit : gMV yX2_isDigit cX2_isDigit 2 (some .boolean) 1 := ⟨tw_5_2, tw_1_9, by decide⟩
set_option maxHeartbeats 400000 in
set_option maxRecDepth 100000 in
theorem c_X2_isDigit (l : Launch) (G : gT) (sz : Nat) (lo : Int64) (dd : UInt64) (σ : gM) (a1 : Int32) {o : Int32} (hf : f_X2_isDigit σ a1 = some o) : gCT l yX2_isDigit cX2_isDigit 2 (some .boolean) { frames := 0, cells := 0, slots := 0, locals := 0 } 0 0 G sz [.ref (G.1 204), .int a1] lo dd σ (.inl (mkI o, σ, lo, dd)) := by
  refine gCT_of (by decide) (Nat.le_of_ble_eq_true rfl) (fun p e s m args below meth c ls S hr hlk hnx hsz C0 hl H locs M => ?_)
  subst hsz
  have hx := S.1
  have hb := S.2.1
  unfold f_X2_isDigit at hf
  refine lv_iload_n hx hb dX2_isDigit_0 rfl (lv_at hl 1 rfl) ?_
  refine lv_aload_n hx hb dX2_isDigit_1 rfl (lv_at hl 0 rfl) ?_
  refine gf_X2_2 (i := 204) S M (by decide) rfl tw_1_220 dX2_isDigit_2 ?_
  refine lv_icmp_ge (tgt := 34) hx hb dX2_isDigit_5 (by decide) (fun c1 => ?_) (fun c1 => ?_)
  · have hf := it_p c1 hf
    refine lv_iconst (v := 0) hx hb dX2_isDigit_34 (by decide) ?_
    cases hf
    exact g_zret S M hr hlk (by decide) (by decide) (by decide) dX2_isDigit_35 rfl
  · have hf := it_n c1 hf
    refine lv_aload_n hx hb dX2_isDigit_8 rfl (lv_at hl 0 rfl) ?_
    refine gf_X2_0 (i := 204) S M (by decide) rfl tw_1_218 dX2_isDigit_9 ?_
    refine lv_iload_n hx hb dX2_isDigit_12 rfl (lv_at hl 1 rfl) ?_
    obtain ⟨h2, hf⟩ := gi_x hf
    refine gk_cald (i := 205) (k := a1.toNatClampNeg) S M (by decide) (gca_60 rfl) h2 rfl dX2_isDigit_13 ?_
    refine lv_bipush (v := 48) hx hb dX2_isDigit_14 (by decide) ?_
    refine lv_icmp_lt (tgt := 34) hx hb dX2_isDigit_16 (by decide) (fun c3 => ?_) (fun c3 => ?_)
    · have hf := it_p c3 hf
      refine lv_iconst (v := 0) hx hb dX2_isDigit_34 (by decide) ?_
      cases hf
      exact g_zret S M hr hlk (by decide) (by decide) (by decide) dX2_isDigit_35 rfl
    · have hf := it_n c3 hf
      refine lv_aload_n hx hb dX2_isDigit_19 rfl (lv_at hl 0 rfl) ?_
      refine gf_X2_0 (i := 204) S M (by decide) rfl tw_1_218 dX2_isDigit_20 ?_
      refine lv_iload_n hx hb dX2_isDigit_23 rfl (lv_at hl 1 rfl) ?_
      obtain ⟨h4, hf⟩ := gi_x hf
      refine gk_cald (i := 205) (k := a1.toNatClampNeg) S M (by decide) (gca_60 rfl) h4 rfl dX2_isDigit_24 ?_
      refine lv_bipush (v := 57) hx hb dX2_isDigit_25 (by decide) ?_
      refine lv_icmp_gt (tgt := 34) hx hb dX2_isDigit_27 (by decide) (fun c5 => ?_) (fun c5 => ?_)
      · have hf := it_p c5 hf
        refine lv_iconst (v := 0) hx hb dX2_isDigit_34 (by decide) ?_
        cases hf
        exact g_zret S M hr hlk (by decide) (by decide) (by decide) dX2_isDigit_35 rfl
      · have hf := it_n c5 hf
        refine lv_iconst (v := 1) hx hb dX2_isDigit_30 (by decide) ?_
        refine lv_goto (tgt := 35) hx hb dX2_isDigit_31 (by decide) ?_
        cases hf
        exact g_zret S M hr hlk (by decide) (by decide) (by decide) dX2_isDigit_35 rfl
theorem k_X2_readNumber : gMV yX2_readNumber cX2_readNumber 3 (some .int) 1 := ⟨tw_5_6, tw_1_9, by decide⟩
set_option maxHeartbeats 400000 in
set_option maxRecDepth 100000 in
theorem c_X2_readNumber (l : Launch) (G : gT) (sz : Nat) (lo : Int64) (dd : UInt64) (σ : gM) (a1 : Int32) {r : Int32} {o : gM} (hf : f_X2_readNumber σ a1 = some (r, o)) : gCT l yX2_readNumber cX2_readNumber 3 (some .int) { frames := 1, cells := 0, slots := 0, locals := 21 } 0 0 G sz [.ref (G.1 204), .int a1] lo dd σ (.inl (mkI r, o, lo, dd)) := by
  refine gCT_of (by decide) (Nat.le_of_ble_eq_true rfl) (fun p e s m args below meth c ls S hr hlk hnx hsz C0 hl H locs M => ?_)
  subst hsz
  have hx := S.1
  have hb := S.2.1
  unfold f_X2_readNumber at hf
  refine lv_aload_n hx hb dX2_readNumber_0 rfl (lv_at hl 0 rfl) ?_
  refine gf_X2_0 (i := 204) S M (by decide) rfl tw_1_218 dX2_readNumber_1 ?_
  refine lv_aload_n hx hb dX2_readNumber_4 rfl (lv_at hl 0 rfl) ?_
  refine gf_X2_4 (i := 204) S M (by decide) rfl tw_1_222 dX2_readNumber_5 ?_
  obtain ⟨h1, hf⟩ := gi_x hf
  refine gk_cald (i := 205) (k := (σ 204 4).toNatClampNeg) S M (by decide) (gca_60 rfl) h1 rfl dX2_readNumber_8 ?_
  refine lv_bipush (v := 48) hx hb dX2_readNumber_9 (by decide) ?_
  refine lv_isub hx hb dX2_readNumber_11 ?_
  obtain ⟨x2, ex2, hf⟩ := nm_x hf
  refine g_topi ex2 ?_
  refine lv_istore_n (lv' := [(2, .int x2), (0, .ref (G.1 204)), (1, .int a1)]) hx hb dX2_readNumber_12 rfl hl (by decide) rfl (fun ls hl => ?_)
  refine lv_aload_n hx hb dX2_readNumber_13 rfl (lv_at hl 1 rfl) ?_
  refine lv_dup hx hb dX2_readNumber_14 rfl ?_
  refine gf_X2_4 (i := 204) S M (by decide) rfl tw_1_222 dX2_readNumber_15 ?_
  refine lv_iconst (v := 1) hx hb dX2_readNumber_18 (by decide) ?_
  refine lv_iadd hx hb dX2_readNumber_19 ?_
  obtain ⟨σ3, eσ3, hf⟩ := nm_x hf
  refine gp_X2_4 (i := 204) S M (by decide) rfl tw_1_222 dX2_readNumber_20 (fun H locs M => ?_)
  rw [← eσ3] at M
  refine lv_iload_n hx hb dX2_readNumber_23 rfl (lv_at hl 2 rfl) ?_
  refine lv_if_eq (tgt := 66) hx hb dX2_readNumber_24 (by decide) (fun c4 => ?_) (fun c4 => ?_)
  · have hf := it_p c4 hf
    refine lv_iload_n hx hb dX2_readNumber_66 rfl (lv_at hl 0 rfl) ?_
    cases hf
    exact g_iret S M hr hlk (by decide) (by decide) dX2_readNumber_67 rfl
  · have hf := it_n c4 hf
    refine lv_aload_n hx hb dX2_readNumber_27 rfl (lv_at hl 1 rfl) ?_
    refine lv_aload_n hx hb dX2_readNumber_28 rfl (lv_at hl 1 rfl) ?_
    refine gf_X2_4 (i := 204) S M (by decide) rfl tw_1_222 dX2_readNumber_29 ?_
    obtain ⟨r6, h5, hf⟩ := bd_x hf
    refine g_callR (st1 := [.int r6]) (cells' := 0) (slots' := 0) M (g_invV (index := 73) S M C0 hl (c_X2_isDigit l G H.size lo dd σ3 (σ3 204 4)  h5) k_X2_isDigit tw_5_1 tw_0_17 tw_4_239 (by decide) (ge_9 rfl) rfl rfl rfl rfl rfl rfl dX2_readNumber_32) rfl rfl rfl (fun H locs M => ?_)
    refine lv_if_eq (tgt := 66) hx hb dX2_readNumber_35 (by decide) (fun c7 => ?_) (fun c7 => ?_)
    · have hf := it_p c7 hf
      refine lv_iload_n hx hb dX2_readNumber_66 rfl (lv_at hl 0 rfl) ?_
      cases hf
      exact g_iret S M hr hlk (by decide) (by decide) dX2_readNumber_67 rfl
    · have hf := it_n c7 hf
      refine lv_iload_n hx hb dX2_readNumber_38 rfl (lv_at hl 0 rfl) ?_
      refine lv_bipush (v := 10) hx hb dX2_readNumber_39 (by decide) ?_
      refine lv_imul hx hb dX2_readNumber_41 ?_
      refine lv_aload_n hx hb dX2_readNumber_42 rfl (lv_at hl 1 rfl) ?_
      refine gf_X2_0 (i := 204) S M (by decide) rfl tw_1_218 dX2_readNumber_43 ?_
      refine lv_aload_n hx hb dX2_readNumber_46 rfl (lv_at hl 1 rfl) ?_
      refine gf_X2_4 (i := 204) S M (by decide) rfl tw_1_222 dX2_readNumber_47 ?_
      obtain ⟨h8, hf⟩ := gi_x hf
      refine gk_cald (i := 205) (k := (σ3 204 4).toNatClampNeg) S M (by decide) (gca_60 rfl) h8 rfl dX2_readNumber_50 ?_
      refine lv_iadd hx hb dX2_readNumber_51 ?_
      refine lv_bipush (v := 48) hx hb dX2_readNumber_52 (by decide) ?_
      refine lv_isub hx hb dX2_readNumber_54 ?_
      obtain ⟨x9, ex9, hf⟩ := nm_x hf
      refine g_topi ex9 ?_
      refine lv_istore_n (lv' := [(2, .int x9), (0, .ref (G.1 204)), (1, .int a1)]) hx hb dX2_readNumber_55 rfl hl (by decide) rfl (fun ls hl => ?_)
      refine lv_aload_n hx hb dX2_readNumber_56 rfl (lv_at hl 1 rfl) ?_
      refine lv_dup hx hb dX2_readNumber_57 rfl ?_
      refine gf_X2_4 (i := 204) S M (by decide) rfl tw_1_222 dX2_readNumber_58 ?_
      refine lv_iconst (v := 1) hx hb dX2_readNumber_61 (by decide) ?_
      refine lv_iadd hx hb dX2_readNumber_62 ?_
      obtain ⟨σ10, eσ10, hf⟩ := nm_x hf
      refine gp_X2_4 (i := 204) S M (by decide) rfl tw_1_222 dX2_readNumber_63 (fun H locs M => ?_)
      rw [← eσ10] at M
      refine lv_iload_n hx hb dX2_readNumber_66 rfl (lv_at hl 0 rfl) ?_
      cases hf
      exact g_iret S M hr hlk (by decide) (by decide) dX2_readNumber_67 rfl
theorem k_X1_setNumber : gMV yX1_setNumber cX1_setNumber 3 none 2 := ⟨tw_5_10, tw_1_10, by decide⟩
set_option maxHeartbeats 400000 in
set_option maxRecDepth 100000 in
theorem c_X1_setNumber (l : Launch) (G : gT) (sz : Nat) (lo : Int64) (dd : UInt64) (σ : gM) (kc : Nat) (a1 : Int32) (a2 : Int32) (hkc : kc < 10) {o : gM} (hf : f_X1_setNumber σ kc a1 a2 = some o) : gCT l yX1_setNumber cX1_setNumber 3 none { frames := 0, cells := 0, slots := 0, locals := 0 } 0 0 G sz [.ref (G.1 (207 + kc)), .int a1, .int a2] lo dd σ (.inl (none, o, lo, dd)) := by
  refine gCT_of (by decide) (Nat.le_of_ble_eq_true rfl) (fun p e s m args below meth c ls S hr hlk hnx hsz C0 hl H locs M => ?_)
  subst hsz
  have hx := S.1
  have hb := S.2.1
  unfold f_X1_setNumber at hf
  refine lv_iload_n hx hb dX1_setNumber_0 rfl (lv_at hl 1 rfl) ?_
  refine lv_if_ne (tgt := 12) hx hb dX1_setNumber_1 (by decide) (fun c1 => ?_) (fun c1 => ?_)
  · have hf := it_n c1 hf
    refine lv_iload_n hx hb dX1_setNumber_12 rfl (lv_at hl 1 rfl) ?_
    refine lv_iconst (v := 1) hx hb dX1_setNumber_13 (by decide) ?_
    refine lv_icmp_ne (tgt := 25) hx hb dX1_setNumber_14 (by decide) (fun c2 => ?_) (fun c2 => ?_)
    · have hf := it_n c2 hf
      refine lv_aload_n hx hb dX1_setNumber_25 rfl (lv_at hl 0 rfl) ?_
      refine lv_iload_n hx hb dX1_setNumber_26 rfl (lv_at hl 2 rfl) ?_
      obtain ⟨σ3, eσ3, hf⟩ := nm_x hf
      refine gp_X1_3 (i := 207 + kc) S M (by omega) (gkd_cm hkc) tw_1_206 dX1_setNumber_27 (fun H locs M => ?_)
      rw [← eσ3] at M
      cases hf
      exact g_vret S M hr hlk (by decide) (by decide) dX1_setNumber_30 rfl
    · have hf := it_p c2 hf
      refine lv_aload_n hx hb dX1_setNumber_17 rfl (lv_at hl 0 rfl) ?_
      refine lv_iload_n hx hb dX1_setNumber_18 rfl (lv_at hl 2 rfl) ?_
      obtain ⟨σ4, eσ4, hf⟩ := nm_x hf
      refine gp_X1_2 (i := 207 + kc) S M (by omega) (gkd_cm hkc) tw_1_204 dX1_setNumber_19 (fun H locs M => ?_)
      rw [← eσ4] at M
      refine lv_goto (tgt := 30) hx hb dX1_setNumber_22 (by decide) ?_
      cases hf
      exact g_vret S M hr hlk (by decide) (by decide) dX1_setNumber_30 rfl
  · have hf := it_p c1 hf
    refine lv_aload_n hx hb dX1_setNumber_4 rfl (lv_at hl 0 rfl) ?_
    refine lv_iload_n hx hb dX1_setNumber_5 rfl (lv_at hl 2 rfl) ?_
    obtain ⟨σ5, eσ5, hf⟩ := nm_x hf
    refine gp_X1_1 (i := 207 + kc) S M (by omega) (gkd_cm hkc) tw_1_202 dX1_setNumber_6 (fun H locs M => ?_)
    rw [← eσ5] at M
    refine lv_goto (tgt := 30) hx hb dX1_setNumber_9 (by decide) ?_
    cases hf
    exact g_vret S M hr hlk (by decide) (by decide) dX1_setNumber_30 rfl
theorem k_X2_fits : gMV yX2_fits cX2_fits 7 (some .boolean) 3 := ⟨tw_4_190, tw_1_9, by decide⟩
set_option maxHeartbeats 400000 in
set_option maxRecDepth 100000 in
theorem w_X2_fits_L26 {p : Program} {l : Launch} {e : Env} {s : State} {m : MethodId} {args : Array Value} {below : List Frame} {meth : Method} {c : Code} {Q : State → Prop} {G : gT} {lo : Int64} {dd : UInt64} (S : CallFix p m c cX2_fits 7 s args gTs RX2) (C0 : gCST G (gAA G s.heap.size) s) (kf : Nat) (kc : Nat) (hkc : kc < 10) (hkf : kf < 7) : ∀ (n : Nat) (v4 : Int32) (v5 : Int32) (σ : gM) (res : (gM) ⊕ ((gM) ⊕ (gM))), f_X2_fits_L26 kf kc n v4 v5 σ = some res → ∀ (H : Heap) (locs : List Loc) (ls : Array Slot), gMS G (gAA G s.heap.size) lo dd σ s H locs → lv_has ls 7 [(0, .ref (G.1 204)), (1, .ref (gtF G kf)), (2, .ref (G.1 (207 + kc))), (4, .int v4), (5, .int v5)] → (k74 : ∀ (τ : gM), res = .inl τ → ∀ (H : Heap) (locs : List Loc) (ls : Array Slot), gMS G (gAA G s.heap.size) lo dd τ s H locs → lv_has ls 7 [] → W p l e ({ frames := 6, cells := 0, slots := 0, locals := 200 } : Room) s m args below meth c H locs 0 0 Q (F0 m 74 ls [])) → (k129 : ∀ (τ : gM), res = .inr (.inl τ) → ∀ (H : Heap) (locs : List Loc) (ls : Array Slot), gMS G (gAA G s.heap.size) lo dd τ s H locs → lv_has ls 7 [] → W p l e ({ frames := 6, cells := 0, slots := 0, locals := 200 } : Room) s m args below meth c H locs 0 0 Q (F0 m 129 ls [])) → (k147 : ∀ (τ : gM), res = .inr (.inr (τ)) → ∀ (H : Heap) (locs : List Loc) (ls : Array Slot), gMS G (gAA G s.heap.size) lo dd τ s H locs → lv_has ls 7 [] → W p l e ({ frames := 6, cells := 0, slots := 0, locals := 200 } : Room) s m args below meth c H locs 0 0 Q (F0 m 147 ls [])) → W p l e ({ frames := 6, cells := 0, slots := 0, locals := 200 } : Room) s m args below meth c H locs 0 0 Q (F0 m 26 ls []) := by
  have hx := S.1
  have hb := S.2.1
  intro n
  induction n with
  | zero =>
    intro v4 v5 σ res hf
    cases hf
  | succ n ih =>
    intro v4 v5 σ res hf H locs ls M hl k74 k129 k147
    rw [f_X2_fits_L26] at hf
    refine lv_iload hx hb dX2_fits_26 (lv_at hl 4 rfl) ?_
    refine lv_aload_n hx hb dX2_fits_28 rfl (lv_at hl 1 rfl) ?_
    refine g_pattern S M C0 hkf tw_7_31 dX2_fits_29 ?_
    refine g_slen S M C0 hl hkf rfl rfl dX2_fits_32 ?_
    intro H locs M
    refine lv_icmp_ge (tgt := 147) hx hb dX2_fits_35 (by decide) (fun c3 => ?_) (fun c3 => ?_)
    · have hf := it_p c3 hf
      cases hf
      exact k147 _ rfl _ _ _ M (lv_sub hl [] rfl)
    · have hf := it_n c3 hf
      refine lv_aload_n hx hb dX2_fits_38 rfl (lv_at hl 1 rfl) ?_
      refine g_pattern S M C0 hkf tw_7_31 dX2_fits_39 ?_
      refine lv_iload hx hb dX2_fits_42 (lv_at hl 4 rfl) ?_
      obtain ⟨h4, hf⟩ := gi_x hf
      refine g_schar S M C0 hl hkf h4 rfl rfl dX2_fits_44 ?_
      intro H locs M
      obtain ⟨x5, ex5, hf⟩ := nm_x hf
      refine g_topi ex5 ?_
      refine lv_istore (lv' := [(6, .int x5), (0, .ref (G.1 204)), (1, .ref (gtF G kf)), (2, .ref (G.1 (207 + kc))), (4, .int v4), (5, .int v5)]) hx hb dX2_fits_47 hl (by decide) rfl (fun ls hl => ?_)
      refine lv_iload hx hb dX2_fits_49 (lv_at hl 0 rfl) ?_
      refine lv_bipush (v := 35) hx hb dX2_fits_51 (by decide) ?_
      refine lv_icmp_eq (tgt := 63) hx hb dX2_fits_53 (by decide) (fun c6 => ?_) (fun c6 => ?_)
      · have hf := it_p c6 hf
        refine lv_aload_n hx hb dX2_fits_63 rfl (lv_at hl 1 rfl) ?_
        refine lv_aload_n hx hb dX2_fits_64 rfl (lv_at hl 1 rfl) ?_
        refine gf_X2_4 (i := 204) S M (by decide) rfl tw_1_222 dX2_fits_65 ?_
        obtain ⟨r8, h7, hf⟩ := bd_x hf
        refine g_callR (st1 := [.int r8]) (cells' := 0) (slots' := 0) M (g_invV (index := 73) S M C0 hl (c_X2_isDigit l G H.size lo dd σ (σ 204 4)  h7) k_X2_isDigit tw_5_1 tw_0_17 tw_4_239 (by decide) (ge_9 rfl) rfl rfl rfl rfl rfl rfl dX2_fits_68) rfl rfl rfl (fun H locs M => ?_)
        refine lv_if_ne (tgt := 76) hx hb dX2_fits_71 (by decide) (fun c9 => ?_) (fun c9 => ?_)
        · have hf := it_n c9 hf
          refine lv_aload_n hx hb dX2_fits_76 rfl (lv_at hl 3 rfl) ?_
          refine lv_iload hx hb dX2_fits_77 (lv_at hl 4 rfl) ?_
          refine lv_aload_n hx hb dX2_fits_79 rfl (lv_at hl 1 rfl) ?_
          refine lv_iload hx hb dX2_fits_80 (lv_at hl 0 rfl) ?_
          refine lv_bipush (v := 37) hx hb dX2_fits_82 (by decide) ?_
          refine lv_icmp_ne (tgt := 91) hx hb dX2_fits_84 (by decide) (fun c10 => ?_) (fun c10 => ?_)
          · have hf := it_n c10 hf
            refine lv_iconst (v := 0) hx hb dX2_fits_91 (by decide) ?_
            obtain ⟨r12, σ13, h11, hf⟩ := bd2_x hf
            refine g_callR (st1 := [.int r12, .int v4, .ref (G.1 (207 + kc))]) (cells' := 0) (slots' := 0) M (g_invV (index := 77) S M C0 hl (c_X2_readNumber l G H.size lo dd σ 0  h11) k_X2_readNumber tw_5_5 tw_0_18 tw_5_3 (by decide) (ge_9 rfl) rfl rfl rfl rfl rfl rfl dX2_fits_92) rfl rfl rfl (fun H locs M => ?_)
            obtain ⟨σ15, h14, hf⟩ := bd_x hf
            refine g_callR (st1 := []) (cells' := 0) (slots' := 0) M (g_invV (index := 81) S M C0 hl (c_X1_setNumber l G H.size lo dd σ13 kc v4 r12 hkc h14) k_X1_setNumber tw_5_8 tw_5_9 tw_5_7 (by omega) (ge_11 (gkd_cm hkc)) rfl rfl rfl rfl rfl rfl dX2_fits_95) rfl rfl rfl (fun H locs M => ?_)
            obtain ⟨x16, ex16, hf⟩ := nm_x hf
            refine lv_iinc (v := x16) (lv' := [(4, .int x16), (6, .int x5), (0, .ref (G.1 204)), (1, .ref (gtF G kf)), (2, .ref (G.1 (207 + kc))), (5, .int v5)]) hx hb dX2_fits_98 hl (k := 4) rfl (by rw [ex16]; rfl) (by decide) rfl (fun ls hl => ?_)
            refine lv_goto (tgt := 141) hx hb dX2_fits_101 (by decide) ?_
            obtain ⟨x17, ex17, hf⟩ := nm_x hf
            refine lv_iinc (v := x17) (lv' := [(5, .int x17), (4, .int x16), (6, .int x5), (0, .ref (G.1 204)), (1, .ref (gtF G kf)), (2, .ref (G.1 (207 + kc)))]) hx hb dX2_fits_141 hl (k := 5) rfl (by rw [ex17]; rfl) (by decide) rfl (fun ls hl => ?_)
            refine lv_goto (tgt := 26) hx hb dX2_fits_144 (by decide) ?_
            exact ih _ _ _ _ hf _ _ _ M (lv_sub hl [3, 4, 5, 1, 0] rfl) k74 k129 k147
          · have hf := it_p c10 hf
            refine lv_iconst (v := 1) hx hb dX2_fits_87 (by decide) ?_
            refine lv_goto (tgt := 92) hx hb dX2_fits_88 (by decide) ?_
            obtain ⟨r19, σ20, h18, hf⟩ := bd2_x hf
            refine g_callR (st1 := [.int r19, .int v4, .ref (G.1 (207 + kc))]) (cells' := 0) (slots' := 0) M (g_invV (index := 77) S M C0 hl (c_X2_readNumber l G H.size lo dd σ 1  h18) k_X2_readNumber tw_5_5 tw_0_18 tw_5_3 (by decide) (ge_9 rfl) rfl rfl rfl rfl rfl rfl dX2_fits_92) rfl rfl rfl (fun H locs M => ?_)
            obtain ⟨σ22, h21, hf⟩ := bd_x hf
            refine g_callR (st1 := []) (cells' := 0) (slots' := 0) M (g_invV (index := 81) S M C0 hl (c_X1_setNumber l G H.size lo dd σ20 kc v4 r19 hkc h21) k_X1_setNumber tw_5_8 tw_5_9 tw_5_7 (by omega) (ge_11 (gkd_cm hkc)) rfl rfl rfl rfl rfl rfl dX2_fits_95) rfl rfl rfl (fun H locs M => ?_)
            obtain ⟨x23, ex23, hf⟩ := nm_x hf
            refine lv_iinc (v := x23) (lv' := [(4, .int x23), (6, .int x5), (0, .ref (G.1 204)), (1, .ref (gtF G kf)), (2, .ref (G.1 (207 + kc))), (5, .int v5)]) hx hb dX2_fits_98 hl (k := 4) rfl (by rw [ex23]; rfl) (by decide) rfl (fun ls hl => ?_)
            refine lv_goto (tgt := 141) hx hb dX2_fits_101 (by decide) ?_
            obtain ⟨x24, ex24, hf⟩ := nm_x hf
            refine lv_iinc (v := x24) (lv' := [(5, .int x24), (4, .int x23), (6, .int x5), (0, .ref (G.1 204)), (1, .ref (gtF G kf)), (2, .ref (G.1 (207 + kc)))]) hx hb dX2_fits_141 hl (k := 5) rfl (by rw [ex24]; rfl) (by decide) rfl (fun ls hl => ?_)
            refine lv_goto (tgt := 26) hx hb dX2_fits_144 (by decide) ?_
            exact ih _ _ _ _ hf _ _ _ M (lv_sub hl [3, 4, 5, 1, 0] rfl) k74 k129 k147
        · have hf := it_p c9 hf
          cases hf
          exact k74 _ rfl _ _ _ M (lv_sub hl [] rfl)
      · have hf := it_n c6 hf
        refine lv_iload hx hb dX2_fits_56 (lv_at hl 0 rfl) ?_
        refine lv_bipush (v := 37) hx hb dX2_fits_58 (by decide) ?_
        refine lv_icmp_ne (tgt := 104) hx hb dX2_fits_60 (by decide) (fun c25 => ?_) (fun c25 => ?_)
        · have hf := it_n c25 hf
          refine lv_aload_n hx hb dX2_fits_104 rfl (lv_at hl 1 rfl) ?_
          refine gf_X2_4 (i := 204) S M (by decide) rfl tw_1_222 dX2_fits_105 ?_
          refine lv_aload_n hx hb dX2_fits_108 rfl (lv_at hl 1 rfl) ?_
          refine gf_X2_2 (i := 204) S M (by decide) rfl tw_1_220 dX2_fits_109 ?_
          refine lv_icmp_ge (tgt := 129) hx hb dX2_fits_112 (by decide) (fun c26 => ?_) (fun c26 => ?_)
          · have hf := it_p c26 hf
            cases hf
            exact k129 _ rfl _ _ _ M (lv_sub hl [] rfl)
          · have hf := it_n c26 hf
            refine lv_aload_n hx hb dX2_fits_115 rfl (lv_at hl 1 rfl) ?_
            refine gf_X2_0 (i := 204) S M (by decide) rfl tw_1_218 dX2_fits_116 ?_
            refine lv_aload_n hx hb dX2_fits_119 rfl (lv_at hl 1 rfl) ?_
            refine gf_X2_4 (i := 204) S M (by decide) rfl tw_1_222 dX2_fits_120 ?_
            obtain ⟨h27, hf⟩ := gi_x hf
            refine gk_cald (i := 205) (k := (σ 204 4).toNatClampNeg) S M (by decide) (gca_60 rfl) h27 rfl dX2_fits_123 ?_
            refine lv_iload hx hb dX2_fits_124 (lv_at hl 0 rfl) ?_
            refine lv_icmp_eq (tgt := 131) hx hb dX2_fits_126 (by decide) (fun c28 => ?_) (fun c28 => ?_)
            · have hf := it_p c28 hf
              refine lv_aload_n hx hb dX2_fits_131 rfl (lv_at hl 1 rfl) ?_
              refine lv_dup hx hb dX2_fits_132 rfl ?_
              refine gf_X2_4 (i := 204) S M (by decide) rfl tw_1_222 dX2_fits_133 ?_
              refine lv_iconst (v := 1) hx hb dX2_fits_136 (by decide) ?_
              refine lv_iadd hx hb dX2_fits_137 ?_
              obtain ⟨σ29, eσ29, hf⟩ := nm_x hf
              refine gp_X2_4 (i := 204) S M (by decide) rfl tw_1_222 dX2_fits_138 (fun H locs M => ?_)
              rw [← eσ29] at M
              obtain ⟨x30, ex30, hf⟩ := nm_x hf
              refine lv_iinc (v := x30) (lv' := [(5, .int x30), (6, .int x5), (0, .ref (G.1 204)), (1, .ref (gtF G kf)), (2, .ref (G.1 (207 + kc))), (4, .int v4)]) hx hb dX2_fits_141 hl (k := 5) rfl (by rw [ex30]; rfl) (by decide) rfl (fun ls hl => ?_)
              refine lv_goto (tgt := 26) hx hb dX2_fits_144 (by decide) ?_
              exact ih _ _ _ _ hf _ _ _ M (lv_sub hl [2, 3, 4, 5, 0] rfl) k74 k129 k147
            · have hf := it_n c28 hf
              cases hf
              exact k129 _ rfl _ _ _ M (lv_sub hl [] rfl)
        · have hf := it_p c25 hf
          refine lv_aload_n hx hb dX2_fits_63 rfl (lv_at hl 1 rfl) ?_
          refine lv_aload_n hx hb dX2_fits_64 rfl (lv_at hl 1 rfl) ?_
          refine gf_X2_4 (i := 204) S M (by decide) rfl tw_1_222 dX2_fits_65 ?_
          obtain ⟨r32, h31, hf⟩ := bd_x hf
          refine g_callR (st1 := [.int r32]) (cells' := 0) (slots' := 0) M (g_invV (index := 73) S M C0 hl (c_X2_isDigit l G H.size lo dd σ (σ 204 4)  h31) k_X2_isDigit tw_5_1 tw_0_17 tw_4_239 (by decide) (ge_9 rfl) rfl rfl rfl rfl rfl rfl dX2_fits_68) rfl rfl rfl (fun H locs M => ?_)
          refine lv_if_ne (tgt := 76) hx hb dX2_fits_71 (by decide) (fun c33 => ?_) (fun c33 => ?_)
          · have hf := it_n c33 hf
            refine lv_aload_n hx hb dX2_fits_76 rfl (lv_at hl 3 rfl) ?_
            refine lv_iload hx hb dX2_fits_77 (lv_at hl 4 rfl) ?_
            refine lv_aload_n hx hb dX2_fits_79 rfl (lv_at hl 1 rfl) ?_
            refine lv_iload hx hb dX2_fits_80 (lv_at hl 0 rfl) ?_
            refine lv_bipush (v := 37) hx hb dX2_fits_82 (by decide) ?_
            refine lv_icmp_ne (tgt := 91) hx hb dX2_fits_84 (by decide) (fun c34 => ?_) (fun c34 => ?_)
            · have hf := it_n c34 hf
              refine lv_iconst (v := 0) hx hb dX2_fits_91 (by decide) ?_
              obtain ⟨r36, σ37, h35, hf⟩ := bd2_x hf
              refine g_callR (st1 := [.int r36, .int v4, .ref (G.1 (207 + kc))]) (cells' := 0) (slots' := 0) M (g_invV (index := 77) S M C0 hl (c_X2_readNumber l G H.size lo dd σ 0  h35) k_X2_readNumber tw_5_5 tw_0_18 tw_5_3 (by decide) (ge_9 rfl) rfl rfl rfl rfl rfl rfl dX2_fits_92) rfl rfl rfl (fun H locs M => ?_)
              obtain ⟨σ39, h38, hf⟩ := bd_x hf
              refine g_callR (st1 := []) (cells' := 0) (slots' := 0) M (g_invV (index := 81) S M C0 hl (c_X1_setNumber l G H.size lo dd σ37 kc v4 r36 hkc h38) k_X1_setNumber tw_5_8 tw_5_9 tw_5_7 (by omega) (ge_11 (gkd_cm hkc)) rfl rfl rfl rfl rfl rfl dX2_fits_95) rfl rfl rfl (fun H locs M => ?_)
              obtain ⟨x40, ex40, hf⟩ := nm_x hf
              refine lv_iinc (v := x40) (lv' := [(4, .int x40), (6, .int x5), (0, .ref (G.1 204)), (1, .ref (gtF G kf)), (2, .ref (G.1 (207 + kc))), (5, .int v5)]) hx hb dX2_fits_98 hl (k := 4) rfl (by rw [ex40]; rfl) (by decide) rfl (fun ls hl => ?_)
              refine lv_goto (tgt := 141) hx hb dX2_fits_101 (by decide) ?_
              obtain ⟨x41, ex41, hf⟩ := nm_x hf
              refine lv_iinc (v := x41) (lv' := [(5, .int x41), (4, .int x40), (6, .int x5), (0, .ref (G.1 204)), (1, .ref (gtF G kf)), (2, .ref (G.1 (207 + kc)))]) hx hb dX2_fits_141 hl (k := 5) rfl (by rw [ex41]; rfl) (by decide) rfl (fun ls hl => ?_)
              refine lv_goto (tgt := 26) hx hb dX2_fits_144 (by decide) ?_
              exact ih _ _ _ _ hf _ _ _ M (lv_sub hl [3, 4, 5, 1, 0] rfl) k74 k129 k147
            · have hf := it_p c34 hf
              refine lv_iconst (v := 1) hx hb dX2_fits_87 (by decide) ?_
              refine lv_goto (tgt := 92) hx hb dX2_fits_88 (by decide) ?_
              obtain ⟨r43, σ44, h42, hf⟩ := bd2_x hf
              refine g_callR (st1 := [.int r43, .int v4, .ref (G.1 (207 + kc))]) (cells' := 0) (slots' := 0) M (g_invV (index := 77) S M C0 hl (c_X2_readNumber l G H.size lo dd σ 1  h42) k_X2_readNumber tw_5_5 tw_0_18 tw_5_3 (by decide) (ge_9 rfl) rfl rfl rfl rfl rfl rfl dX2_fits_92) rfl rfl rfl (fun H locs M => ?_)
              obtain ⟨σ46, h45, hf⟩ := bd_x hf
              refine g_callR (st1 := []) (cells' := 0) (slots' := 0) M (g_invV (index := 81) S M C0 hl (c_X1_setNumber l G H.size lo dd σ44 kc v4 r43 hkc h45) k_X1_setNumber tw_5_8 tw_5_9 tw_5_7 (by omega) (ge_11 (gkd_cm hkc)) rfl rfl rfl rfl rfl rfl dX2_fits_95) rfl rfl rfl (fun H locs M => ?_)
              obtain ⟨x47, ex47, hf⟩ := nm_x hf
              refine lv_iinc (v := x47) (lv' := [(4, .int x47), (6, .int x5), (0, .ref (G.1 204)), (1, .ref (gtF G kf)), (2, .ref (G.1 (207 + kc))), (5, .int v5)]) hx hb dX2_fits_98 hl (k := 4) rfl (by rw [ex47]; rfl) (by decide) rfl (fun ls hl => ?_)
              refine lv_goto (tgt := 141) hx hb dX2_fits_101 (by decide) ?_
              obtain ⟨x48, ex48, hf⟩ := nm_x hf
              refine lv_iinc (v := x48) (lv' := [(5, .int x48), (4, .int x47), (6, .int x5), (0, .ref (G.1 204)), (1, .ref (gtF G kf)), (2, .ref (G.1 (207 + kc)))]) hx hb dX2_fits_141 hl (k := 5) rfl (by rw [ex48]; rfl) (by decide) rfl (fun ls hl => ?_)
              refine lv_goto (tgt := 26) hx hb dX2_fits_144 (by decide) ?_
              exact ih _ _ _ _ hf _ _ _ M (lv_sub hl [3, 4, 5, 1, 0] rfl) k74 k129 k147
          · have hf := it_p c33 hf
            cases hf
            exact k74 _ rfl _ _ _ M (lv_sub hl [] rfl)
set_option maxHeartbeats 400000 in
set_option maxRecDepth 100000 in
theorem c_X2_fits (l : Launch) (G : gT) (sz : Nat) (lo : Int64) (dd : UInt64) (σ : gM) (kf : Nat) (kc : Nat) (a3 : Int32) (hkf : kf < 7) (hkc : kc < 10) {r : Int32} {o : gM} (hf : f_X2_fits σ kf kc a3 = some (r, o)) : gCT l yX2_fits cX2_fits 7 (some .boolean) { frames := 6, cells := 0, slots := 0, locals := 200 } 0 0 G sz [.ref (G.1 204), .ref (gtF G kf), .ref (G.1 (207 + kc)), .int a3] lo dd σ (.inl (mkI r, o, lo, dd)) := by
  refine gCT_of (by decide) (Nat.le_of_ble_eq_true rfl) (fun p e s m args below meth c ls S hr hlk hnx hsz C0 hl H locs M => ?_)
  subst hsz
  have hx := S.1
  have hb := S.2.1
  unfold f_X2_fits at hf
  refine lv_aload_n hx hb dX2_fits_0 rfl (lv_at hl 0 rfl) ?_
  refine lv_iload_n hx hb dX2_fits_1 rfl (lv_at hl 3 rfl) ?_
  obtain ⟨σ1, eσ1, hf⟩ := nm_x hf
  refine gp_X2_4 (i := 204) S M (by decide) rfl tw_1_222 dX2_fits_2 (fun H locs M => ?_)
  rw [← eσ1] at M
  refine lv_aload_n hx hb dX2_fits_5 rfl (lv_at hl 1 rfl) ?_
  refine lv_ifnull hx hb dX2_fits_6 ?_
  refine lv_aload_n hx hb dX2_fits_9 rfl (lv_at hl 2 rfl) ?_
  refine lv_ifnonnull (tgt := 15) hx hb dX2_fits_10 (by decide) ?_
  refine lv_aload_n hx hb dX2_fits_15 rfl (lv_at hl 2 rfl) ?_
  refine lv_aload_n hx hb dX2_fits_16 rfl (lv_at hl 1 rfl) ?_
  obtain ⟨σ2, eσ2, hf⟩ := nm_x hf
  refine gp_X1_0F (i := 207 + kc) S M (by omega) (gkd_cm hkc) tw_1_200 hkf dX2_fits_17 (fun H locs M => ?_)
  rw [← eσ2] at M
  refine lv_iconst (v := 0) hx hb dX2_fits_20 (by decide) ?_
  refine lv_istore (lv' := [(4, .int 0), (0, .ref (G.1 204)), (1, .ref (gtF G kf)), (2, .ref (G.1 (207 + kc))), (3, .int a3)]) hx hb dX2_fits_21 hl (by decide) rfl (fun ls hl => ?_)
  refine lv_iconst (v := 0) hx hb dX2_fits_23 (by decide) ?_
  refine lv_istore (lv' := [(5, .int 0), (4, .int 0), (0, .ref (G.1 204)), (1, .ref (gtF G kf)), (2, .ref (G.1 (207 + kc))), (3, .int a3)]) hx hb dX2_fits_24 hl (by decide) rfl (fun ls hl => ?_)
  rcases gs3_x hf with ⟨σ50, h49, hf⟩ | ⟨σ51, h49, hf⟩ | ⟨σ52, h49, hf⟩
  · refine w_X2_fits_L26 S C0 kf kc hkc hkf gFU 0 0 σ2 _ h49 _ _ _ M (lv_sub hl [2, 3, 4, 1, 0] rfl) (fun _ eq H locs ls M hl => ?_) (fun _ eq => nomatch eq) (fun _ eq => nomatch eq)
    cases eq
    refine lv_iconst (v := 0) hx hb dX2_fits_74 (by decide) ?_
    cases hf
    exact g_zret S M hr hlk (by decide) (by decide) (by decide) dX2_fits_75 rfl
  · refine w_X2_fits_L26 S C0 kf kc hkc hkf gFU 0 0 σ2 _ h49 _ _ _ M (lv_sub hl [2, 3, 4, 1, 0] rfl) (fun _ eq => nomatch eq) (fun _ eq H locs ls M hl => ?_) (fun _ eq => nomatch eq)
    cases eq
    refine lv_iconst (v := 0) hx hb dX2_fits_129 (by decide) ?_
    cases hf
    exact g_zret S M hr hlk (by decide) (by decide) (by decide) dX2_fits_130 rfl
  · refine w_X2_fits_L26 S C0 kf kc hkc hkf gFU 0 0 σ2 _ h49 _ _ _ M (lv_sub hl [2, 3, 4, 1, 0] rfl) (fun _ eq => nomatch eq) (fun _ eq => nomatch eq) (fun _ eq H locs ls M hl => ?_)
    cases eq
    refine lv_iconst (v := 1) hx hb dX2_fits_147 (by decide) ?_
    cases hf
    exact g_zret S M hr hlk (by decide) (by decide) (by decide) dX2_fits_148 rfl
theorem k_X2_readCommand : gMV yX2_readCommand cX2_readCommand 5 (some .boolean) 2 := ⟨tw_4_184, tw_1_9, by decide⟩
set_option maxHeartbeats 400000 in
set_option maxRecDepth 100000 in
theorem w_X2_readCommand_L5 {p : Program} {l : Launch} {e : Env} {s : State} {m : MethodId} {args : Array Value} {below : List Frame} {meth : Method} {c : Code} {Q : State → Prop} {G : gT} {lo : Int64} {dd : UInt64} (S : CallFix p m c cX2_readCommand 5 s args gTs RX2) (C0 : gCST G (gAA G s.heap.size) s) (kc : Nat) (p2 : Int32) (hkc : kc < 10) : ∀ (n : Nat) (v3 : Int32) (v4 : Int32) (σ : gM) (res : (gM) ⊕ (Int32 × gM)), f_X2_readCommand_L5 kc p2 n v3 v4 σ = some res → ∀ (H : Heap) (locs : List Loc) (ls : Array Slot), gMS G (gAA G s.heap.size) lo dd σ s H locs → lv_has ls 5 [(0, .ref (G.1 204)), (1, .ref (G.1 (207 + kc))), (2, .int p2), (3, .int v3), (4, .int v4)] → (k29 : ∀ (τ : gM), res = .inl τ → ∀ (H : Heap) (locs : List Loc) (ls : Array Slot), gMS G (gAA G s.heap.size) lo dd τ s H locs → lv_has ls 5 [] → W p l e ({ frames := 7, cells := 0, slots := 0, locals := 226 } : Room) s m args below meth c H locs 0 0 Q (F0 m 29 ls [])) → (k46 : ∀ (u3 : Int32) (τ : gM), res = .inr ((u3, τ)) → ∀ (H : Heap) (locs : List Loc) (ls : Array Slot), gMS G (gAA G s.heap.size) lo dd τ s H locs → lv_has ls 5 [(0, .ref (G.1 204)), (3, .int u3)] → W p l e ({ frames := 7, cells := 0, slots := 0, locals := 226 } : Room) s m args below meth c H locs 0 0 Q (F0 m 46 ls [])) → W p l e ({ frames := 7, cells := 0, slots := 0, locals := 226 } : Room) s m args below meth c H locs 0 0 Q (F0 m 5 ls []) := by
  have hx := S.1
  have hb := S.2.1
  intro n
  induction n with
  | zero =>
    intro v3 v4 σ res hf
    cases hf
  | succ n ih =>
    intro v3 v4 σ res hf H locs ls M hl k29 k46
    rw [f_X2_readCommand_L5] at hf
    refine lv_iload hx hb dX2_readCommand_5 (lv_at hl 4 rfl) ?_
    refine g_forms S M C0 dX2_readCommand_7 ?_
    refine g_formLen S M C0 dX2_readCommand_10 ?_
    refine lv_icmp_ge (tgt := 46) hx hb dX2_readCommand_11 (by decide) (fun c1 => ?_) (fun c1 => ?_)
    · have hf := it_p c1 hf
      cases hf
      exact k46 _ _ rfl _ _ _ M (lv_sub hl [0, 3] rfl)
    · have hf := it_n c1 hf
      refine lv_aload_n hx hb dX2_readCommand_14 rfl (lv_at hl 0 rfl) ?_
      refine g_forms S M C0 dX2_readCommand_15 ?_
      refine lv_iload hx hb dX2_readCommand_18 (lv_at hl 4 rfl) ?_
      obtain ⟨h2, hf⟩ := gi_x hf
      refine g_formAt S M C0 h2 dX2_readCommand_20 ?_
      have hkf := vp_lt h2
      refine lv_aload_n hx hb dX2_readCommand_21 rfl (lv_at hl 1 rfl) ?_
      refine lv_iload_n hx hb dX2_readCommand_22 rfl (lv_at hl 2 rfl) ?_
      obtain ⟨r4, σ5, h3, hf⟩ := bd2_x hf
      refine g_callR (st1 := [.int r4]) (cells' := 0) (slots' := 0) M (g_invV (index := 44) S M C0 hl (c_X2_fits l G H.size lo dd σ v4.toNatClampNeg kc p2 (vp_lt h2) hkc h3) k_X2_fits tw_4_189 tw_0_16 tw_4_187 (by decide) (ge_9 rfl) rfl rfl rfl rfl rfl rfl dX2_readCommand_23) rfl rfl rfl (fun H locs M => ?_)
      refine lv_if_eq (tgt := 31) hx hb dX2_readCommand_26 (by decide) (fun c6 => ?_) (fun c6 => ?_)
      · have hf := it_p c6 hf
        refine lv_iload_n hx hb dX2_readCommand_31 rfl (lv_at hl 3 rfl) ?_
        refine lv_aload_n hx hb dX2_readCommand_32 rfl (lv_at hl 0 rfl) ?_
        refine gf_X2_4 (i := 204) S M (by decide) rfl tw_1_222 dX2_readCommand_33 ?_
        refine va_mmax hx hb (S.2.2.1.trans hl.1.symm) S.2.2.2.1 (S.2.2.2.2 _ tw_5_11) (S.2.2.2.2 _ tw_4_39) (S.2.2.2.2 _ tw_1_23) (S.2.2.2.2 _ tw_4_40) (Nat.le_of_ble_eq_true rfl) (Nat.le_of_ble_eq_true rfl) (Nat.le_of_ble_eq_true rfl) (Nat.le_of_ble_eq_true rfl) dX2_readCommand_36 ?_
        obtain ⟨x7, ex7, hf⟩ := nm_x hf
        refine g_topi ex7 ?_
        refine lv_istore_n (lv' := [(3, .int x7), (0, .ref (G.1 204)), (1, .ref (G.1 (207 + kc))), (2, .int p2), (4, .int v4)]) hx hb dX2_readCommand_39 rfl hl (by decide) rfl (fun ls hl => ?_)
        obtain ⟨x8, ex8, hf⟩ := nm_x hf
        refine lv_iinc (v := x8) (lv' := [(4, .int x8), (3, .int x7), (0, .ref (G.1 204)), (1, .ref (G.1 (207 + kc))), (2, .int p2)]) hx hb dX2_readCommand_40 hl (k := 4) rfl (by rw [ex8]; rfl) (by decide) rfl (fun ls hl => ?_)
        refine lv_goto (tgt := 5) hx hb dX2_readCommand_43 (by decide) ?_
        exact ih _ _ _ _ hf _ _ _ M (lv_sub hl [2, 3, 4, 1, 0] rfl) k29 k46
      · have hf := it_n c6 hf
        cases hf
        exact k29 _ rfl _ _ _ M (lv_sub hl [] rfl)
set_option maxHeartbeats 400000 in
set_option maxRecDepth 100000 in
theorem c_X2_readCommand (l : Launch) (G : gT) (sz : Nat) (lo : Int64) (dd : UInt64) (σ : gM) (kc : Nat) (a2 : Int32) (hkc : kc < 10) {r : Int32} {o : gM} (hf : f_X2_readCommand σ kc a2 = some (r, o)) : gCT l yX2_readCommand cX2_readCommand 5 (some .boolean) { frames := 7, cells := 0, slots := 0, locals := 226 } 0 0 G sz [.ref (G.1 204), .ref (G.1 (207 + kc)), .int a2] lo dd σ (.inl (mkI r, o, lo, dd)) := by
  refine gCT_of (by decide) (Nat.le_of_ble_eq_true rfl) (fun p e s m args below meth c ls S hr hlk hnx hsz C0 hl H locs M => ?_)
  subst hsz
  have hx := S.1
  have hb := S.2.1
  unfold f_X2_readCommand at hf
  refine lv_iload_n hx hb dX2_readCommand_0 rfl (lv_at hl 2 rfl) ?_
  refine lv_istore_n (lv' := [(3, .int a2), (0, .ref (G.1 204)), (1, .ref (G.1 (207 + kc))), (2, .int a2)]) hx hb dX2_readCommand_1 rfl hl (by decide) rfl (fun ls hl => ?_)
  refine lv_iconst (v := 0) hx hb dX2_readCommand_2 (by decide) ?_
  refine lv_istore (lv' := [(4, .int 0), (3, .int a2), (0, .ref (G.1 204)), (1, .ref (G.1 (207 + kc))), (2, .int a2)]) hx hb dX2_readCommand_3 hl (by decide) rfl (fun ls hl => ?_)
  rcases gs2_x hf with ⟨σ10, h9, hf⟩ | ⟨⟨y11, σ12⟩, h9, hf⟩
  · refine w_X2_readCommand_L5 S C0 kc a2 hkc gFU a2 0 σ _ h9 _ _ _ M (lv_sub hl [2, 3, 4, 1, 0] rfl) (fun _ eq H locs ls M hl => ?_) (fun _ _ eq => nomatch eq)
    cases eq
    refine lv_iconst (v := 1) hx hb dX2_readCommand_29 (by decide) ?_
    cases hf
    exact g_zret S M hr hlk (by decide) (by decide) (by decide) dX2_readCommand_30 rfl
  · have hf := un2_x hf
    refine w_X2_readCommand_L5 S C0 kc a2 hkc gFU a2 0 σ _ h9 _ _ _ M (lv_sub hl [2, 3, 4, 1, 0] rfl) (fun _ eq => nomatch eq) (fun _ _ eq H locs ls M hl => ?_)
    cases eq
    refine lv_aload_n hx hb dX2_readCommand_46 rfl (lv_at hl 0 rfl) ?_
    refine lv_iload_n hx hb dX2_readCommand_47 rfl (lv_at hl 1 rfl) ?_
    obtain ⟨σ13, eσ13, hf⟩ := nm_x hf
    refine gp_X2_4 (i := 204) S M (by decide) rfl tw_1_222 dX2_readCommand_48 (fun H locs M => ?_)
    rw [← eσ13] at M
    refine lv_iconst (v := 0) hx hb dX2_readCommand_51 (by decide) ?_
    cases hf
    exact g_zret S M hr hlk (by decide) (by decide) (by decide) dX2_readCommand_52 rfl
theorem k_X2_read : gMV yX2_read cX2_read 3 (some .int) 0 := ⟨tw_4_180, tw_1_9, by decide⟩
set_option maxHeartbeats 400000 in
set_option maxRecDepth 100000 in
theorem w_X2_read_L9 {p : Program} {l : Launch} {e : Env} {s : State} {m : MethodId} {args : Array Value} {below : List Frame} {meth : Method} {c : Code} {Q : State → Prop} {G : gT} {lo : Int64} {dd : UInt64} (S : CallFix p m c cX2_read 3 s args gTs RX2) (C0 : gCST G (gAA G s.heap.size) s) : ∀ (n : Nat) (v1 : Int32) (v2 : Int32) (σ : gM) (res : (gM) ⊕ ((gM) ⊕ ((gM) ⊕ (Int32 × gM)))), f_X2_read_L9 n v1 v2 σ = some res → ∀ (H : Heap) (locs : List Loc) (ls : Array Slot), gMS G (gAA G s.heap.size) lo dd σ s H locs → lv_has ls 3 [(0, .ref (G.1 204)), (1, .int v1), (2, .int v2)] → (k29 : ∀ (τ : gM), res = .inl τ → ∀ (H : Heap) (locs : List Loc) (ls : Array Slot), gMS G (gAA G s.heap.size) lo dd τ s H locs → lv_has ls 3 [(0, .ref (G.1 204))] → W p l e ({ frames := 8, cells := 0, slots := 0, locals := 250 } : Room) s m args below meth c H locs 0 0 Q (F0 m 29 ls [])) → (k55 : ∀ (τ : gM), res = .inr (.inl τ) → ∀ (H : Heap) (locs : List Loc) (ls : Array Slot), gMS G (gAA G s.heap.size) lo dd τ s H locs → lv_has ls 3 [] → W p l e ({ frames := 8, cells := 0, slots := 0, locals := 250 } : Room) s m args below meth c H locs 0 0 Q (F0 m 55 ls [])) → (k71 : ∀ (τ : gM), res = .inr (.inr (.inl τ)) → ∀ (H : Heap) (locs : List Loc) (ls : Array Slot), gMS G (gAA G s.heap.size) lo dd τ s H locs → lv_has ls 3 [(0, .ref (G.1 204))] → W p l e ({ frames := 8, cells := 0, slots := 0, locals := 250 } : Room) s m args below meth c H locs 0 0 Q (F0 m 71 ls [])) → (k89 : ∀ (u1 : Int32) (τ : gM), res = .inr (.inr (.inr ((u1, τ)))) → ∀ (H : Heap) (locs : List Loc) (ls : Array Slot), gMS G (gAA G s.heap.size) lo dd τ s H locs → lv_has ls 3 [(1, .int u1)] → W p l e ({ frames := 8, cells := 0, slots := 0, locals := 250 } : Room) s m args below meth c H locs 0 0 Q (F0 m 89 ls [])) → W p l e ({ frames := 8, cells := 0, slots := 0, locals := 250 } : Room) s m args below meth c H locs 0 0 Q (F0 m 9 ls []) := by
  have hx := S.1
  have hb := S.2.1
  intro n
  induction n with
  | zero =>
    intro v1 v2 σ res hf
    cases hf
  | succ n ih =>
    intro v1 v2 σ res hf H locs ls M hl k29 k55 k71 k89
    rw [f_X2_read_L9] at hf
    refine lv_iload_n hx hb dX2_read_9 rfl (lv_at hl 2 rfl) ?_
    refine lv_bipush (v := 10) hx hb dX2_read_10 (by decide) ?_
    refine lv_icmp_ge (tgt := 89) hx hb dX2_read_12 (by decide) (fun c2 => ?_) (fun c2 => ?_)
    · have hf := it_p c2 hf
      cases hf
      exact k89 _ _ rfl _ _ _ M (lv_sub hl [1] rfl)
    · have hf := it_n c2 hf
      refine lv_aload_n hx hb dX2_read_15 rfl (lv_at hl 0 rfl) ?_
      refine lv_aload_n hx hb dX2_read_16 rfl (lv_at hl 0 rfl) ?_
      refine gf_X2_1 (i := 204) S M (by decide) rfl tw_1_219 dX2_read_17 ?_
      refine lv_iload_n hx hb dX2_read_20 rfl (lv_at hl 2 rfl) ?_
      obtain ⟨h3, hf⟩ := gi_x hf
      have hkh3 := vp_lt h3
      refine g_aaldC S M h3 dX2_read_21 ?_
      refine lv_iload_n hx hb dX2_read_22 rfl (lv_at hl 1 rfl) ?_
      obtain ⟨r5, σ6, h4, hf⟩ := bd2_x hf
      refine g_callR (st1 := [.int r5]) (cells' := 0) (slots' := 0) M (g_invV (index := 36) S M C0 hl (c_X2_readCommand l G H.size lo dd σ v2.toNatClampNeg v1 hkh3 h4) k_X2_readCommand tw_4_183 tw_0_15 tw_4_181 (by decide) (ge_9 rfl) rfl rfl rfl rfl rfl rfl dX2_read_23) rfl rfl rfl (fun H locs M => ?_)
      refine lv_if_ne (tgt := 34) hx hb dX2_read_26 (by decide) (fun c7 => ?_) (fun c7 => ?_)
      · have hf := it_n c7 hf
        refine lv_aload_n hx hb dX2_read_34 rfl (lv_at hl 0 rfl) ?_
        refine lv_dup hx hb dX2_read_35 rfl ?_
        refine gf_X2_3 (i := 204) S M (by decide) rfl tw_1_221 dX2_read_36 ?_
        refine lv_iconst (v := 1) hx hb dX2_read_39 (by decide) ?_
        refine lv_iadd hx hb dX2_read_40 ?_
        obtain ⟨σ8, eσ8, hf⟩ := nm_x hf
        refine gp_X2_3 (i := 204) S M (by decide) rfl tw_1_221 dX2_read_41 (fun H locs M => ?_)
        rw [← eσ8] at M
        refine lv_aload_n hx hb dX2_read_44 rfl (lv_at hl 0 rfl) ?_
        refine gf_X2_4 (i := 204) S M (by decide) rfl tw_1_222 dX2_read_45 ?_
        refine lv_aload_n hx hb dX2_read_48 rfl (lv_at hl 0 rfl) ?_
        refine gf_X2_2 (i := 204) S M (by decide) rfl tw_1_220 dX2_read_49 ?_
        refine lv_icmp_lt (tgt := 57) hx hb dX2_read_52 (by decide) (fun c9 => ?_) (fun c9 => ?_)
        · have hf := it_p c9 hf
          refine lv_aload_n hx hb dX2_read_57 rfl (lv_at hl 0 rfl) ?_
          refine gf_X2_0 (i := 204) S M (by decide) rfl tw_1_218 dX2_read_58 ?_
          refine lv_aload_n hx hb dX2_read_61 rfl (lv_at hl 0 rfl) ?_
          refine gf_X2_4 (i := 204) S M (by decide) rfl tw_1_222 dX2_read_62 ?_
          obtain ⟨h10, hf⟩ := gi_x hf
          refine gk_cald (i := 205) (k := (σ8 204 4).toNatClampNeg) S M (by decide) (gca_60 rfl) h10 rfl dX2_read_65 ?_
          refine lv_bipush (v := 59) hx hb dX2_read_66 (by decide) ?_
          refine lv_icmp_eq (tgt := 76) hx hb dX2_read_68 (by decide) (fun c11 => ?_) (fun c11 => ?_)
          · have hf := it_p c11 hf
            refine lv_aload_n hx hb dX2_read_76 rfl (lv_at hl 0 rfl) ?_
            refine gf_X2_4 (i := 204) S M (by decide) rfl tw_1_222 dX2_read_77 ?_
            refine lv_iconst (v := 1) hx hb dX2_read_80 (by decide) ?_
            refine lv_iadd hx hb dX2_read_81 ?_
            obtain ⟨x12, ex12, hf⟩ := nm_x hf
            refine g_topi ex12 ?_
            refine lv_istore_n (lv' := [(1, .int x12), (0, .ref (G.1 204)), (2, .int v2)]) hx hb dX2_read_82 rfl hl (by decide) rfl (fun ls hl => ?_)
            obtain ⟨x13, ex13, hf⟩ := nm_x hf
            refine lv_iinc (v := x13) (lv' := [(2, .int x13), (1, .int x12), (0, .ref (G.1 204))]) hx hb dX2_read_83 hl (k := 2) rfl (by rw [ex13]; rfl) (by decide) rfl (fun ls hl => ?_)
            refine lv_goto (tgt := 9) hx hb dX2_read_86 (by decide) ?_
            exact ih _ _ _ _ hf _ _ _ M (lv_sub hl [2, 1, 0] rfl) k29 k55 k71 k89
          · have hf := it_n c11 hf
            cases hf
            exact k71 _ rfl _ _ _ M (lv_sub hl [0] rfl)
        · have hf := it_n c9 hf
          cases hf
          exact k55 _ rfl _ _ _ M (lv_sub hl [] rfl)
      · have hf := it_p c7 hf
        cases hf
        exact k29 _ rfl _ _ _ M (lv_sub hl [0] rfl)
set_option maxHeartbeats 400000 in
set_option maxRecDepth 100000 in
theorem c_X2_read (l : Launch) (G : gT) (sz : Nat) (lo : Int64) (dd : UInt64) (σ : gM) {r : Int32} {o : gM} (hf : f_X2_read σ = some (r, o)) : gCT l yX2_read cX2_read 3 (some .int) { frames := 8, cells := 0, slots := 0, locals := 250 } 0 0 G sz [.ref (G.1 204)] lo dd σ (.inl (mkI r, o, lo, dd)) := by
  refine gCT_of (by decide) (Nat.le_of_ble_eq_true rfl) (fun p e s m args below meth c ls S hr hlk hnx hsz C0 hl H locs M => ?_)
  subst hsz
  have hx := S.1
  have hb := S.2.1
  unfold f_X2_read at hf
  refine lv_aload_n hx hb dX2_read_0 rfl (lv_at hl 0 rfl) ?_
  refine lv_iconst (v := 0) hx hb dX2_read_1 (by decide) ?_
  obtain ⟨σ1, eσ1, hf⟩ := nm_x hf
  refine gp_X2_3 (i := 204) S M (by decide) rfl tw_1_221 dX2_read_2 (fun H locs M => ?_)
  rw [← eσ1] at M
  refine lv_iconst (v := 0) hx hb dX2_read_5 (by decide) ?_
  refine lv_istore_n (lv' := [(1, .int 0), (0, .ref (G.1 204))]) hx hb dX2_read_6 rfl hl (by decide) rfl (fun ls hl => ?_)
  refine lv_iconst (v := 0) hx hb dX2_read_7 (by decide) ?_
  refine lv_istore_n (lv' := [(2, .int 0), (1, .int 0), (0, .ref (G.1 204))]) hx hb dX2_read_8 rfl hl (by decide) rfl (fun ls hl => ?_)
  rcases gs4_x hf with ⟨σ15, h14, hf⟩ | ⟨σ16, h14, hf⟩ | ⟨σ17, h14, hf⟩ | ⟨⟨y18, σ19⟩, h14, hf⟩
  · refine w_X2_read_L9 S C0 gFU 0 0 σ1 _ h14 _ _ _ M (lv_sub hl [2, 1, 0] rfl) (fun _ eq H locs ls M hl => ?_) (fun _ eq => nomatch eq) (fun _ eq => nomatch eq) (fun _ _ eq => nomatch eq)
    cases eq
    refine lv_aload_n hx hb dX2_read_29 rfl (lv_at hl 0 rfl) ?_
    refine gf_X2_4 (i := 204) S M (by decide) rfl tw_1_222 dX2_read_30 ?_
    cases hf
    exact g_iret S M hr hlk (by decide) (by decide) dX2_read_33 rfl
  · refine w_X2_read_L9 S C0 gFU 0 0 σ1 _ h14 _ _ _ M (lv_sub hl [2, 1, 0] rfl) (fun _ eq => nomatch eq) (fun _ eq H locs ls M hl => ?_) (fun _ eq => nomatch eq) (fun _ _ eq => nomatch eq)
    cases eq
    refine lv_iconst (v := (-1)) hx hb dX2_read_55 (by decide) ?_
    cases hf
    exact g_iret S M hr hlk (by decide) (by decide) dX2_read_56 rfl
  · refine w_X2_read_L9 S C0 gFU 0 0 σ1 _ h14 _ _ _ M (lv_sub hl [2, 1, 0] rfl) (fun _ eq => nomatch eq) (fun _ eq => nomatch eq) (fun _ eq H locs ls M hl => ?_) (fun _ _ eq => nomatch eq)
    cases eq
    refine lv_aload_n hx hb dX2_read_71 rfl (lv_at hl 0 rfl) ?_
    refine gf_X2_4 (i := 204) S M (by decide) rfl tw_1_222 dX2_read_72 ?_
    cases hf
    exact g_iret S M hr hlk (by decide) (by decide) dX2_read_75 rfl
  · have hf := un2_x hf
    refine w_X2_read_L9 S C0 gFU 0 0 σ1 _ h14 _ _ _ M (lv_sub hl [2, 1, 0] rfl) (fun _ eq => nomatch eq) (fun _ eq => nomatch eq) (fun _ eq => nomatch eq) (fun _ _ eq H locs ls M hl => ?_)
    cases eq
    refine lv_iload_n hx hb dX2_read_89 rfl (lv_at hl 0 rfl) ?_
    cases hf
    exact g_iret S M hr hlk (by decide) (by decide) dX2_read_90 rfl
theorem k_X2_clear : gMV yX2_clear cX2_clear 1 none 0 := ⟨tw_5_15, tw_1_9, by decide⟩
set_option maxHeartbeats 400000 in
set_option maxRecDepth 100000 in
theorem c_X2_clear (l : Launch) (G : gT) (sz : Nat) (lo : Int64) (dd : UInt64) (σ : gM) {o : gM} (hf : f_X2_clear σ = some o) : gCT l yX2_clear cX2_clear 1 none { frames := 0, cells := 0, slots := 0, locals := 0 } 0 0 G sz [.ref (G.1 204)] lo dd σ (.inl (none, o, lo, dd)) := by
  refine gCT_of (by decide) (Nat.le_of_ble_eq_true rfl) (fun p e s m args below meth c ls S hr hlk hnx hsz C0 hl H locs M => ?_)
  subst hsz
  have hx := S.1
  have hb := S.2.1
  unfold f_X2_clear at hf
  refine lv_aload_n hx hb dX2_clear_0 rfl (lv_at hl 0 rfl) ?_
  refine lv_iconst (v := 0) hx hb dX2_clear_1 (by decide) ?_
  obtain ⟨σ1, eσ1, hf⟩ := nm_x hf
  refine gp_X2_2 (i := 204) S M (by decide) rfl tw_1_220 dX2_clear_2 (fun H locs M => ?_)
  rw [← eσ1] at M
  cases hf
  exact g_vret S M hr hlk (by decide) (by decide) dX2_clear_5 rfl
theorem k_X2_commandCount : gMV yX2_commandCount cX2_commandCount 1 (some .int) 0 := ⟨tw_5_24, tw_1_9, by decide⟩
set_option maxHeartbeats 400000 in
set_option maxRecDepth 100000 in
theorem c_X2_commandCount (l : Launch) (G : gT) (sz : Nat) (lo : Int64) (dd : UInt64) (σ : gM) {o : Int32} (hf : f_X2_commandCount σ = some o) : gCT l yX2_commandCount cX2_commandCount 1 (some .int) { frames := 0, cells := 0, slots := 0, locals := 0 } 0 0 G sz [.ref (G.1 204)] lo dd σ (.inl (mkI o, σ, lo, dd)) := by
  refine gCT_of (by decide) (Nat.le_of_ble_eq_true rfl) (fun p e s m args below meth c ls S hr hlk hnx hsz C0 hl H locs M => ?_)
  subst hsz
  have hx := S.1
  have hb := S.2.1
  unfold f_X2_commandCount at hf
  refine lv_aload_n hx hb dX2_commandCount_0 rfl (lv_at hl 0 rfl) ?_
  refine gf_X2_3 (i := 204) S M (by decide) rfl tw_1_221 dX2_commandCount_1 ?_
  cases hf
  exact g_iret S M hr hlk (by decide) (by decide) dX2_commandCount_4 rfl
theorem k_X2_command : gMV yX2_command cX2_command 2 (some (.object "ParcelDepot$Command")) 1 := ⟨tw_5_28, tw_1_9, by decide⟩
set_option maxHeartbeats 400000 in
set_option maxRecDepth 100000 in
theorem c_X2_command (l : Launch) (G : gT) (sz : Nat) (lo : Int64) (dd : UInt64) (σ : gM) (a1 : Int32) {o : Option Nat} (hf : f_X2_command σ a1 = some o) : gCT l yX2_command cX2_command 2 (some (.object "ParcelDepot$Command")) { frames := 1, cells := 0, slots := 0, locals := 21 } 0 0 G sz [.ref (G.1 204), .int a1] lo dd σ (.inl ((mkC G) o, σ, lo, dd)) := by
  refine gCT_of (by decide) (Nat.le_of_ble_eq_true rfl) (fun p e s m args below meth c ls S hr hlk hnx hsz C0 hl H locs M => ?_)
  subst hsz
  have hx := S.1
  have hb := S.2.1
  unfold f_X2_command at hf
  refine lv_iload_n hx hb dX2_command_0 rfl (lv_at hl 1 rfl) ?_
  refine lv_bipush (v := 10) hx hb dX2_command_1 (by decide) ?_
  obtain ⟨r2, h1, hf⟩ := bd_x hf
  refine g_callR (st1 := [.int r2]) (cells' := 0) (slots' := 0) M (g_invSN (index := 32) (host := "ParcelDepot") S M C0 hl (c_X12_isIndex l G H.size lo dd σ a1 10  h1) k_X12_isIndex tw_2_74 (by decide +kernel) rfl rfl rfl rfl dX2_command_3) rfl rfl rfl (fun H locs M => ?_)
  refine lv_if_eq (tgt := 18) hx hb dX2_command_6 (by decide) (fun c3 => ?_) (fun c3 => ?_)
  · have hf := it_p c3 hf
    refine lv_null hx hb dX2_command_18 ?_
    cases hf
    exact g_aret S M hr hlk (by decide) (by decide) (Or.inl ⟨_, rfl⟩) (Or.inl rfl) dX2_command_19 rfl
  · have hf := it_n c3 hf
    refine lv_aload_n hx hb dX2_command_9 rfl (lv_at hl 0 rfl) ?_
    refine gf_X2_1 (i := 204) S M (by decide) rfl tw_1_219 dX2_command_10 ?_
    refine lv_iload_n hx hb dX2_command_13 rfl (lv_at hl 1 rfl) ?_
    obtain ⟨h4, hf⟩ := gi_x hf
    have hkh4 := vp_lt h4
    refine g_aaldC S M h4 dX2_command_14 ?_
    refine lv_goto (tgt := 19) hx hb dX2_command_15 (by decide) ?_
    cases hf
    exact g_aret S M hr hlk (by decide) (by decide) (Or.inl ⟨_, rfl⟩) (Or.inr ⟨_, rfl⟩) dX2_command_19 rfl
theorem k_X12_carryOut : gMV yX12_carryOut cX12_carryOut 2 (some .int) 1 := ⟨tw_5_33, tw_1_1, by decide⟩
set_option maxHeartbeats 400000 in
set_option maxRecDepth 100000 in
theorem c_X12_carryOut (l : Launch) (G : gT) (sz : Nat) (lo : Int64) (dd : UInt64) (σ : gM) (kc : Nat) (hkc : kc < 10) {r : Int32} {o : gM} (hf : f_X12_carryOut σ kc = some (r, o)) : gCT l yX12_carryOut cX12_carryOut 2 (some .int) { frames := 4, cells := 0, slots := 0, locals := 100 } 0 0 G sz [.ref (G.1 0), .ref (G.1 (207 + kc))] lo dd σ (.inl (mkI r, o, lo, dd)) := by
  refine gCT_of (by decide) (Nat.le_of_ble_eq_true rfl) (fun p e s m args below meth c ls S hr hlk hnx hsz C0 hl H locs M => ?_)
  subst hsz
  have hx := S.1
  have hb := S.2.1
  unfold f_X12_carryOut at hf
  refine lv_aload_n hx hb dX12_carryOut_0 rfl (lv_at hl 1 rfl) ?_
  refine lv_ifnull hx hb dX12_carryOut_1 ?_
  refine lv_aload_n hx hb dX12_carryOut_4 rfl (lv_at hl 1 rfl) ?_
  refine gf_X1_0 (i := 207 + kc) S M (by omega) (gkd_cm hkc) tw_1_201 dX12_carryOut_5 ?_
  refine g_ifnonnullF (tgt := 14) hx hb dX12_carryOut_8 (by decide) (fun c1 => ?_) (fun c1 => ?_)
  · have hf := it_p c1 hf
    refine lv_bipush (v := (-5)) hx hb dX12_carryOut_11 (by decide) ?_
    cases hf
    exact g_iret S M hr hlk (by decide) (by decide) dX12_carryOut_13 rfl
  · have hf := it_n c1 hf
    refine g_swmap S M C0 tw_5_34 dX12_carryOut_14 ?_
    refine lv_aload_n hx hb dX12_carryOut_17 rfl (lv_at hl 1 rfl) ?_
    refine gf_X1_0 (i := 207 + kc) S M (by omega) (gkd_cm hkc) tw_1_201 dX12_carryOut_18 ?_
    obtain ⟨h2, hf⟩ := gi_x hf
    refine g_ord S M C0 hl h2 rfl dX12_carryOut_21 ?_
    refine g_swAt S M C0 h2 dX12_carryOut_24 ?_
    by_cases c3 : (σ (207 + kc) 0) = 1
    · have hf := it_p c3 hf
      refine g_top c3 ?_
      refine lv_tableIn (off := 43) (tgt := 68) hx hb dX12_carryOut_25 (by decide) (by decide) rfl (by decide) ?_
      refine lv_aload_n hx hb dX12_carryOut_68 rfl (lv_at hl 0 rfl) ?_
      refine gf_X12_0 (i := 0) S M (by decide) rfl tw_2_7 dX12_carryOut_69 ?_
      refine lv_aload_n hx hb dX12_carryOut_72 rfl (lv_at hl 1 rfl) ?_
      refine gf_X1_1 (i := 207 + kc) S M (by omega) (gkd_cm hkc) tw_1_203 dX12_carryOut_73 ?_
      refine lv_aload_n hx hb dX12_carryOut_76 rfl (lv_at hl 1 rfl) ?_
      refine gf_X1_2 (i := 207 + kc) S M (by omega) (gkd_cm hkc) tw_1_205 dX12_carryOut_77 ?_
      refine lv_aload_n hx hb dX12_carryOut_80 rfl (lv_at hl 1 rfl) ?_
      refine gf_X1_3 (i := 207 + kc) S M (by omega) (gkd_cm hkc) tw_1_207 dX12_carryOut_81 ?_
      obtain ⟨r5, σ6, h4, hf⟩ := bd2_x hf
      refine g_callR (st1 := [.int r5]) (cells' := 0) (slots' := 0) M (g_invV (index := 62) S M C0 hl (c_X3_joinPlaces l G H.size lo dd σ (σ (207 + kc) 1) (σ (207 + kc) 2) (σ (207 + kc) 3)  h4) k_X3_joinPlaces tw_5_43 tw_5_44 tw_5_42 (by decide) (ge_1 rfl) rfl rfl rfl rfl rfl rfl dX12_carryOut_84) rfl rfl rfl (fun H locs M => ?_)
      cases hf
      exact g_iret S M hr hlk (by decide) (by decide) dX12_carryOut_87 rfl
    · have hf := it_n c3 hf
      by_cases c7 : (σ (207 + kc) 0) = 2
      · have hf := it_p c7 hf
        refine g_top c7 ?_
        refine lv_tableIn (off := 63) (tgt := 88) hx hb dX12_carryOut_25 (by decide) (by decide) rfl (by decide) ?_
        refine lv_aload_n hx hb dX12_carryOut_88 rfl (lv_at hl 0 rfl) ?_
        refine gf_X12_0 (i := 0) S M (by decide) rfl tw_2_7 dX12_carryOut_89 ?_
        refine lv_aload_n hx hb dX12_carryOut_92 rfl (lv_at hl 1 rfl) ?_
        refine gf_X1_1 (i := 207 + kc) S M (by omega) (gkd_cm hkc) tw_1_203 dX12_carryOut_93 ?_
        refine lv_aload_n hx hb dX12_carryOut_96 rfl (lv_at hl 1 rfl) ?_
        refine gf_X1_2 (i := 207 + kc) S M (by omega) (gkd_cm hkc) tw_1_205 dX12_carryOut_97 ?_
        refine lv_aload_n hx hb dX12_carryOut_100 rfl (lv_at hl 1 rfl) ?_
        refine gf_X1_3 (i := 207 + kc) S M (by omega) (gkd_cm hkc) tw_1_207 dX12_carryOut_101 ?_
        obtain ⟨r9, σ10, h8, hf⟩ := bd2_x hf
        refine g_callR (st1 := [.int r9]) (cells' := 0) (slots' := 0) M (g_invV (index := 70) S M C0 hl (c_X3_addParcel l G H.size lo dd σ (σ (207 + kc) 1) (σ (207 + kc) 2) (σ (207 + kc) 3)  h8) k_X3_addParcel tw_2_70 tw_2_71 tw_2_69 (by decide) (ge_1 rfl) rfl rfl rfl rfl rfl rfl dX12_carryOut_104) rfl rfl rfl (fun H locs M => ?_)
        cases hf
        exact g_iret S M hr hlk (by decide) (by decide) dX12_carryOut_107 rfl
      · have hf := it_n c7 hf
        by_cases c11 : (σ (207 + kc) 0) = 3
        · have hf := it_p c11 hf
          refine g_top c11 ?_
          refine lv_tableIn (off := 83) (tgt := 108) hx hb dX12_carryOut_25 (by decide) (by decide) rfl (by decide) ?_
          refine lv_aload_n hx hb dX12_carryOut_108 rfl (lv_at hl 0 rfl) ?_
          refine gf_X12_0 (i := 0) S M (by decide) rfl tw_2_7 dX12_carryOut_109 ?_
          refine lv_aload_n hx hb dX12_carryOut_112 rfl (lv_at hl 1 rfl) ?_
          refine gf_X1_1 (i := 207 + kc) S M (by omega) (gkd_cm hkc) tw_1_203 dX12_carryOut_113 ?_
          obtain ⟨r13, σ14, h12, hf⟩ := bd2_x hf
          refine g_callR (st1 := [.int r13]) (cells' := 0) (slots' := 0) M (g_invV (index := 73) S M C0 hl (c_X3_addGlove l G H.size lo dd σ (σ (207 + kc) 1)  h12) k_X3_addGlove tw_5_52 tw_5_53 tw_5_51 (by decide) (ge_1 rfl) rfl rfl rfl rfl rfl rfl dX12_carryOut_116) rfl rfl rfl (fun H locs M => ?_)
          cases hf
          exact g_iret S M hr hlk (by decide) (by decide) dX12_carryOut_119 rfl
        · have hf := it_n c11 hf
          by_cases c15 : (σ (207 + kc) 0) = 4
          · have hf := it_p c15 hf
            refine g_top c15 ?_
            refine lv_tableIn (off := 95) (tgt := 120) hx hb dX12_carryOut_25 (by decide) (by decide) rfl (by decide) ?_
            refine lv_aload_n hx hb dX12_carryOut_120 rfl (lv_at hl 0 rfl) ?_
            refine gf_X12_0 (i := 0) S M (by decide) rfl tw_2_7 dX12_carryOut_121 ?_
            refine lv_aload_n hx hb dX12_carryOut_124 rfl (lv_at hl 1 rfl) ?_
            refine gf_X1_1 (i := 207 + kc) S M (by omega) (gkd_cm hkc) tw_1_203 dX12_carryOut_125 ?_
            refine lv_aload_n hx hb dX12_carryOut_128 rfl (lv_at hl 1 rfl) ?_
            refine gf_X1_2 (i := 207 + kc) S M (by omega) (gkd_cm hkc) tw_1_205 dX12_carryOut_129 ?_
            obtain ⟨r17, σ18, h16, hf⟩ := bd2_x hf
            refine g_callR (st1 := [.int r17]) (cells' := 0) (slots' := 0) M (g_invV (index := 80) S M C0 hl (c_X3_putIn l G H.size lo dd σ (σ (207 + kc) 1) (σ (207 + kc) 2)  h16) k_X3_putIn tw_3_18 tw_3_19 tw_3_17 (by decide) (ge_1 rfl) rfl rfl rfl rfl rfl rfl dX12_carryOut_132) rfl rfl rfl (fun H locs M => ?_)
            cases hf
            exact g_iret S M hr hlk (by decide) (by decide) dX12_carryOut_135 rfl
          · have hf := it_n c15 hf
            by_cases c19 : (σ (207 + kc) 0) = 5
            · have hf := it_p c19 hf
              refine g_top c19 ?_
              refine lv_tableIn (off := 111) (tgt := 136) hx hb dX12_carryOut_25 (by decide) (by decide) rfl (by decide) ?_
              refine lv_aload_n hx hb dX12_carryOut_136 rfl (lv_at hl 0 rfl) ?_
              refine gf_X12_0 (i := 0) S M (by decide) rfl tw_2_7 dX12_carryOut_137 ?_
              refine lv_aload_n hx hb dX12_carryOut_140 rfl (lv_at hl 1 rfl) ?_
              refine gf_X1_1 (i := 207 + kc) S M (by omega) (gkd_cm hkc) tw_1_203 dX12_carryOut_141 ?_
              obtain ⟨r21, σ22, h20, hf⟩ := bd2_x hf
              refine g_callR (st1 := [.int r21]) (cells' := 0) (slots' := 0) M (g_invV (index := 83) S M C0 hl (c_X3_pullOut l G H.size lo dd σ (σ (207 + kc) 1)  h20) k_X3_pullOut tw_3_75 tw_3_76 tw_3_74 (by decide) (ge_1 rfl) rfl rfl rfl rfl rfl rfl dX12_carryOut_144) rfl rfl rfl (fun H locs M => ?_)
              cases hf
              exact g_iret S M hr hlk (by decide) (by decide) dX12_carryOut_147 rfl
            · have hf := it_n c19 hf
              by_cases c23 : (σ (207 + kc) 0) = 6
              · have hf := it_p c23 hf
                refine g_top c23 ?_
                refine lv_tableIn (off := 123) (tgt := 148) hx hb dX12_carryOut_25 (by decide) (by decide) rfl (by decide) ?_
                refine lv_aload_n hx hb dX12_carryOut_148 rfl (lv_at hl 0 rfl) ?_
                refine gf_X12_0 (i := 0) S M (by decide) rfl tw_2_7 dX12_carryOut_149 ?_
                refine lv_aload_n hx hb dX12_carryOut_152 rfl (lv_at hl 1 rfl) ?_
                refine gf_X1_1 (i := 207 + kc) S M (by omega) (gkd_cm hkc) tw_1_203 dX12_carryOut_153 ?_
                refine lv_aload_n hx hb dX12_carryOut_156 rfl (lv_at hl 1 rfl) ?_
                refine gf_X1_2 (i := 207 + kc) S M (by omega) (gkd_cm hkc) tw_1_205 dX12_carryOut_157 ?_
                obtain ⟨r25, σ26, h24, hf⟩ := bd2_x hf
                refine g_callR (st1 := [.int r25]) (cells' := 0) (slots' := 0) M (g_invV (index := 86) S M C0 hl (c_X3_bring l G H.size lo dd σ (σ (207 + kc) 1) (σ (207 + kc) 2)  h24) k_X3_bring tw_3_83 tw_3_84 tw_3_82 (by decide) (ge_1 rfl) rfl rfl rfl rfl rfl rfl dX12_carryOut_160) rfl rfl rfl (fun H locs M => ?_)
                cases hf
                exact g_iret S M hr hlk (by decide) (by decide) dX12_carryOut_163 rfl
              · have hf := it_n c23 hf
                by_cases c27 : (σ (207 + kc) 0) = 7
                · have hf := it_p c27 hf
                  refine g_top c27 ?_
                  refine lv_tableIn (off := 139) (tgt := 164) hx hb dX12_carryOut_25 (by decide) (by decide) rfl (by decide) ?_
                  refine lv_aload_n hx hb dX12_carryOut_164 rfl (lv_at hl 0 rfl) ?_
                  refine gf_X12_0 (i := 0) S M (by decide) rfl tw_2_7 dX12_carryOut_165 ?_
                  refine lv_aload_n hx hb dX12_carryOut_168 rfl (lv_at hl 1 rfl) ?_
                  refine gf_X1_1 (i := 207 + kc) S M (by omega) (gkd_cm hkc) tw_1_203 dX12_carryOut_169 ?_
                  obtain ⟨r29, σ30, h28, hf⟩ := bd2_x hf
                  refine g_callR (st1 := [.int r29]) (cells' := 0) (slots' := 0) M (g_invV (index := 89) S M C0 hl (c_X3_takeBack l G H.size lo dd σ (σ (207 + kc) 1)  h28) k_X3_takeBack tw_3_119 tw_3_120 tw_3_118 (by decide) (ge_1 rfl) rfl rfl rfl rfl rfl rfl dX12_carryOut_172) rfl rfl rfl (fun H locs M => ?_)
                  cases hf
                  exact g_iret S M hr hlk (by decide) (by decide) dX12_carryOut_175 rfl
                · have hf := it_n c27 hf
                  refine g_tswD (tgt := 176) hx hb dX12_carryOut_25 (by decide) (by decide) (fun i hi => ?_) ?_
                  · have hd : ∀ i : Nat, i < 7 → (i ∈ [0, 1, 2, 3, 4, 5, 6]) ∨ (#[(43 : Int), (63 : Int), (83 : Int), (95 : Int), (111 : Int), (123 : Int), (139 : Int)])[i]? = some (151 : Int) := by decide
                    rcases hd i hi with h | h
                    · simp only [List.mem_cons, List.not_mem_nil, or_false] at h
                      rcases h with rfl | rfl | rfl | rfl | rfl | rfl | rfl
                      · exact Or.inr (fun q => c3 (g_toInt_inj (q.trans (by decide))))
                      · exact Or.inr (fun q => c7 (g_toInt_inj (q.trans (by decide))))
                      · exact Or.inr (fun q => c11 (g_toInt_inj (q.trans (by decide))))
                      · exact Or.inr (fun q => c15 (g_toInt_inj (q.trans (by decide))))
                      · exact Or.inr (fun q => c19 (g_toInt_inj (q.trans (by decide))))
                      · exact Or.inr (fun q => c23 (g_toInt_inj (q.trans (by decide))))
                      · exact Or.inr (fun q => c27 (g_toInt_inj (q.trans (by decide))))
                    · exact Or.inl h
                  · refine lv_bipush (v := (-5)) hx hb dX12_carryOut_176 (by decide) ?_
                    cases hf
                    exact g_iret S M hr hlk (by decide) (by decide) dX12_carryOut_178 rfl
theorem k_X12_carryOutCommands : gMV yX12_carryOutCommands cX12_carryOutCommands 2 (some .int) 0 := ⟨tw_5_20, tw_1_1, by decide⟩
set_option maxHeartbeats 400000 in
set_option maxRecDepth 100000 in
theorem w_X12_carryOutCommands_L2 {p : Program} {l : Launch} {e : Env} {s : State} {m : MethodId} {args : Array Value} {below : List Frame} {meth : Method} {c : Code} {Q : State → Prop} {G : gT} {lo : Int64} {dd : UInt64} (S : CallFix p m c cX12_carryOutCommands 2 s args gTs RX12) (C0 : gCST G (gAA G s.heap.size) s) : ∀ (n : Nat) (v1 : Int32) (σ : gM) (res : (Int32 × gM) ⊕ (gM)), f_X12_carryOutCommands_L2 n v1 σ = some res → ∀ (H : Heap) (locs : List Loc) (ls : Array Slot), gMS G (gAA G s.heap.size) lo dd σ s H locs → lv_has ls 2 [(0, .ref (G.1 0)), (1, .int v1)] → (k28 : ∀ (u1 : Int32) (τ : gM), res = .inl (u1, τ) → ∀ (H : Heap) (locs : List Loc) (ls : Array Slot), gMS G (gAA G s.heap.size) lo dd τ s H locs → lv_has ls 2 [(1, .int u1)] → W p l e ({ frames := 5, cells := 0, slots := 0, locals := 121 } : Room) s m args below meth c H locs 0 0 Q (F0 m 28 ls [])) → (k36 : ∀ (τ : gM), res = .inr (τ) → ∀ (H : Heap) (locs : List Loc) (ls : Array Slot), gMS G (gAA G s.heap.size) lo dd τ s H locs → lv_has ls 2 [] → W p l e ({ frames := 5, cells := 0, slots := 0, locals := 121 } : Room) s m args below meth c H locs 0 0 Q (F0 m 36 ls [])) → W p l e ({ frames := 5, cells := 0, slots := 0, locals := 121 } : Room) s m args below meth c H locs 0 0 Q (F0 m 2 ls []) := by
  have hx := S.1
  have hb := S.2.1
  intro n
  induction n with
  | zero =>
    intro v1 σ res hf
    cases hf
  | succ n ih =>
    intro v1 σ res hf H locs ls M hl k28 k36
    rw [f_X12_carryOutCommands_L2] at hf
    refine lv_iload_n hx hb dX12_carryOutCommands_2 rfl (lv_at hl 1 rfl) ?_
    refine lv_aload_n hx hb dX12_carryOutCommands_3 rfl (lv_at hl 0 rfl) ?_
    refine gf_X12_4 (i := 0) S M (by decide) rfl tw_2_11 dX12_carryOutCommands_4 ?_
    obtain ⟨r2, h1, hf⟩ := bd_x hf
    refine g_callR (st1 := [.int r2, .int v1]) (cells' := 0) (slots' := 0) M (g_invV (index := 277) S M C0 hl (c_X2_commandCount l G H.size lo dd σ   h1) k_X2_commandCount tw_5_22 tw_5_23 tw_5_21 (by decide) (ge_9 rfl) rfl rfl rfl rfl rfl rfl dX12_carryOutCommands_7) rfl rfl rfl (fun H locs M => ?_)
    refine lv_icmp_ge (tgt := 36) hx hb dX12_carryOutCommands_10 (by decide) (fun c3 => ?_) (fun c3 => ?_)
    · have hf := it_p c3 hf
      cases hf
      exact k36 _ rfl _ _ _ M (lv_sub hl [] rfl)
    · have hf := it_n c3 hf
      refine lv_aload_n hx hb dX12_carryOutCommands_13 rfl (lv_at hl 0 rfl) ?_
      refine lv_aload_n hx hb dX12_carryOutCommands_14 rfl (lv_at hl 0 rfl) ?_
      refine gf_X12_4 (i := 0) S M (by decide) rfl tw_2_11 dX12_carryOutCommands_15 ?_
      refine lv_iload_n hx hb dX12_carryOutCommands_18 rfl (lv_at hl 1 rfl) ?_
      obtain ⟨r5, h4, hf⟩ := bd_x hf
      obtain ⟨kc6, rfl, hkkc6, hf⟩ := gk_x hf
      refine g_callR (st1 := [.ref (G.1 (207 + kc6)), .ref (G.1 0)]) (cells' := 0) (slots' := 0) M (g_invV (index := 324) S M C0 hl (c_X2_command l G H.size lo dd σ v1  h4) k_X2_command tw_5_26 tw_5_27 tw_5_25 (by decide) (ge_9 rfl) rfl rfl rfl rfl rfl rfl dX12_carryOutCommands_19) rfl rfl rfl (fun H locs M => ?_)
      obtain ⟨r8, σ9, h7, hf⟩ := bd2_x hf
      refine g_callR (st1 := [.int r8]) (cells' := 0) (slots' := 0) M (g_invV (index := 328) S M C0 hl (c_X12_carryOut l G H.size lo dd σ kc6 hkkc6 h7) k_X12_carryOut tw_5_32 tw_0_20 tw_5_30 (by decide) (ge_0 rfl) rfl rfl rfl rfl rfl rfl dX12_carryOutCommands_22) rfl rfl rfl (fun H locs M => ?_)
      refine lv_if_ge (tgt := 30) hx hb dX12_carryOutCommands_25 (by decide) (fun c10 => ?_) (fun c10 => ?_)
      · have hf := it_p c10 hf
        obtain ⟨x11, ex11, hf⟩ := nm_x hf
        refine lv_iinc (v := x11) (lv' := [(1, .int x11), (0, .ref (G.1 0))]) hx hb dX12_carryOutCommands_30 hl (k := 1) rfl (by rw [ex11]; rfl) (by decide) rfl (fun ls hl => ?_)
        refine lv_goto (tgt := 2) hx hb dX12_carryOutCommands_33 (by decide) ?_
        exact ih _ _ _ hf _ _ _ M (lv_sub hl [1, 0] rfl) k28 k36
      · have hf := it_n c10 hf
        cases hf
        exact k28 _ _ rfl _ _ _ M (lv_sub hl [1] rfl)
set_option maxHeartbeats 400000 in
set_option maxRecDepth 100000 in
theorem c_X12_carryOutCommands (l : Launch) (G : gT) (sz : Nat) (lo : Int64) (dd : UInt64) (σ : gM) {r : Int32} {o : gM} (hf : f_X12_carryOutCommands σ = some (r, o)) : gCT l yX12_carryOutCommands cX12_carryOutCommands 2 (some .int) { frames := 5, cells := 0, slots := 0, locals := 121 } 0 0 G sz [.ref (G.1 0)] lo dd σ (.inl (mkI r, o, lo, dd)) := by
  refine gCT_of (by decide) (Nat.le_of_ble_eq_true rfl) (fun p e s m args below meth c ls S hr hlk hnx hsz C0 hl H locs M => ?_)
  subst hsz
  have hx := S.1
  have hb := S.2.1
  unfold f_X12_carryOutCommands at hf
  refine lv_iconst (v := 0) hx hb dX12_carryOutCommands_0 (by decide) ?_
  refine lv_istore_n (lv' := [(1, .int 0), (0, .ref (G.1 0))]) hx hb dX12_carryOutCommands_1 rfl hl (by decide) rfl (fun ls hl => ?_)
  rcases gs2_x hf with ⟨⟨y13, σ14⟩, h12, hf⟩ | ⟨σ15, h12, hf⟩
  · have hf := un2_x hf
    refine w_X12_carryOutCommands_L2 S C0 gFU 0 σ _ h12 _ _ _ M (lv_sub hl [1, 0] rfl) (fun _ _ eq H locs ls M hl => ?_) (fun _ eq => nomatch eq)
    cases eq
    refine lv_iload_n hx hb dX12_carryOutCommands_28 rfl (lv_at hl 0 rfl) ?_
    cases hf
    exact g_iret S M hr hlk (by decide) (by decide) dX12_carryOutCommands_29 rfl
  · refine w_X12_carryOutCommands_L2 S C0 gFU 0 σ _ h12 _ _ _ M (lv_sub hl [1, 0] rfl) (fun _ _ eq => nomatch eq) (fun _ eq H locs ls M hl => ?_)
    cases eq
    refine lv_iconst (v := (-1)) hx hb dX12_carryOutCommands_36 (by decide) ?_
    cases hf
    exact g_iret S M hr hlk (by decide) (by decide) dX12_carryOutCommands_37 rfl
theorem k_X7_putBack : gMV yX7_putBack cX7_putBack 3 none 1 := ⟨tw_5_66, tw_1_7, by decide⟩
set_option maxHeartbeats 400000 in
set_option maxRecDepth 100000 in
theorem c_X7_putBack (l : Launch) (G : gT) (sz : Nat) (lo : Int64) (dd : UInt64) (σ : gM) {o : gM} (hf : f_X7_putBack σ = some o) : gCT l yX7_putBack cX7_putBack 3 none { frames := 3, cells := 0, slots := 0, locals := 106 } 0 0 G sz [.ref (G.1 199), .ref (G.1 1)] lo dd σ (.inl (none, o, lo, dd)) := by
  refine gCT_of (by decide) (Nat.le_of_ble_eq_true rfl) (fun p e s m args below meth c ls S hr hlk hnx hsz C0 hl H locs M => ?_)
  subst hsz
  have hx := S.1
  have hb := S.2.1
  unfold f_X7_putBack at hf
  refine lv_aload_n hx hb dX7_putBack_0 rfl (lv_at hl 0 rfl) ?_
  refine gf_X7_0 (i := 199) S M (by decide) rfl tw_1_163 dX7_putBack_1 ?_
  refine lv_aload_n hx hb dX7_putBack_4 rfl (lv_at hl 0 rfl) ?_
  refine gf_X7_1 (i := 199) S M (by decide) rfl tw_1_164 dX7_putBack_5 ?_
  obtain ⟨h1, hf⟩ := gi_x hf
  have hkh1 := vp_lt h1
  refine g_aaldR S M h1 dX7_putBack_8 ?_
  refine lv_astore_n (lv' := [(2, .ref (G.1 (1 + 18 * ((σ 199 1).toNatClampNeg + 2)))), (0, .ref (G.1 199)), (1, .ref (G.1 1))]) hx hb dX7_putBack_9 rfl hl (by decide) rfl (fun ls hl => ?_)
  refine lv_aload_n hx hb dX7_putBack_10 rfl (lv_at hl 0 rfl) ?_
  refine lv_ifnull hx hb dX7_putBack_11 ?_
  refine lv_aload_n hx hb dX7_putBack_14 rfl (lv_at hl 2 rfl) ?_
  refine lv_aload_n hx hb dX7_putBack_15 rfl (lv_at hl 0 rfl) ?_
  obtain ⟨σ3, h2, hf⟩ := bd_x hf
  refine g_callR (st1 := []) (cells' := 0) (slots' := 0) M (g_invV (index := 25) S M C0 hl (c_X3_copyFrom l G H.size lo dd σ 0 ((σ 199 1).toNatClampNeg + 2) (by decide) (Nat.add_lt_add_right hkh1 2) h2) k_X3_copyFrom tw_2_44 tw_2_45 tw_2_43 (by decide) (ge_1 rfl) rfl rfl rfl rfl rfl rfl dX7_putBack_16) rfl rfl rfl (fun H locs M => ?_)
  cases hf
  exact g_vret S M hr hlk (by decide) (by decide) dX7_putBack_19 rfl
theorem k_X12_runCommands : gMV yX12_runCommands cX12_runCommands 3 (some .int) 0 := ⟨tw_4_176, tw_1_1, by decide⟩
set_option maxHeartbeats 400000 in
set_option maxRecDepth 100000 in
theorem c_X12_runCommands (l : Launch) (hfl : l.stackTraces = false) (G : gT) (sz : Nat) (lo : Int64) (dd : UInt64) (σ : gM) {o : (Int32 × gM) ⊕ (Nat × gM)} (hf : f_X12_runCommands σ = some o) : gCT l yX12_runCommands cX12_runCommands 3 (some .int) { frames := 9, cells := 1, slots := 6, locals := 272 } 1 6 G sz [.ref (G.1 0)] lo dd σ (got2 mkI o lo dd) := by
  refine gCT_of (by decide) (Nat.le_of_ble_eq_true rfl) (fun p e s m args below meth c ls S hr hlk hnx hsz C0 hl H locs M => ?_)
  subst hsz
  have hx := S.1
  have hb := S.2.1
  unfold f_X12_runCommands at hf
  refine lv_aload_n hx hb dX12_runCommands_0 rfl (lv_at hl 0 rfl) ?_
  refine gf_X12_4 (i := 0) S M (by decide) rfl tw_2_11 dX12_runCommands_1 ?_
  obtain ⟨r2, σ3, h1, hf⟩ := bd2_x hf
  refine g_callR (st1 := [.int r2]) (cells' := 0) (slots' := 0) M (g_invV (index := 255) S M C0 hl (c_X2_read l G H.size lo dd σ   h1) k_X2_read tw_4_178 tw_4_179 tw_4_177 (by decide) (ge_9 rfl) rfl rfl rfl rfl rfl rfl dX12_runCommands_4) rfl rfl rfl (fun H locs M => ?_)
  refine lv_istore_n (lv' := [(1, .int r2), (0, .ref (G.1 0))]) hx hb dX12_runCommands_7 rfl hl (by decide) rfl (fun ls hl => ?_)
  refine lv_aload_n hx hb dX12_runCommands_8 rfl (lv_at hl 1 rfl) ?_
  refine gf_X12_4 (i := 0) S M (by decide) rfl tw_2_11 dX12_runCommands_9 ?_
  obtain ⟨σ5, h4, hf⟩ := bd_x hf
  refine g_callR (st1 := []) (cells' := 0) (slots' := 0) M (g_invV (index := 258) S M C0 hl (c_X2_clear l G H.size lo dd σ3   h4) k_X2_clear tw_5_13 tw_5_14 tw_5_12 (by decide) (ge_9 rfl) rfl rfl rfl rfl rfl rfl dX12_runCommands_12) rfl rfl rfl (fun H locs M => ?_)
  refine lv_iload_n hx hb dX12_runCommands_15 rfl (lv_at hl 0 rfl) ?_
  refine lv_iconst (v := (-1)) hx hb dX12_runCommands_16 (by decide) ?_
  refine lv_icmp_eq (tgt := 36) hx hb dX12_runCommands_17 (by decide) (fun c6 => ?_) (fun c6 => ?_)
  · have hf := it_p c6 hf
    refine lv_aload_n hx hb dX12_runCommands_36 rfl (lv_at hl 1 rfl) ?_
    refine gf_X12_2 (i := 0) S M (by decide) rfl tw_2_9 dX12_runCommands_37 ?_
    refine lv_aload_n hx hb dX12_runCommands_40 rfl (lv_at hl 1 rfl) ?_
    refine gf_X12_0 (i := 0) S M (by decide) rfl tw_2_7 dX12_runCommands_41 ?_
    obtain ⟨σ8, h7, hf⟩ := bd_x hf
    refine g_callR (st1 := []) (cells' := 0) (slots' := 0) M (g_invV (index := 58) S M C0 hl (c_X7_prepare l G H.size lo dd σ5   h7) k_X7_prepare tw_2_40 tw_2_41 tw_2_39 (by decide) (ge_6 rfl) rfl rfl rfl rfl rfl rfl dX12_runCommands_44) rfl rfl rfl (fun H locs M => ?_)
    refine lv_aload_n hx hb dX12_runCommands_47 rfl (lv_at hl 1 rfl) ?_
    obtain ⟨r10, σ11, h9, hf⟩ := bd2_x hf
    refine g_callR (st1 := [.int r10]) (cells' := 0) (slots' := 0) M (g_invV (index := 266) S M C0 hl (c_X12_carryOutCommands l G H.size lo dd σ8   h9) k_X12_carryOutCommands tw_5_19 tw_0_19 tw_5_17 (by decide) (ge_0 rfl) rfl rfl rfl rfl rfl rfl dX12_runCommands_48) rfl rfl rfl (fun H locs M => ?_)
    refine lv_istore_n (lv' := [(2, .int r10), (1, .int r2), (0, .ref (G.1 0))]) hx hb dX12_runCommands_51 rfl hl (by decide) rfl (fun ls hl => ?_)
    refine lv_iload_n hx hb dX12_runCommands_52 rfl (lv_at hl 0 rfl) ?_
    refine lv_iconst (v := (-1)) hx hb dX12_runCommands_53 (by decide) ?_
    refine lv_icmp_eq (tgt := 84) hx hb dX12_runCommands_54 (by decide) (fun c12 => ?_) (fun c12 => ?_)
    · have hf := it_p c12 hf
      refine lv_aload_n hx hb dX12_runCommands_84 rfl (lv_at hl 2 rfl) ?_
      refine lv_aload_n hx hb dX12_runCommands_85 rfl (lv_at hl 2 rfl) ?_
      refine gf_X12_4 (i := 0) S M (by decide) rfl tw_2_11 dX12_runCommands_86 ?_
      obtain ⟨r14, h13, hf⟩ := bd_x hf
      refine g_callR (st1 := [.int r14, .ref (G.1 0)]) (cells' := 0) (slots' := 0) M (g_invV (index := 277) S M C0 hl (c_X2_commandCount l G H.size lo dd σ11   h13) k_X2_commandCount tw_5_22 tw_5_23 tw_5_21 (by decide) (ge_9 rfl) rfl rfl rfl rfl rfl rfl dX12_runCommands_89) rfl rfl rfl (fun H locs M => ?_)
      rcases bt2_x hf with ⟨r16, σ17, h15, hf⟩ | ⟨n18, σ17, h15, hf⟩
      · refine g_callR (st1 := [.int r16]) (cells' := 1) (slots' := 6) M (g_invV (index := 66) S M C0 hl (c_X12_recorded l hfl G H.size lo dd σ11 r14  h15) k_X12_recorded tw_2_89 tw_0_0 tw_2_87 (by decide) (ge_0 rfl) rfl rfl rfl rfl rfl rfl dX12_runCommands_92) rfl rfl rfl (fun H locs M => ?_)
        cases hf
        exact g_iret S M hr hlk (by decide) (by decide) dX12_runCommands_95 rfl
      · cases hf
        refine g_runX (cells' := 1) (slots' := 6) M (g_invV (index := 66) S M C0 hl (c_X12_recorded l hfl G H.size lo dd σ11 r14  h15) k_X12_recorded tw_2_89 tw_0_0 tw_2_87 (by decide) (ge_0 rfl) rfl rfl rfl rfl rfl rfl dX12_runCommands_92) rfl rfl (fun ce q H locs M hq hv hcl => ?_)
        exact g_out M hnx hlk hq hv hcl (by decide) (by decide) rfl
    · have hf := it_n c12 hf
      refine lv_aload_n hx hb dX12_runCommands_57 rfl (lv_at hl 2 rfl) ?_
      refine gf_X12_2 (i := 0) S M (by decide) rfl tw_2_9 dX12_runCommands_58 ?_
      refine lv_aload_n hx hb dX12_runCommands_61 rfl (lv_at hl 2 rfl) ?_
      refine gf_X12_0 (i := 0) S M (by decide) rfl tw_2_7 dX12_runCommands_62 ?_
      obtain ⟨σ20, h19, hf⟩ := bd_x hf
      refine g_callR (st1 := []) (cells' := 0) (slots' := 0) M (g_invV (index := 269) S M C0 hl (c_X7_putBack l G H.size lo dd σ11   h19) k_X7_putBack tw_5_64 tw_5_65 tw_5_63 (by decide) (ge_6 rfl) rfl rfl rfl rfl rfl rfl dX12_runCommands_65) rfl rfl rfl (fun H locs M => ?_)
      refine lv_aload_n hx hb dX12_runCommands_68 rfl (lv_at hl 2 rfl) ?_
      refine lv_iload_n hx hb dX12_runCommands_69 rfl (lv_at hl 0 rfl) ?_
      obtain ⟨σ21, eσ21, hf⟩ := nm_x hf
      refine gp_X12_8 (i := 0) S M (by decide) rfl tw_2_15 dX12_runCommands_70 (fun H locs M => ?_)
      rw [← eσ21] at M
      cases hf
      exact g_throwW_3_9 S M C0 hfl hl hlk hnx dX12_runCommands_73 dX12_runCommands_76 dX12_runCommands_77 dX12_runCommands_80 dX12_runCommands_83 rfl (by decide) (by decide) rfl
  · have hf := it_n c6 hf
    refine lv_aload_n hx hb dX12_runCommands_20 rfl (lv_at hl 1 rfl) ?_
    refine lv_iload_n hx hb dX12_runCommands_21 rfl (lv_at hl 0 rfl) ?_
    obtain ⟨σ22, eσ22, hf⟩ := nm_x hf
    refine gp_X12_7 (i := 0) S M (by decide) rfl tw_2_14 dX12_runCommands_22 (fun H locs M => ?_)
    rw [← eσ22] at M
    cases hf
    exact g_throwW_1_8 S M C0 hfl hl hlk hnx dX12_runCommands_25 dX12_runCommands_28 dX12_runCommands_29 dX12_runCommands_32 dX12_runCommands_35 rfl (by decide) (by decide) rfl
theorem k_X12_errorPosition : gMV yX12_errorPosition cX12_errorPosition 1 (some .int) 0 := ⟨tw_6_9, tw_1_1, by decide⟩
set_option maxHeartbeats 400000 in
set_option maxRecDepth 100000 in
theorem c_X12_errorPosition (l : Launch) (hfl : l.stackTraces = false) (G : gT) (sz : Nat) (lo : Int64) (dd : UInt64) (σ : gM) {o : (Int32) ⊕ (Nat)} (hf : f_X12_errorPosition σ = some o) : gCT l yX12_errorPosition cX12_errorPosition 1 (some .int) { frames := 9, cells := 1, slots := 6, locals := 143 } 1 6 G sz [.ref (G.1 0)] lo dd σ (got mkI o σ lo dd) := by
  refine gCT_of (by decide) (Nat.le_of_ble_eq_true rfl) (fun p e s m args below meth c ls S hr hlk hnx hsz C0 hl H locs M => ?_)
  subst hsz
  have hx := S.1
  have hb := S.2.1
  unfold f_X12_errorPosition at hf
  refine lv_aload_n hx hb dX12_errorPosition_0 rfl (lv_at hl 0 rfl) ?_
  refine gf_X12_7 (i := 0) S M (by decide) rfl tw_2_14 dX12_errorPosition_1 ?_
  rcases bt_x hf with ⟨r2, h1, hf⟩ | ⟨n3, h1, hf⟩
  · refine g_callR (st1 := [.int r2]) (cells' := 1) (slots' := 6) M (g_invS (index := 109) S M C0 hl (c_X12_present l hfl G H.size lo dd σ (σ 0 7)  h1) k_X12_present tw_3_147 tw_3_146 rfl rfl rfl rfl dX12_errorPosition_4) rfl rfl rfl (fun H locs M => ?_)
    cases hf
    exact g_iret S M hr hlk (by decide) (by decide) dX12_errorPosition_7 rfl
  · cases hf
    refine g_runX (cells' := 1) (slots' := 6) M (g_invS (index := 109) S M C0 hl (c_X12_present l hfl G H.size lo dd σ (σ 0 7)  h1) k_X12_present tw_3_147 tw_3_146 rfl rfl rfl rfl dX12_errorPosition_4) rfl rfl (fun ce q H locs M hq hv hcl => ?_)
    exact g_out M hnx hlk hq hv hcl (by decide) (by decide) rfl
theorem k_X12_failedCommand : gMV yX12_failedCommand cX12_failedCommand 1 (some .int) 0 := ⟨tw_5_71, tw_1_1, by decide⟩
set_option maxHeartbeats 400000 in
set_option maxRecDepth 100000 in
theorem c_X12_failedCommand (l : Launch) (hfl : l.stackTraces = false) (G : gT) (sz : Nat) (lo : Int64) (dd : UInt64) (σ : gM) {o : (Int32) ⊕ (Nat)} (hf : f_X12_failedCommand σ = some o) : gCT l yX12_failedCommand cX12_failedCommand 1 (some .int) { frames := 9, cells := 1, slots := 6, locals := 143 } 1 6 G sz [.ref (G.1 0)] lo dd σ (got mkI o σ lo dd) := by
  refine gCT_of (by decide) (Nat.le_of_ble_eq_true rfl) (fun p e s m args below meth c ls S hr hlk hnx hsz C0 hl H locs M => ?_)
  subst hsz
  have hx := S.1
  have hb := S.2.1
  unfold f_X12_failedCommand at hf
  refine lv_aload_n hx hb dX12_failedCommand_0 rfl (lv_at hl 0 rfl) ?_
  refine gf_X12_8 (i := 0) S M (by decide) rfl tw_2_15 dX12_failedCommand_1 ?_
  rcases bt_x hf with ⟨r2, h1, hf⟩ | ⟨n3, h1, hf⟩
  · refine g_callR (st1 := [.int r2]) (cells' := 1) (slots' := 6) M (g_invS (index := 109) S M C0 hl (c_X12_present l hfl G H.size lo dd σ (σ 0 8)  h1) k_X12_present tw_3_147 tw_3_146 rfl rfl rfl rfl dX12_failedCommand_4) rfl rfl rfl (fun H locs M => ?_)
    cases hf
    exact g_iret S M hr hlk (by decide) (by decide) dX12_failedCommand_7 rfl
  · cases hf
    refine g_runX (cells' := 1) (slots' := 6) M (g_invS (index := 109) S M C0 hl (c_X12_present l hfl G H.size lo dd σ (σ 0 8)  h1) k_X12_present tw_3_147 tw_3_146 rfl rfl rfl rfl dX12_failedCommand_4) rfl rfl (fun ce q H locs M hq hv hcl => ?_)
    exact g_out M hnx hlk hq hv hcl (by decide) (by decide) rfl
theorem k_X10_add : gMV yX10_add cX10_add 2 none 1 := ⟨tw_5_83, tw_1_11, by decide⟩
set_option maxHeartbeats 400000 in
set_option maxRecDepth 100000 in
theorem c_X10_add (l : Launch) (G : gT) (sz : Nat) (lo : Int64) (dd : UInt64) (σ : gM) (a1 : Int32) {o : gM} (hf : f_X10_add σ a1 = some o) : gCT l yX10_add cX10_add 2 none { frames := 0, cells := 0, slots := 0, locals := 0 } 0 0 G sz [.ref (G.1 217), .int a1] lo dd σ (.inl (none, o, lo, dd)) := by
  refine gCT_of (by decide) (Nat.le_of_ble_eq_true rfl) (fun p e s m args below meth c ls S hr hlk hnx hsz C0 hl H locs M => ?_)
  subst hsz
  have hx := S.1
  have hb := S.2.1
  unfold f_X10_add at hf
  refine lv_aload_n hx hb dX10_add_0 rfl (lv_at hl 0 rfl) ?_
  refine gf_X10_1 (i := 217) S M (by decide) rfl tw_2_1 dX10_add_1 ?_
  refine lv_bipush (v := 100) hx hb dX10_add_4 (by decide) ?_
  refine lv_icmp_ge (tgt := 29) hx hb dX10_add_6 (by decide) (fun c1 => ?_) (fun c1 => ?_)
  · have hf := it_p c1 hf
    cases hf
    exact g_vret S M hr hlk (by decide) (by decide) dX10_add_29 rfl
  · have hf := it_n c1 hf
    refine lv_aload_n hx hb dX10_add_9 rfl (lv_at hl 0 rfl) ?_
    refine gf_X10_0 (i := 217) S M (by decide) rfl tw_2_0 dX10_add_10 ?_
    refine lv_aload_n hx hb dX10_add_13 rfl (lv_at hl 0 rfl) ?_
    refine gf_X10_1 (i := 217) S M (by decide) rfl tw_2_1 dX10_add_14 ?_
    refine lv_iload_n hx hb dX10_add_17 rfl (lv_at hl 1 rfl) ?_
    obtain ⟨h2, hf⟩ := gi_x hf
    obtain ⟨σ3, eσ3, hf⟩ := nm_x hf
    refine gk_cast (i := 218) (k := (σ 217 1).toNatClampNeg) S M (by decide) (fun _ => (gca_100 rfl)) h2 rfl dX10_add_18 (fun H locs M => ?_)
    rw [← eσ3] at M
    refine lv_aload_n hx hb dX10_add_19 rfl (lv_at hl 0 rfl) ?_
    refine lv_dup hx hb dX10_add_20 rfl ?_
    refine gf_X10_1 (i := 217) S M (by decide) rfl tw_2_1 dX10_add_21 ?_
    refine lv_iconst (v := 1) hx hb dX10_add_24 (by decide) ?_
    refine lv_iadd hx hb dX10_add_25 ?_
    obtain ⟨σ4, eσ4, hf⟩ := nm_x hf
    refine gp_X10_1 (i := 217) S M (by decide) rfl tw_2_1 dX10_add_26 (fun H locs M => ?_)
    rw [← eσ4] at M
    cases hf
    exact g_vret S M hr hlk (by decide) (by decide) dX10_add_29 rfl
theorem k_X10_addNumber : gMV yX10_addNumber cX10_addNumber 2 none 1 := ⟨tw_5_87, tw_1_11, by decide⟩
set_option maxHeartbeats 400000 in
set_option maxRecDepth 100000 in
theorem c_X10_addNumber (l : Launch) (G : gT) (sz : Nat) (lo : Int64) (dd : UInt64) (σ : gM) (a1 : Int32) {o : gM} (hf : f_X10_addNumber σ a1 = some o) : gCT l yX10_addNumber cX10_addNumber 2 none { frames := 1, cells := 0, slots := 0, locals := 21 } 0 0 G sz [.ref (G.1 217), .int a1] lo dd σ (.inl (none, o, lo, dd)) := by
  refine gCT_of (by decide) (Nat.le_of_ble_eq_true rfl) (fun p e s m args below meth c ls S hr hlk hnx hsz C0 hl H locs M => ?_)
  subst hsz
  have hx := S.1
  have hb := S.2.1
  unfold f_X10_addNumber at hf
  refine lv_iload_n hx hb dX10_addNumber_0 rfl (lv_at hl 1 rfl) ?_
  refine lv_bipush (v := 10) hx hb dX10_addNumber_1 (by decide) ?_
  refine lv_icmp_lt (tgt := 18) hx hb dX10_addNumber_3 (by decide) (fun c1 => ?_) (fun c1 => ?_)
  · have hf := it_p c1 hf
    refine lv_aload_n hx hb dX10_addNumber_18 rfl (lv_at hl 0 rfl) ?_
    refine lv_bipush (v := 48) hx hb dX10_addNumber_19 (by decide) ?_
    refine lv_iload_n hx hb dX10_addNumber_21 rfl (lv_at hl 1 rfl) ?_
    refine lv_bipush (v := 10) hx hb dX10_addNumber_22 (by decide) ?_
    refine lv_irem hx hb dX10_addNumber_24 (by decide) ?_
    refine lv_iadd hx hb dX10_addNumber_25 ?_
    refine lv_i2c hx hb dX10_addNumber_26 rfl ?_
    obtain ⟨σ3, h2, hf⟩ := bd_x hf
    refine g_callR (st1 := []) (cells' := 0) (slots' := 0) M (g_invV (index := 19) S M C0 hl (c_X10_add l G H.size lo dd σ (((48 + (a1 - a1 / 10 * 10)).toUInt32 % 65536).toInt32)  h2) k_X10_add tw_5_82 tw_0_21 tw_5_80 (by decide) (ge_12 rfl) rfl rfl rfl rfl rfl rfl dX10_addNumber_27) rfl rfl rfl (fun H locs M => ?_)
    cases hf
    exact g_vret S M hr hlk (by decide) (by decide) dX10_addNumber_30 rfl
  · have hf := it_n c1 hf
    refine lv_aload_n hx hb dX10_addNumber_6 rfl (lv_at hl 0 rfl) ?_
    refine lv_bipush (v := 48) hx hb dX10_addNumber_7 (by decide) ?_
    refine lv_iload_n hx hb dX10_addNumber_9 rfl (lv_at hl 1 rfl) ?_
    refine lv_bipush (v := 10) hx hb dX10_addNumber_10 (by decide) ?_
    refine lv_idiv hx hb dX10_addNumber_12 (by decide) ?_
    refine lv_iadd hx hb dX10_addNumber_13 ?_
    refine lv_i2c hx hb dX10_addNumber_14 rfl ?_
    obtain ⟨σ5, h4, hf⟩ := bd_x hf
    refine g_callR (st1 := []) (cells' := 0) (slots' := 0) M (g_invV (index := 19) S M C0 hl (c_X10_add l G H.size lo dd σ (((48 + (a1 / 10)).toUInt32 % 65536).toInt32)  h4) k_X10_add tw_5_82 tw_0_21 tw_5_80 (by decide) (ge_12 rfl) rfl rfl rfl rfl rfl rfl dX10_addNumber_15) rfl rfl rfl (fun H locs M => ?_)
    refine lv_aload_n hx hb dX10_addNumber_18 rfl (lv_at hl 0 rfl) ?_
    refine lv_bipush (v := 48) hx hb dX10_addNumber_19 (by decide) ?_
    refine lv_iload_n hx hb dX10_addNumber_21 rfl (lv_at hl 1 rfl) ?_
    refine lv_bipush (v := 10) hx hb dX10_addNumber_22 (by decide) ?_
    refine lv_irem hx hb dX10_addNumber_24 (by decide) ?_
    refine lv_iadd hx hb dX10_addNumber_25 ?_
    refine lv_i2c hx hb dX10_addNumber_26 rfl ?_
    obtain ⟨σ7, h6, hf⟩ := bd_x hf
    refine g_callR (st1 := []) (cells' := 0) (slots' := 0) M (g_invV (index := 19) S M C0 hl (c_X10_add l G H.size lo dd σ5 (((48 + (a1 - a1 / 10 * 10)).toUInt32 % 65536).toInt32)  h6) k_X10_add tw_5_82 tw_0_21 tw_5_80 (by decide) (ge_12 rfl) rfl rfl rfl rfl rfl rfl dX10_addNumber_27) rfl rfl rfl (fun H locs M => ?_)
    cases hf
    exact g_vret S M hr hlk (by decide) (by decide) dX10_addNumber_30 rfl
theorem k_X10_addParcel : gMV yX10_addParcel cX10_addParcel 4 none 2 := ⟨tw_5_94, tw_1_11, by decide⟩
set_option maxHeartbeats 400000 in
set_option maxRecDepth 100000 in
theorem w_X10_addParcel_L17 {p : Program} {l : Launch} {e : Env} {s : State} {m : MethodId} {args : Array Value} {below : List Frame} {meth : Method} {c : Code} {Q : State → Prop} {G : gT} {lo : Int64} {dd : UInt64} (S : CallFix p m c cX10_addParcel 4 s args gTs RX10) (C0 : gCST G (gAA G s.heap.size) s) (p2 : Int32) : ∀ (n : Nat) (v3 : Int32) (σ : gM) (res : gM), f_X10_addParcel_L17 p2 n v3 σ = some res → ∀ (H : Heap) (locs : List Loc) (ls : Array Slot), gMS G (gAA G s.heap.size) lo dd σ s H locs → lv_has ls 4 [(0, .ref (G.1 217)), (1, .ref (G.1 7)), (2, .int p2), (3, .int v3)] → (k38 : ∀ (τ : gM), res = τ → ∀ (H : Heap) (locs : List Loc) (ls : Array Slot), gMS G (gAA G s.heap.size) lo dd τ s H locs → lv_has ls 4 [(0, .ref (G.1 217)), (1, .ref (G.1 7)), (2, .int p2)] → W p l e ({ frames := 2, cells := 0, slots := 0, locals := 42 } : Room) s m args below meth c H locs 0 0 Q (F0 m 38 ls [])) → W p l e ({ frames := 2, cells := 0, slots := 0, locals := 42 } : Room) s m args below meth c H locs 0 0 Q (F0 m 17 ls []) := by
  have hx := S.1
  have hb := S.2.1
  intro n
  induction n with
  | zero =>
    intro v3 σ res hf
    cases hf
  | succ n ih =>
    intro v3 σ res hf H locs ls M hl k38
    rw [f_X10_addParcel_L17] at hf
    refine lv_iload_n hx hb dX10_addParcel_17 rfl (lv_at hl 3 rfl) ?_
    refine lv_aload_n hx hb dX10_addParcel_18 rfl (lv_at hl 1 rfl) ?_
    refine lv_iload_n hx hb dX10_addParcel_19 rfl (lv_at hl 2 rfl) ?_
    obtain ⟨r8, h7, hf⟩ := bd_x hf
    refine g_callR (st1 := [.int r8, .int v3]) (cells' := 0) (slots' := 0) M (g_invV (index := 59) S M C0 hl (c_X8_hazardOf l G H.size lo dd σ p2  h7) k_X8_hazardOf tw_3_46 tw_3_47 tw_5_96 (by decide) (ge_3 rfl) rfl rfl rfl rfl rfl rfl dX10_addParcel_20) rfl rfl rfl (fun H locs M => ?_)
    refine lv_icmp_ge (tgt := 38) hx hb dX10_addParcel_23 (by decide) (fun c9 => ?_) (fun c9 => ?_)
    · have hf := it_p c9 hf
      cases hf
      exact k38 _ rfl _ _ _ M (lv_sub hl [0, 1, 2] rfl)
    · have hf := it_n c9 hf
      refine lv_aload_n hx hb dX10_addParcel_26 rfl (lv_at hl 0 rfl) ?_
      refine lv_bipush (v := 104) hx hb dX10_addParcel_27 (by decide) ?_
      obtain ⟨σ11, h10, hf⟩ := bd_x hf
      refine g_callR (st1 := []) (cells' := 0) (slots' := 0) M (g_invV (index := 19) S M C0 hl (c_X10_add l G H.size lo dd σ 104  h10) k_X10_add tw_5_82 tw_0_21 tw_5_80 (by decide) (ge_12 rfl) rfl rfl rfl rfl rfl rfl dX10_addParcel_29) rfl rfl rfl (fun H locs M => ?_)
      obtain ⟨x12, ex12, hf⟩ := nm_x hf
      refine lv_iinc (v := x12) (lv' := [(3, .int x12), (0, .ref (G.1 217)), (1, .ref (G.1 7)), (2, .int p2)]) hx hb dX10_addParcel_32 hl (k := 3) rfl (by rw [ex12]; rfl) (by decide) rfl (fun ls hl => ?_)
      refine lv_goto (tgt := 17) hx hb dX10_addParcel_35 (by decide) ?_
      exact ih _ _ _ hf _ _ _ M (lv_sub hl [1, 2, 3, 0] rfl) k38
set_option maxHeartbeats 400000 in
set_option maxRecDepth 100000 in
theorem c_X10_addParcel (l : Launch) (G : gT) (sz : Nat) (lo : Int64) (dd : UInt64) (σ : gM) (a2 : Int32) {o : gM} (hf : f_X10_addParcel σ a2 = some o) : gCT l yX10_addParcel cX10_addParcel 4 none { frames := 2, cells := 0, slots := 0, locals := 42 } 0 0 G sz [.ref (G.1 217), .ref (G.1 7), .int a2] lo dd σ (.inl (none, o, lo, dd)) := by
  refine gCT_of (by decide) (Nat.le_of_ble_eq_true rfl) (fun p e s m args below meth c ls S hr hlk hnx hsz C0 hl H locs M => ?_)
  subst hsz
  have hx := S.1
  have hb := S.2.1
  unfold f_X10_addParcel at hf
  refine lv_aload_n hx hb dX10_addParcel_0 rfl (lv_at hl 0 rfl) ?_
  refine lv_bipush (v := 32) hx hb dX10_addParcel_1 (by decide) ?_
  obtain ⟨σ2, h1, hf⟩ := bd_x hf
  refine g_callR (st1 := []) (cells' := 0) (slots' := 0) M (g_invV (index := 19) S M C0 hl (c_X10_add l G H.size lo dd σ 32  h1) k_X10_add tw_5_82 tw_0_21 tw_5_80 (by decide) (ge_12 rfl) rfl rfl rfl rfl rfl rfl dX10_addParcel_3) rfl rfl rfl (fun H locs M => ?_)
  refine lv_aload_n hx hb dX10_addParcel_6 rfl (lv_at hl 0 rfl) ?_
  refine lv_aload_n hx hb dX10_addParcel_7 rfl (lv_at hl 1 rfl) ?_
  refine lv_iload_n hx hb dX10_addParcel_8 rfl (lv_at hl 2 rfl) ?_
  obtain ⟨r4, h3, hf⟩ := bd_x hf
  refine g_callR (st1 := [.int r4, .ref (G.1 217)]) (cells' := 0) (slots' := 0) M (g_invV (index := 56) S M C0 hl (c_X8_weightOf l G H.size lo dd σ2 a2  h3) k_X8_weightOf tw_3_30 tw_3_31 tw_5_95 (by decide) (ge_3 rfl) rfl rfl rfl rfl rfl rfl dX10_addParcel_9) rfl rfl rfl (fun H locs M => ?_)
  obtain ⟨σ6, h5, hf⟩ := bd_x hf
  refine g_callR (st1 := []) (cells' := 0) (slots' := 0) M (g_invV (index := 23) S M C0 hl (c_X10_addNumber l G H.size lo dd σ2 r4  h5) k_X10_addNumber tw_5_86 tw_0_22 tw_5_84 (by decide) (ge_12 rfl) rfl rfl rfl rfl rfl rfl dX10_addParcel_12) rfl rfl rfl (fun H locs M => ?_)
  refine lv_iconst (v := 0) hx hb dX10_addParcel_15 (by decide) ?_
  refine lv_istore_n (lv' := [(3, .int 0), (0, .ref (G.1 217)), (1, .ref (G.1 7)), (2, .int a2)]) hx hb dX10_addParcel_16 rfl hl (by decide) rfl (fun ls hl => ?_)
  obtain ⟨σ14, h13, hf⟩ := bd_x hf
  refine w_X10_addParcel_L17 S C0 a2 gFU 0 σ6 _ h13 _ _ _ M (lv_sub hl [1, 2, 3, 0] rfl) (fun _ eq H locs ls M hl => ?_)
  cases eq
  refine lv_aload_n hx hb dX10_addParcel_38 rfl (lv_at hl 0 rfl) ?_
  refine lv_bipush (v := 62) hx hb dX10_addParcel_39 (by decide) ?_
  obtain ⟨σ16, h15, hf⟩ := bd_x hf
  refine g_callR (st1 := []) (cells' := 0) (slots' := 0) M (g_invV (index := 19) S M C0 hl (c_X10_add l G H.size lo dd σ14 62  h15) k_X10_add tw_5_82 tw_0_21 tw_5_80 (by decide) (ge_12 rfl) rfl rfl rfl rfl rfl rfl dX10_addParcel_41) rfl rfl rfl (fun H locs M => ?_)
  refine lv_aload_n hx hb dX10_addParcel_44 rfl (lv_at hl 0 rfl) ?_
  refine lv_aload_n hx hb dX10_addParcel_45 rfl (lv_at hl 1 rfl) ?_
  refine lv_iload_n hx hb dX10_addParcel_46 rfl (lv_at hl 2 rfl) ?_
  obtain ⟨r18, h17, hf⟩ := bd_x hf
  refine g_callR (st1 := [.int r18, .ref (G.1 217)]) (cells' := 0) (slots' := 0) M (g_invV (index := 62) S M C0 hl (c_X8_destinationOf l G H.size lo dd σ16 a2  h17) k_X8_destinationOf tw_5_98 tw_5_99 tw_5_97 (by decide) (ge_3 rfl) rfl rfl rfl rfl rfl rfl dX10_addParcel_47) rfl rfl rfl (fun H locs M => ?_)
  obtain ⟨σ20, h19, hf⟩ := bd_x hf
  refine g_callR (st1 := []) (cells' := 0) (slots' := 0) M (g_invV (index := 23) S M C0 hl (c_X10_addNumber l G H.size lo dd σ16 r18  h19) k_X10_addNumber tw_5_86 tw_0_22 tw_5_84 (by decide) (ge_12 rfl) rfl rfl rfl rfl rfl rfl dX10_addParcel_50) rfl rfl rfl (fun H locs M => ?_)
  cases hf
  exact g_vret S M hr hlk (by decide) (by decide) dX10_addParcel_53 rfl
theorem k_X10_describe : gMV yX10_describe cX10_describe 4 (some .int) 2 := ⟨tw_5_79, tw_1_11, by decide⟩
set_option maxHeartbeats 400000 in
set_option maxRecDepth 100000 in
theorem w_X10_describe_L36 {p : Program} {l : Launch} {e : Env} {s : State} {m : MethodId} {args : Array Value} {below : List Frame} {meth : Method} {c : Code} {Q : State → Prop} {G : gT} {lo : Int64} {dd : UInt64} (S : CallFix p m c cX10_describe 4 s args gTs RX10) (C0 : gCST G (gAA G s.heap.size) s) (p2 : Int32) : ∀ (n : Nat) (v3 : Int32) (σ : gM) (res : gM), f_X10_describe_L36 p2 n v3 σ = some res → ∀ (H : Heap) (locs : List Loc) (ls : Array Slot), gMS G (gAA G s.heap.size) lo dd σ s H locs → lv_has ls 4 [(0, .ref (G.1 217)), (1, .ref (G.1 1)), (2, .int p2), (3, .int v3)] → (k74 : ∀ (τ : gM), res = τ → ∀ (H : Heap) (locs : List Loc) (ls : Array Slot), gMS G (gAA G s.heap.size) lo dd τ s H locs → lv_has ls 4 [(0, .ref (G.1 217))] → W p l e ({ frames := 3, cells := 0, slots := 0, locals := 65 } : Room) s m args below meth c H locs 0 0 Q (F0 m 74 ls [])) → W p l e ({ frames := 3, cells := 0, slots := 0, locals := 65 } : Room) s m args below meth c H locs 0 0 Q (F0 m 36 ls []) := by
  have hx := S.1
  have hb := S.2.1
  intro n
  induction n with
  | zero =>
    intro v3 σ res hf
    cases hf
  | succ n ih =>
    intro v3 σ res hf H locs ls M hl k74
    rw [f_X10_describe_L36] at hf
    refine lv_iload_n hx hb dX10_describe_36 rfl (lv_at hl 3 rfl) ?_
    refine lv_aload_n hx hb dX10_describe_37 rfl (lv_at hl 1 rfl) ?_
    refine gf_X3_1 (i := 1) S M (by decide) rfl tw_1_137 dX10_describe_38 ?_
    obtain ⟨r13, h12, hf⟩ := bd_x hf
    refine g_callR (st1 := [.int r13, .int v3]) (cells' := 0) (slots' := 0) M (g_invV (index := 43) S M C0 hl (c_X8_size l G H.size lo dd σ   h12) k_X8_size tw_3_22 tw_3_23 tw_5_89 (by decide) (ge_3 rfl) rfl rfl rfl rfl rfl rfl dX10_describe_41) rfl rfl rfl (fun H locs M => ?_)
    refine lv_icmp_ge (tgt := 74) hx hb dX10_describe_44 (by decide) (fun c14 => ?_) (fun c14 => ?_)
    · have hf := it_p c14 hf
      cases hf
      exact k74 _ rfl _ _ _ M (lv_sub hl [0] rfl)
    · have hf := it_n c14 hf
      refine lv_aload_n hx hb dX10_describe_47 rfl (lv_at hl 1 rfl) ?_
      refine gf_X3_1 (i := 1) S M (by decide) rfl tw_1_137 dX10_describe_48 ?_
      refine lv_iload_n hx hb dX10_describe_51 rfl (lv_at hl 3 rfl) ?_
      obtain ⟨r16, h15, hf⟩ := bd_x hf
      refine g_callR (st1 := [.int r16]) (cells' := 0) (slots' := 0) M (g_invV (index := 49) S M C0 hl (c_X8_whereIs l G H.size lo dd σ v3  h15) k_X8_whereIs tw_3_26 tw_3_27 tw_5_90 (by decide) (ge_3 rfl) rfl rfl rfl rfl rfl rfl dX10_describe_52) rfl rfl rfl (fun H locs M => ?_)
      refine lv_iload_n hx hb dX10_describe_55 rfl (lv_at hl 2 rfl) ?_
      refine lv_icmp_ne (tgt := 68) hx hb dX10_describe_56 (by decide) (fun c17 => ?_) (fun c17 => ?_)
      · have hf := it_n c17 hf
        obtain ⟨x18, ex18, hf⟩ := nm_x hf
        refine lv_iinc (v := x18) (lv' := [(3, .int x18), (0, .ref (G.1 217)), (1, .ref (G.1 1)), (2, .int p2)]) hx hb dX10_describe_68 hl (k := 3) rfl (by rw [ex18]; rfl) (by decide) rfl (fun ls hl => ?_)
        refine lv_goto (tgt := 36) hx hb dX10_describe_71 (by decide) ?_
        exact ih _ _ _ hf _ _ _ M (lv_sub hl [1, 2, 3, 0] rfl) k74
      · have hf := it_p c17 hf
        refine lv_aload_n hx hb dX10_describe_59 rfl (lv_at hl 0 rfl) ?_
        refine lv_aload_n hx hb dX10_describe_60 rfl (lv_at hl 1 rfl) ?_
        refine gf_X3_1 (i := 1) S M (by decide) rfl tw_1_137 dX10_describe_61 ?_
        refine lv_iload_n hx hb dX10_describe_64 rfl (lv_at hl 3 rfl) ?_
        obtain ⟨σ20, h19, hf⟩ := bd_x hf
        refine g_callR (st1 := []) (cells' := 0) (slots' := 0) M (g_invV (index := 52) S M C0 hl (c_X10_addParcel l G H.size lo dd σ v3  h19) k_X10_addParcel tw_5_93 tw_0_23 tw_5_91 (by decide) (ge_12 rfl) rfl rfl rfl rfl rfl rfl dX10_describe_65) rfl rfl rfl (fun H locs M => ?_)
        obtain ⟨x21, ex21, hf⟩ := nm_x hf
        refine lv_iinc (v := x21) (lv' := [(3, .int x21), (0, .ref (G.1 217)), (1, .ref (G.1 1)), (2, .int p2)]) hx hb dX10_describe_68 hl (k := 3) rfl (by rw [ex21]; rfl) (by decide) rfl (fun ls hl => ?_)
        refine lv_goto (tgt := 36) hx hb dX10_describe_71 (by decide) ?_
        exact ih _ _ _ hf _ _ _ M (lv_sub hl [1, 2, 3, 0] rfl) k74
set_option maxHeartbeats 400000 in
set_option maxRecDepth 100000 in
theorem c_X10_describe (l : Launch) (G : gT) (sz : Nat) (lo : Int64) (dd : UInt64) (σ : gM) (a2 : Int32) {r : Int32} {o : gM} (hf : f_X10_describe σ a2 = some (r, o)) : gCT l yX10_describe cX10_describe 4 (some .int) { frames := 3, cells := 0, slots := 0, locals := 65 } 0 0 G sz [.ref (G.1 217), .ref (G.1 1), .int a2] lo dd σ (.inl (mkI r, o, lo, dd)) := by
  refine gCT_of (by decide) (Nat.le_of_ble_eq_true rfl) (fun p e s m args below meth c ls S hr hlk hnx hsz C0 hl H locs M => ?_)
  subst hsz
  have hx := S.1
  have hb := S.2.1
  unfold f_X10_describe at hf
  refine lv_aload_n hx hb dX10_describe_0 rfl (lv_at hl 0 rfl) ?_
  refine lv_iconst (v := 0) hx hb dX10_describe_1 (by decide) ?_
  obtain ⟨σ1, eσ1, hf⟩ := nm_x hf
  refine gp_X10_1 (i := 217) S M (by decide) rfl tw_2_1 dX10_describe_2 (fun H locs M => ?_)
  rw [← eσ1] at M
  refine lv_aload_n hx hb dX10_describe_5 rfl (lv_at hl 0 rfl) ?_
  refine lv_bipush (v := 115) hx hb dX10_describe_6 (by decide) ?_
  obtain ⟨σ3, h2, hf⟩ := bd_x hf
  refine g_callR (st1 := []) (cells' := 0) (slots' := 0) M (g_invV (index := 19) S M C0 hl (c_X10_add l G H.size lo dd σ1 115  h2) k_X10_add tw_5_82 tw_0_21 tw_5_80 (by decide) (ge_12 rfl) rfl rfl rfl rfl rfl rfl dX10_describe_8) rfl rfl rfl (fun H locs M => ?_)
  refine lv_aload_n hx hb dX10_describe_11 rfl (lv_at hl 0 rfl) ?_
  refine lv_iload_n hx hb dX10_describe_12 rfl (lv_at hl 2 rfl) ?_
  obtain ⟨σ5, h4, hf⟩ := bd_x hf
  refine g_callR (st1 := []) (cells' := 0) (slots' := 0) M (g_invV (index := 23) S M C0 hl (c_X10_addNumber l G H.size lo dd σ3 a2  h4) k_X10_addNumber tw_5_86 tw_0_22 tw_5_84 (by decide) (ge_12 rfl) rfl rfl rfl rfl rfl rfl dX10_describe_13) rfl rfl rfl (fun H locs M => ?_)
  refine lv_aload_n hx hb dX10_describe_16 rfl (lv_at hl 0 rfl) ?_
  refine lv_bipush (v := 64) hx hb dX10_describe_17 (by decide) ?_
  obtain ⟨σ7, h6, hf⟩ := bd_x hf
  refine g_callR (st1 := []) (cells' := 0) (slots' := 0) M (g_invV (index := 19) S M C0 hl (c_X10_add l G H.size lo dd σ5 64  h6) k_X10_add tw_5_82 tw_0_21 tw_5_80 (by decide) (ge_12 rfl) rfl rfl rfl rfl rfl rfl dX10_describe_19) rfl rfl rfl (fun H locs M => ?_)
  refine lv_aload_n hx hb dX10_describe_22 rfl (lv_at hl 0 rfl) ?_
  refine lv_aload_n hx hb dX10_describe_23 rfl (lv_at hl 1 rfl) ?_
  refine gf_X3_3 (i := 1) S M (by decide) rfl tw_1_143 dX10_describe_24 ?_
  refine lv_iload_n hx hb dX10_describe_27 rfl (lv_at hl 2 rfl) ?_
  obtain ⟨r9, h8, hf⟩ := bd_x hf
  refine g_callR (st1 := [.int r9, .ref (G.1 217)]) (cells' := 0) (slots' := 0) M (g_invV (index := 33) S M C0 hl (c_X11_placeOf l G H.size lo dd σ7 a2  h8) k_X11_placeOf tw_3_87 tw_3_88 tw_5_88 (by decide) (ge_5 rfl) rfl rfl rfl rfl rfl rfl dX10_describe_28) rfl rfl rfl (fun H locs M => ?_)
  obtain ⟨σ11, h10, hf⟩ := bd_x hf
  refine g_callR (st1 := []) (cells' := 0) (slots' := 0) M (g_invV (index := 23) S M C0 hl (c_X10_addNumber l G H.size lo dd σ7 r9  h10) k_X10_addNumber tw_5_86 tw_0_22 tw_5_84 (by decide) (ge_12 rfl) rfl rfl rfl rfl rfl rfl dX10_describe_31) rfl rfl rfl (fun H locs M => ?_)
  refine lv_iconst (v := 0) hx hb dX10_describe_34 (by decide) ?_
  refine lv_istore_n (lv' := [(3, .int 0), (0, .ref (G.1 217)), (1, .ref (G.1 1)), (2, .int a2)]) hx hb dX10_describe_35 rfl hl (by decide) rfl (fun ls hl => ?_)
  obtain ⟨σ23, h22, hf⟩ := bd_x hf
  refine w_X10_describe_L36 S C0 a2 gFU 0 σ11 _ h22 _ _ _ M (lv_sub hl [1, 2, 3, 0] rfl) (fun _ eq H locs ls M hl => ?_)
  cases eq
  refine lv_aload_n hx hb dX10_describe_74 rfl (lv_at hl 0 rfl) ?_
  refine gf_X10_1 (i := 217) S M (by decide) rfl tw_2_1 dX10_describe_75 ?_
  cases hf
  exact g_iret S M hr hlk (by decide) (by decide) dX10_describe_78 rfl
theorem k_X12_writeSack : gMV yX12_writeSack cX12_writeSack 2 (some .int) 1 := ⟨tw_5_75, tw_1_1, by decide⟩
set_option maxHeartbeats 400000 in
set_option maxRecDepth 100000 in
theorem c_X12_writeSack (l : Launch) (hfl : l.stackTraces = false) (G : gT) (sz : Nat) (lo : Int64) (dd : UInt64) (σ : gM) (a1 : Int32) {o : (Int32 × gM) ⊕ (Nat × gM)} (hf : f_X12_writeSack σ a1 = some o) : gCT l yX12_writeSack cX12_writeSack 2 (some .int) { frames := 8, cells := 1, slots := 6, locals := 124 } 1 6 G sz [.ref (G.1 0), .int a1] lo dd σ (got2 mkI o lo dd) := by
  refine gCT_of (by decide) (Nat.le_of_ble_eq_true rfl) (fun p e s m args below meth c ls S hr hlk hnx hsz C0 hl H locs M => ?_)
  subst hsz
  have hx := S.1
  have hb := S.2.1
  unfold f_X12_writeSack at hf
  refine lv_iload_n hx hb dX12_writeSack_0 rfl (lv_at hl 1 rfl) ?_
  refine lv_iconst (v := 3) hx hb dX12_writeSack_1 (by decide) ?_
  rcases bt_x hf with ⟨u, h1, hf⟩ | ⟨n2, h1, hf⟩
  · refine g_callR (st1 := []) (cells' := 1) (slots' := 6) M (g_invS (index := 121) S M C0 hl (c_X12_requireIndex l hfl G H.size lo dd σ a1 3  h1) k_X12_requireIndex tw_3_142 tw_3_141 rfl rfl rfl rfl dX12_writeSack_2) rfl rfl rfl (fun H locs M => ?_)
    refine lv_aload_n hx hb dX12_writeSack_5 rfl (lv_at hl 0 rfl) ?_
    refine gf_X12_5 (i := 0) S M (by decide) rfl tw_2_12 dX12_writeSack_6 ?_
    refine lv_aload_n hx hb dX12_writeSack_9 rfl (lv_at hl 0 rfl) ?_
    refine gf_X12_0 (i := 0) S M (by decide) rfl tw_2_7 dX12_writeSack_10 ?_
    refine lv_iload_n hx hb dX12_writeSack_13 rfl (lv_at hl 1 rfl) ?_
    obtain ⟨r4, σ5, h3, hf⟩ := bd2_x hf
    refine g_callR (st1 := [.int r4]) (cells' := 1) (slots' := 6) M (g_invV (index := 280) S M C0 hl (c_X10_describe l G H.size lo dd σ a1  h3) k_X10_describe tw_5_77 tw_5_78 tw_5_76 (by decide) (ge_12 rfl) rfl rfl rfl rfl rfl rfl dX12_writeSack_14) rfl rfl rfl (fun H locs M => ?_)
    cases hf
    exact g_iret S M hr hlk (by decide) (by decide) dX12_writeSack_17 rfl
  · cases hf
    refine g_runX (cells' := 1) (slots' := 6) M (g_invS (index := 121) S M C0 hl (c_X12_requireIndex l hfl G H.size lo dd σ a1 3  h1) k_X12_requireIndex tw_3_142 tw_3_141 rfl rfl rfl rfl dX12_writeSack_2) rfl rfl (fun ce q H locs M hq hv hcl => ?_)
    exact g_out M hnx hlk hq hv hcl (by decide) (by decide) rfl
theorem k_X10_size : gMV yX10_size cX10_size 1 (some .int) 0 := ⟨tw_5_235, tw_1_11, by decide⟩
set_option maxHeartbeats 400000 in
set_option maxRecDepth 100000 in
theorem c_X10_size (l : Launch) (G : gT) (sz : Nat) (lo : Int64) (dd : UInt64) (σ : gM) {o : Int32} (hf : f_X10_size σ = some o) : gCT l yX10_size cX10_size 1 (some .int) { frames := 0, cells := 0, slots := 0, locals := 0 } 0 0 G sz [.ref (G.1 217)] lo dd σ (.inl (mkI o, σ, lo, dd)) := by
  refine gCT_of (by decide) (Nat.le_of_ble_eq_true rfl) (fun p e s m args below meth c ls S hr hlk hnx hsz C0 hl H locs M => ?_)
  subst hsz
  have hx := S.1
  have hb := S.2.1
  unfold f_X10_size at hf
  refine lv_aload_n hx hb dX10_size_0 rfl (lv_at hl 0 rfl) ?_
  refine gf_X10_1 (i := 217) S M (by decide) rfl tw_2_1 dX10_size_1 ?_
  cases hf
  exact g_iret S M hr hlk (by decide) (by decide) dX10_size_4 rfl
theorem k_X10_at : gMV yX10_at cX10_at 2 (some .char) 1 := ⟨tw_5_239, tw_1_11, by decide⟩
set_option maxHeartbeats 400000 in
set_option maxRecDepth 100000 in
theorem c_X10_at (l : Launch) (G : gT) (sz : Nat) (lo : Int64) (dd : UInt64) (σ : gM) (a1 : Int32) {o : Int32} (hf : f_X10_at σ a1 = some o) : gCT l yX10_at cX10_at 2 (some .char) { frames := 0, cells := 0, slots := 0, locals := 0 } 0 0 G sz [.ref (G.1 217), .int a1] lo dd σ (.inl (mkI o, σ, lo, dd)) := by
  refine gCT_of (by decide) (Nat.le_of_ble_eq_true rfl) (fun p e s m args below meth c ls S hr hlk hnx hsz C0 hl H locs M => ?_)
  subst hsz
  have hx := S.1
  have hb := S.2.1
  unfold f_X10_at at hf
  refine lv_aload_n hx hb dX10_at_0 rfl (lv_at hl 0 rfl) ?_
  refine gf_X10_0 (i := 217) S M (by decide) rfl tw_2_0 dX10_at_1 ?_
  refine lv_iload_n hx hb dX10_at_4 rfl (lv_at hl 1 rfl) ?_
  obtain ⟨h1, hf⟩ := gi_x hf
  refine gk_cald (i := 218) (k := a1.toNatClampNeg) S M (by decide) (gca_100 rfl) h1 rfl dX10_at_5 ?_
  obtain ⟨z2, hf⟩ := gn_x hf
  cases hf
  exact g_zret S M hr hlk (g_narC z2) (by decide) (by decide) dX10_at_6 rfl
theorem k_X12_outputChar : gMV yX12_outputChar cX12_outputChar 2 (some .char) 1 := ⟨tw_5_231, tw_1_1, by decide⟩
set_option maxHeartbeats 400000 in
set_option maxRecDepth 100000 in
theorem c_X12_outputChar (l : Launch) (hfl : l.stackTraces = false) (G : gT) (sz : Nat) (lo : Int64) (dd : UInt64) (σ : gM) (a1 : Int32) {o : (Int32) ⊕ (Nat)} (hf : f_X12_outputChar σ a1 = some o) : gCT l yX12_outputChar cX12_outputChar 2 (some .char) { frames := 8, cells := 1, slots := 6, locals := 124 } 1 6 G sz [.ref (G.1 0), .int a1] lo dd σ (got mkI o σ lo dd) := by
  refine gCT_of (by decide) (Nat.le_of_ble_eq_true rfl) (fun p e s m args below meth c ls S hr hlk hnx hsz C0 hl H locs M => ?_)
  subst hsz
  have hx := S.1
  have hb := S.2.1
  unfold f_X12_outputChar at hf
  refine lv_iload_n hx hb dX12_outputChar_0 rfl (lv_at hl 1 rfl) ?_
  refine lv_aload_n hx hb dX12_outputChar_1 rfl (lv_at hl 0 rfl) ?_
  refine gf_X12_5 (i := 0) S M (by decide) rfl tw_2_12 dX12_outputChar_2 ?_
  obtain ⟨r2, h1, hf⟩ := bd_x hf
  refine g_callR (st1 := [.int r2, .int a1]) (cells' := 0) (slots' := 0) M (g_invV (index := 283) S M C0 hl (c_X10_size l G H.size lo dd σ   h1) k_X10_size tw_5_233 tw_5_234 tw_5_232 (by decide) (ge_12 rfl) rfl rfl rfl rfl rfl rfl dX12_outputChar_5) rfl rfl rfl (fun H locs M => ?_)
  rcases bt_x hf with ⟨u, h3, hf⟩ | ⟨n4, h3, hf⟩
  · refine g_callR (st1 := []) (cells' := 1) (slots' := 6) M (g_invS (index := 121) S M C0 hl (c_X12_requireIndex l hfl G H.size lo dd σ a1 r2  h3) k_X12_requireIndex tw_3_142 tw_3_141 rfl rfl rfl rfl dX12_outputChar_8) rfl rfl rfl (fun H locs M => ?_)
    refine lv_aload_n hx hb dX12_outputChar_11 rfl (lv_at hl 0 rfl) ?_
    refine gf_X12_5 (i := 0) S M (by decide) rfl tw_2_12 dX12_outputChar_12 ?_
    refine lv_iload_n hx hb dX12_outputChar_15 rfl (lv_at hl 1 rfl) ?_
    obtain ⟨r6, h5, hf⟩ := bd_x hf
    refine g_callR (st1 := [.int r6]) (cells' := 1) (slots' := 6) M (g_invV (index := 284) S M C0 hl (c_X10_at l G H.size lo dd σ a1  h5) k_X10_at tw_5_237 tw_5_238 tw_5_236 (by decide) (ge_12 rfl) rfl rfl rfl rfl rfl rfl dX12_outputChar_16) rfl rfl rfl (fun H locs M => ?_)
    obtain ⟨z7, hf⟩ := gn_x hf
    cases hf
    exact g_zret S M hr hlk (g_narC z7) (by decide) (by decide) dX12_outputChar_19 rfl
  · cases hf
    refine g_runX (cells' := 1) (slots' := 6) M (g_invS (index := 121) S M C0 hl (c_X12_requireIndex l hfl G H.size lo dd σ a1 r2  h3) k_X12_requireIndex tw_3_142 tw_3_141 rfl rfl rfl rfl dX12_outputChar_8) rfl rfl (fun ce q H locs M hq hv hcl => ?_)
    exact g_out M hnx hlk hq hv hcl (by decide) (by decide) rfl
theorem k_X7_size : gMV yX7_size cX7_size 1 (some .int) 0 := ⟨tw_5_108, tw_1_7, by decide⟩
set_option maxHeartbeats 400000 in
set_option maxRecDepth 100000 in
theorem c_X7_size (l : Launch) (G : gT) (sz : Nat) (lo : Int64) (dd : UInt64) (σ : gM) {o : Int32} (hf : f_X7_size σ = some o) : gCT l yX7_size cX7_size 1 (some .int) { frames := 0, cells := 0, slots := 0, locals := 0 } 0 0 G sz [.ref (G.1 199)] lo dd σ (.inl (mkI o, σ, lo, dd)) := by
  refine gCT_of (by decide) (Nat.le_of_ble_eq_true rfl) (fun p e s m args below meth c ls S hr hlk hnx hsz C0 hl H locs M => ?_)
  subst hsz
  have hx := S.1
  have hb := S.2.1
  unfold f_X7_size at hf
  refine lv_aload_n hx hb dX7_size_0 rfl (lv_at hl 0 rfl) ?_
  refine gf_X7_2 (i := 199) S M (by decide) rfl tw_1_165 dX7_size_1 ?_
  cases hf
  exact g_iret S M hr hlk (by decide) (by decide) dX7_size_4 rfl
theorem k_X7_goBack : gMV yX7_goBack cX7_goBack 2 (some .int) 1 := ⟨tw_5_112, tw_1_7, by decide⟩
set_option maxHeartbeats 400000 in
set_option maxRecDepth 100000 in
theorem c_X7_goBack (l : Launch) (G : gT) (sz : Nat) (lo : Int64) (dd : UInt64) (σ : gM) {r : Int32} {o : gM} (hf : f_X7_goBack σ = some (r, o)) : gCT l yX7_goBack cX7_goBack 2 (some .int) { frames := 4, cells := 0, slots := 0, locals := 128 } 0 0 G sz [.ref (G.1 199), .ref (G.1 1)] lo dd σ (.inl (mkI r, o, lo, dd)) := by
  refine gCT_of (by decide) (Nat.le_of_ble_eq_true rfl) (fun p e s m args below meth c ls S hr hlk hnx hsz C0 hl H locs M => ?_)
  subst hsz
  have hx := S.1
  have hb := S.2.1
  unfold f_X7_goBack at hf
  refine lv_aload_n hx hb dX7_goBack_0 rfl (lv_at hl 0 rfl) ?_
  refine lv_aload_n hx hb dX7_goBack_1 rfl (lv_at hl 0 rfl) ?_
  refine gf_X7_1 (i := 199) S M (by decide) rfl tw_1_164 dX7_goBack_2 ?_
  refine lv_bipush (v := 9) hx hb dX7_goBack_5 (by decide) ?_
  refine lv_iadd hx hb dX7_goBack_7 ?_
  refine lv_iconst (v := 1) hx hb dX7_goBack_8 (by decide) ?_
  refine lv_isub hx hb dX7_goBack_9 ?_
  refine lv_bipush (v := 9) hx hb dX7_goBack_10 (by decide) ?_
  refine lv_irem hx hb dX7_goBack_12 (by decide) ?_
  obtain ⟨σ1, eσ1, hf⟩ := nm_x hf
  refine gp_X7_1 (i := 199) S M (by decide) rfl tw_1_164 dX7_goBack_13 (fun H locs M => ?_)
  rw [← eσ1] at M
  refine lv_aload_n hx hb dX7_goBack_16 rfl (lv_at hl 0 rfl) ?_
  refine lv_dup hx hb dX7_goBack_17 rfl ?_
  refine gf_X7_2 (i := 199) S M (by decide) rfl tw_1_165 dX7_goBack_18 ?_
  refine lv_iconst (v := 1) hx hb dX7_goBack_21 (by decide) ?_
  refine lv_isub hx hb dX7_goBack_22 ?_
  obtain ⟨σ2, eσ2, hf⟩ := nm_x hf
  refine gp_X7_2 (i := 199) S M (by decide) rfl tw_1_165 dX7_goBack_23 (fun H locs M => ?_)
  rw [← eσ2] at M
  refine lv_aload_n hx hb dX7_goBack_26 rfl (lv_at hl 0 rfl) ?_
  refine lv_aload_n hx hb dX7_goBack_27 rfl (lv_at hl 1 rfl) ?_
  obtain ⟨σ4, h3, hf⟩ := bd_x hf
  refine g_callR (st1 := []) (cells' := 0) (slots' := 0) M (g_invV (index := 35) S M C0 hl (c_X7_putBack l G H.size lo dd σ2   h3) k_X7_putBack tw_5_64 tw_5_65 tw_5_113 (by decide) (ge_6 rfl) rfl rfl rfl rfl rfl rfl dX7_goBack_28) rfl rfl rfl (fun H locs M => ?_)
  refine lv_aload_n hx hb dX7_goBack_31 rfl (lv_at hl 0 rfl) ?_
  refine gf_X7_2 (i := 199) S M (by decide) rfl tw_1_165 dX7_goBack_32 ?_
  cases hf
  exact g_iret S M hr hlk (by decide) (by decide) dX7_goBack_35 rfl
theorem k_X12_undo : gMV yX12_undo cX12_undo 1 (some .int) 0 := ⟨tw_5_104, tw_1_1, by decide⟩
set_option maxHeartbeats 400000 in
set_option maxRecDepth 100000 in
theorem c_X12_undo (l : Launch) (hfl : l.stackTraces = false) (G : gT) (sz : Nat) (lo : Int64) (dd : UInt64) (σ : gM) {o : (Int32 × gM) ⊕ (Nat × gM)} (hf : f_X12_undo σ = some o) : gCT l yX12_undo cX12_undo 1 (some .int) { frames := 8, cells := 1, slots := 6, locals := 149 } 1 6 G sz [.ref (G.1 0)] lo dd σ (got2 mkI o lo dd) := by
  refine gCT_of (by decide) (Nat.le_of_ble_eq_true rfl) (fun p e s m args below meth c ls S hr hlk hnx hsz C0 hl H locs M => ?_)
  subst hsz
  have hx := S.1
  have hb := S.2.1
  unfold f_X12_undo at hf
  refine lv_aload_n hx hb dX12_undo_0 rfl (lv_at hl 0 rfl) ?_
  refine gf_X12_2 (i := 0) S M (by decide) rfl tw_2_9 dX12_undo_1 ?_
  obtain ⟨r2, h1, hf⟩ := bd_x hf
  refine g_callR (st1 := [.int r2]) (cells' := 0) (slots' := 0) M (g_invV (index := 287) S M C0 hl (c_X7_size l G H.size lo dd σ   h1) k_X7_size tw_5_106 tw_5_107 tw_5_105 (by decide) (ge_6 rfl) rfl rfl rfl rfl rfl rfl dX12_undo_4) rfl rfl rfl (fun H locs M => ?_)
  refine lv_if_ne (tgt := 15) hx hb dX12_undo_7 (by decide) (fun c3 => ?_) (fun c3 => ?_)
  · have hf := it_n c3 hf
    refine lv_aload_n hx hb dX12_undo_15 rfl (lv_at hl 0 rfl) ?_
    refine gf_X12_2 (i := 0) S M (by decide) rfl tw_2_9 dX12_undo_16 ?_
    refine lv_aload_n hx hb dX12_undo_19 rfl (lv_at hl 0 rfl) ?_
    refine gf_X12_0 (i := 0) S M (by decide) rfl tw_2_7 dX12_undo_20 ?_
    obtain ⟨r5, σ6, h4, hf⟩ := bd2_x hf
    refine g_callR (st1 := [.int r5]) (cells' := 0) (slots' := 0) M (g_invV (index := 288) S M C0 hl (c_X7_goBack l G H.size lo dd σ   h4) k_X7_goBack tw_5_110 tw_5_111 tw_5_109 (by decide) (ge_6 rfl) rfl rfl rfl rfl rfl rfl dX12_undo_23) rfl rfl rfl (fun H locs M => ?_)
    rcases bt_x hf with ⟨r8, h7, hf⟩ | ⟨n9, h7, hf⟩
    · refine g_callR (st1 := [.int r8]) (cells' := 1) (slots' := 6) M (g_invS (index := 177) S M C0 hl (c_X12_accepted l hfl G H.size lo dd σ6 r5  h7) k_X12_accepted tw_2_92 tw_2_91 rfl rfl rfl rfl dX12_undo_26) rfl rfl rfl (fun H locs M => ?_)
      cases hf
      exact g_iret S M hr hlk (by decide) (by decide) dX12_undo_29 rfl
    · cases hf
      refine g_runX (cells' := 1) (slots' := 6) M (g_invS (index := 177) S M C0 hl (c_X12_accepted l hfl G H.size lo dd σ6 r5  h7) k_X12_accepted tw_2_92 tw_2_91 rfl rfl rfl rfl dX12_undo_26) rfl rfl (fun ce q H locs M hq hv hcl => ?_)
      exact g_out M hnx hlk hq hv hcl (by decide) (by decide) rfl
  · have hf := it_p c3 hf
    refine lv_bipush (v := (-4)) hx hb dX12_undo_10 (by decide) ?_
    refine lv_goto (tgt := 26) hx hb dX12_undo_12 (by decide) ?_
    rcases bt_x hf with ⟨r11, h10, hf⟩ | ⟨n12, h10, hf⟩
    · refine g_callR (st1 := [.int r11]) (cells' := 1) (slots' := 6) M (g_invS (index := 177) S M C0 hl (c_X12_accepted l hfl G H.size lo dd σ (-4)  h10) k_X12_accepted tw_2_92 tw_2_91 rfl rfl rfl rfl dX12_undo_26) rfl rfl rfl (fun H locs M => ?_)
      cases hf
      exact g_iret S M hr hlk (by decide) (by decide) dX12_undo_29 rfl
    · cases hf
      refine g_runX (cells' := 1) (slots' := 6) M (g_invS (index := 177) S M C0 hl (c_X12_accepted l hfl G H.size lo dd σ (-4)  h10) k_X12_accepted tw_2_92 tw_2_91 rfl rfl rfl rfl dX12_undo_26) rfl rfl (fun ce q H locs M hq hv hcl => ?_)
      exact g_out M hnx hlk hq hv hcl (by decide) (by decide) rfl
theorem k_X12_save : gMV yX12_save cX12_save 1 (some .int) 0 := ⟨tw_5_117, tw_1_1, by decide⟩
set_option maxHeartbeats 400000 in
set_option maxRecDepth 100000 in
theorem c_X12_save (l : Launch) (G : gT) (sz : Nat) (lo : Int64) (dd : UInt64) (σ : gM) {r : Int32} {o : gM} (hf : f_X12_save σ = some (r, o)) : gCT l yX12_save cX12_save 1 (some .int) { frames := 3, cells := 0, slots := 0, locals := 106 } 0 0 G sz [.ref (G.1 0)] lo dd σ (.inl (mkI r, o, lo, dd)) := by
  refine gCT_of (by decide) (Nat.le_of_ble_eq_true rfl) (fun p e s m args below meth c ls S hr hlk hnx hsz C0 hl H locs M => ?_)
  subst hsz
  have hx := S.1
  have hb := S.2.1
  unfold f_X12_save at hf
  refine lv_aload_n hx hb dX12_save_0 rfl (lv_at hl 0 rfl) ?_
  refine gf_X12_1 (i := 0) S M (by decide) rfl tw_2_8 dX12_save_1 ?_
  refine lv_aload_n hx hb dX12_save_4 rfl (lv_at hl 0 rfl) ?_
  refine gf_X12_0 (i := 0) S M (by decide) rfl tw_2_7 dX12_save_5 ?_
  obtain ⟨σ2, h1, hf⟩ := bd_x hf
  refine g_callR (st1 := []) (cells' := 0) (slots' := 0) M (g_invV (index := 291) S M C0 hl (c_X3_copyFrom l G H.size lo dd σ 1 0 (by decide) (by decide) h1) k_X3_copyFrom tw_2_44 tw_2_45 tw_5_118 (by decide) (ge_1 rfl) rfl rfl rfl rfl rfl rfl dX12_save_8) rfl rfl rfl (fun H locs M => ?_)
  refine lv_aload_n hx hb dX12_save_11 rfl (lv_at hl 0 rfl) ?_
  refine lv_iconst (v := 1) hx hb dX12_save_12 (by decide) ?_
  obtain ⟨σ3, eσ3, hf⟩ := nm_x hf
  refine gp_X12_6 (i := 0) S M (by decide) rfl tw_2_13 (by decide) (by decide) dX12_save_13 (fun H locs M => ?_)
  rw [← eσ3] at M
  refine lv_aload_n hx hb dX12_save_16 rfl (lv_at hl 0 rfl) ?_
  refine gf_X12_0 (i := 0) S M (by decide) rfl tw_2_7 dX12_save_17 ?_
  refine gf_X3_1 (i := 1) S M (by decide) rfl tw_1_138 dX12_save_20 ?_
  obtain ⟨r5, h4, hf⟩ := bd_x hf
  refine g_callR (st1 := [.int r5]) (cells' := 0) (slots' := 0) M (g_invV (index := 131) S M C0 hl (c_X8_size l G H.size lo dd σ3   h4) k_X8_size tw_3_22 tw_3_23 tw_3_189 (by decide) (ge_3 rfl) rfl rfl rfl rfl rfl rfl dX12_save_23) rfl rfl rfl (fun H locs M => ?_)
  cases hf
  exact g_iret S M hr hlk (by decide) (by decide) dX12_save_26 rfl
theorem k_X7_forget : gMV yX7_forget cX7_forget 1 none 0 := ⟨tw_5_127, tw_1_7, by decide⟩
set_option maxHeartbeats 400000 in
set_option maxRecDepth 100000 in
theorem c_X7_forget (l : Launch) (G : gT) (sz : Nat) (lo : Int64) (dd : UInt64) (σ : gM) {o : gM} (hf : f_X7_forget σ = some o) : gCT l yX7_forget cX7_forget 1 none { frames := 0, cells := 0, slots := 0, locals := 0 } 0 0 G sz [.ref (G.1 199)] lo dd σ (.inl (none, o, lo, dd)) := by
  refine gCT_of (by decide) (Nat.le_of_ble_eq_true rfl) (fun p e s m args below meth c ls S hr hlk hnx hsz C0 hl H locs M => ?_)
  subst hsz
  have hx := S.1
  have hb := S.2.1
  unfold f_X7_forget at hf
  refine lv_aload_n hx hb dX7_forget_0 rfl (lv_at hl 0 rfl) ?_
  refine lv_iconst (v := 0) hx hb dX7_forget_1 (by decide) ?_
  obtain ⟨σ1, eσ1, hf⟩ := nm_x hf
  refine gp_X7_2 (i := 199) S M (by decide) rfl tw_1_165 dX7_forget_2 (fun H locs M => ?_)
  rw [← eσ1] at M
  cases hf
  exact g_vret S M hr hlk (by decide) (by decide) dX7_forget_5 rfl
theorem k_X12_restore : gMV yX12_restore cX12_restore 1 (some .int) 0 := ⟨tw_5_122, tw_1_1, by decide⟩
set_option maxHeartbeats 400000 in
set_option maxRecDepth 100000 in
theorem c_X12_restore (l : Launch) (hfl : l.stackTraces = false) (G : gT) (sz : Nat) (lo : Int64) (dd : UInt64) (σ : gM) {o : (Int32 × gM) ⊕ (Nat × gM)} (hf : f_X12_restore σ = some o) : gCT l yX12_restore cX12_restore 1 (some .int) { frames := 7, cells := 1, slots := 6, locals := 106 } 1 6 G sz [.ref (G.1 0)] lo dd σ (got2 mkI o lo dd) := by
  refine gCT_of (by decide) (Nat.le_of_ble_eq_true rfl) (fun p e s m args below meth c ls S hr hlk hnx hsz C0 hl H locs M => ?_)
  subst hsz
  have hx := S.1
  have hb := S.2.1
  unfold f_X12_restore at hf
  refine lv_aload_n hx hb dX12_restore_0 rfl (lv_at hl 0 rfl) ?_
  refine gf_X12_6 (i := 0) S M (by decide) rfl tw_2_13 dX12_restore_1 ?_
  refine lv_if_ne (tgt := 18) hx hb dX12_restore_4 (by decide) (fun c1 => ?_) (fun c1 => ?_)
  · have hf := it_n c1 hf
    refine lv_aload_n hx hb dX12_restore_18 rfl (lv_at hl 0 rfl) ?_
    refine gf_X12_0 (i := 0) S M (by decide) rfl tw_2_7 dX12_restore_19 ?_
    refine lv_aload_n hx hb dX12_restore_22 rfl (lv_at hl 0 rfl) ?_
    refine gf_X12_1 (i := 0) S M (by decide) rfl tw_2_8 dX12_restore_23 ?_
    obtain ⟨σ3, h2, hf⟩ := bd_x hf
    refine g_callR (st1 := []) (cells' := 0) (slots' := 0) M (g_invV (index := 291) S M C0 hl (c_X3_copyFrom l G H.size lo dd σ 0 1 (by decide) (by decide) h2) k_X3_copyFrom tw_2_44 tw_2_45 tw_5_118 (by decide) (ge_1 rfl) rfl rfl rfl rfl rfl rfl dX12_restore_26) rfl rfl rfl (fun H locs M => ?_)
    refine lv_aload_n hx hb dX12_restore_29 rfl (lv_at hl 0 rfl) ?_
    refine gf_X12_2 (i := 0) S M (by decide) rfl tw_2_9 dX12_restore_30 ?_
    obtain ⟨σ5, h4, hf⟩ := bd_x hf
    refine g_callR (st1 := []) (cells' := 0) (slots' := 0) M (g_invV (index := 299) S M C0 hl (c_X7_forget l G H.size lo dd σ3   h4) k_X7_forget tw_5_125 tw_5_126 tw_5_124 (by decide) (ge_6 rfl) rfl rfl rfl rfl rfl rfl dX12_restore_33) rfl rfl rfl (fun H locs M => ?_)
    refine lv_aload_n hx hb dX12_restore_36 rfl (lv_at hl 0 rfl) ?_
    refine gf_X12_0 (i := 0) S M (by decide) rfl tw_2_7 dX12_restore_37 ?_
    refine gf_X3_1 (i := 1) S M (by decide) rfl tw_1_138 dX12_restore_40 ?_
    obtain ⟨r7, h6, hf⟩ := bd_x hf
    refine g_callR (st1 := [.int r7]) (cells' := 0) (slots' := 0) M (g_invV (index := 131) S M C0 hl (c_X8_size l G H.size lo dd σ5   h6) k_X8_size tw_3_22 tw_3_23 tw_3_189 (by decide) (ge_3 rfl) rfl rfl rfl rfl rfl rfl dX12_restore_43) rfl rfl rfl (fun H locs M => ?_)
    cases hf
    exact g_iret S M hr hlk (by decide) (by decide) dX12_restore_46 rfl
  · have hf := it_p c1 hf
    cases hf
    exact g_throwW_2_10 S M C0 hfl hl hlk hnx dX12_restore_7 dX12_restore_10 dX12_restore_11 dX12_restore_14 dX12_restore_17 rfl (by decide) (by decide) rfl
