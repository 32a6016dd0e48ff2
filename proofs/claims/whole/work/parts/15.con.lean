theorem k_X13_carry : gMV yX13_carry cX13_carry 3 (some .int) 2 := ⟨tw_7_34, tw_1_12, by decide⟩
set_option maxHeartbeats 400000 in
set_option maxRecDepth 100000 in
theorem c_X13_carry (l : Launch) (G : gT) (sz : Nat) (lo : Int64) (dd : UInt64) (σ : gM) (a1 : Int32) (a2 : Int32) {r : Int32} {o : gM} (hf : f_X13_carry σ a1 a2 = some (r, o)) : gCT l yX13_carry cX13_carry 3 (some .int) { frames := 4, cells := 0, slots := 0, locals := 95 } 0 0 G sz [.ref (G.1 219), .int a1, .int a2] lo dd σ (.inl (mkI r, o, lo, dd)) := by
  refine gCT_of (by decide) (Nat.le_of_ble_eq_true rfl) (fun p e s m args below meth c ls S hr hlk hnx hsz C0 hl H locs M => ?_)
  subst hsz
  have hx := S.1
  have hb := S.2.1
  unfold f_X13_carry at hf
  refine lv_aload_n hx hb dX13_carry_0 rfl (lv_at hl 0 rfl) ?_
  obtain ⟨σ2, h1, hf⟩ := bd_x hf
  refine g_callR (st1 := []) (cells' := 0) (slots' := 0) M (g_invV (index := 75) S M C0 hl (c_X13_begin l G H.size lo dd σ   h1) k_X13_begin tw_6_169 tw_0_24 tw_6_167 (by decide) (ge_13 rfl) rfl rfl rfl rfl rfl rfl dX13_carry_1) rfl rfl rfl (fun H locs M => ?_)
  refine lv_aload_n hx hb dX13_carry_4 rfl (lv_at hl 0 rfl) ?_
  refine lv_aload_n hx hb dX13_carry_5 rfl (lv_at hl 0 rfl) ?_
  refine lv_iload_n hx hb dX13_carry_6 rfl (lv_at hl 1 rfl) ?_
  refine lv_iload_n hx hb dX13_carry_7 rfl (lv_at hl 2 rfl) ?_
  obtain ⟨r4, σ5, h3, hf⟩ := bd2_x hf
  refine g_callR (st1 := [.int r4, .ref (G.1 219)]) (cells' := 0) (slots' := 0) M (g_invV (index := 129) S M C0 hl (c_X13_carries l G H.size lo dd σ2 a1 a2  h3) k_X13_carries tw_7_37 tw_0_42 tw_7_35 (by decide) (ge_13 rfl) rfl rfl rfl rfl rfl rfl dX13_carry_8) rfl rfl rfl (fun H locs M => ?_)
  obtain ⟨r7, σ8, h6, hf⟩ := bd2_x hf
  refine g_callR (st1 := [.int r7]) (cells' := 0) (slots' := 0) M (g_invV (index := 82) S M C0 hl (c_X13_kept l G H.size lo dd σ5 r4  h6) k_X13_kept tw_6_202 tw_0_30 tw_6_200 (by decide) (ge_13 rfl) rfl rfl rfl rfl rfl rfl dX13_carry_11) rfl rfl rfl (fun H locs M => ?_)
  cases hf
  exact g_iret S M hr hlk (by decide) (by decide) dX13_carry_14 rfl
theorem k_X13_comes : gMV yX13_comes cX13_comes 2 (some .int) 1 := ⟨tw_7_54, tw_1_12, by decide⟩
set_option maxHeartbeats 400000 in
set_option maxRecDepth 100000 in
theorem c_X13_comes (l : Launch) (G : gT) (sz : Nat) (lo : Int64) (dd : UInt64) (σ : gM) (a1 : Int32) {r : Int32} {o : gM} (hf : f_X13_comes σ a1 = some (r, o)) : gCT l yX13_comes cX13_comes 2 (some .int) { frames := 2, cells := 0, slots := 0, locals := 43 } 0 0 G sz [.ref (G.1 219), .int a1] lo dd σ (.inl (mkI r, o, lo, dd)) := by
  refine gCT_of (by decide) (Nat.le_of_ble_eq_true rfl) (fun p e s m args below meth c ls S hr hlk hnx hsz C0 hl H locs M => ?_)
  subst hsz
  have hx := S.1
  have hb := S.2.1
  unfold f_X13_comes at hf
  refine lv_aload_n hx hb dX13_comes_0 rfl (lv_at hl 0 rfl) ?_
  refine lv_iload_n hx hb dX13_comes_1 rfl (lv_at hl 1 rfl) ?_
  obtain ⟨r2, h1, hf⟩ := bd_x hf
  refine g_callR (st1 := [.int r2]) (cells' := 0) (slots' := 0) M (g_invV (index := 111) S M C0 hl (c_X13_isParcel l G H.size lo dd σ a1  h1) k_X13_isParcel tw_7_5 tw_0_36 tw_7_3 (by decide) (ge_13 rfl) rfl rfl rfl rfl rfl rfl dX13_comes_2) rfl rfl rfl (fun H locs M => ?_)
  refine lv_if_ne (tgt := 14) hx hb dX13_comes_5 (by decide) (fun c3 => ?_) (fun c3 => ?_)
  · have hf := it_n c3 hf
    refine lv_aload_n hx hb dX13_comes_14 rfl (lv_at hl 0 rfl) ?_
    refine gf_X13_0 (i := 219) S M (by decide) rfl tw_6_107 dX13_comes_15 ?_
    refine lv_bipush (v := 76) hx hb dX13_comes_18 (by decide) ?_
    refine lv_iload_n hx hb dX13_comes_20 rfl (lv_at hl 1 rfl) ?_
    refine lv_iadd hx hb dX13_comes_21 ?_
    obtain ⟨h4, hf⟩ := gi_x hf
    refine gk_iald (i := 220) (k := (76 + a1).toNatClampNeg) S M (by decide) (gaa_134 rfl) h4 rfl dX13_comes_22 ?_
    refine lv_iconst (v := 2) hx hb dX13_comes_23 (by decide) ?_
    refine lv_icmp_eq (tgt := 33) hx hb dX13_comes_24 (by decide) (fun c5 => ?_) (fun c5 => ?_)
    · have hf := it_p c5 hf
      refine lv_aload_n hx hb dX13_comes_33 rfl (lv_at hl 0 rfl) ?_
      refine gf_X13_0 (i := 219) S M (by decide) rfl tw_6_107 dX13_comes_34 ?_
      refine lv_bipush (v := 76) hx hb dX13_comes_37 (by decide) ?_
      refine lv_iload_n hx hb dX13_comes_39 rfl (lv_at hl 1 rfl) ?_
      refine lv_iadd hx hb dX13_comes_40 ?_
      refine lv_iconst (v := 0) hx hb dX13_comes_41 (by decide) ?_
      obtain ⟨h6, hf⟩ := gi_x hf
      obtain ⟨σ7, eσ7, hf⟩ := nm_x hf
      refine gk_iast (i := 220) (k := (76 + a1).toNatClampNeg) S M (by decide) (fun _ => (gaa_134 rfl)) h6 rfl dX13_comes_42 (fun H locs M => ?_)
      rw [← eσ7] at M
      refine lv_aload_n hx hb dX13_comes_43 rfl (lv_at hl 0 rfl) ?_
      refine gf_X13_0 (i := 219) S M (by decide) rfl tw_6_107 dX13_comes_44 ?_
      refine lv_bipush (v := 100) hx hb dX13_comes_47 (by decide) ?_
      refine lv_iload_n hx hb dX13_comes_49 rfl (lv_at hl 1 rfl) ?_
      refine lv_iadd hx hb dX13_comes_50 ?_
      refine lv_dup2_11 hx hb dX13_comes_51 rfl rfl ?_
      obtain ⟨h8, hf⟩ := gi_x hf
      refine gk_iald (i := 220) (k := (100 + a1).toNatClampNeg) S M (by decide) (gaa_134 rfl) h8 rfl dX13_comes_52 ?_
      refine lv_iconst (v := 1) hx hb dX13_comes_53 (by decide) ?_
      refine lv_iadd hx hb dX13_comes_54 ?_
      obtain ⟨h9, hf⟩ := gi_x hf
      obtain ⟨σ10, eσ10, hf⟩ := nm_x hf
      refine gk_iast (i := 220) (k := (100 + a1).toNatClampNeg) S M (by decide) (fun _ => (gaa_134 rfl)) h9 rfl dX13_comes_55 (fun H locs M => ?_)
      rw [← eσ10] at M
      refine lv_aload_n hx hb dX13_comes_56 rfl (lv_at hl 0 rfl) ?_
      refine gf_X13_0 (i := 219) S M (by decide) rfl tw_6_107 dX13_comes_57 ?_
      refine lv_bipush (v := 52) hx hb dX13_comes_60 (by decide) ?_
      refine lv_iload_n hx hb dX13_comes_62 rfl (lv_at hl 1 rfl) ?_
      refine lv_iadd hx hb dX13_comes_63 ?_
      refine lv_dup2_11 hx hb dX13_comes_64 rfl rfl ?_
      obtain ⟨h11, hf⟩ := gi_x hf
      refine gk_iald (i := 220) (k := (52 + a1).toNatClampNeg) S M (by decide) (gaa_134 rfl) h11 rfl dX13_comes_65 ?_
      refine lv_aload_n hx hb dX13_comes_66 rfl (lv_at hl 0 rfl) ?_
      refine gf_X13_0 (i := 219) S M (by decide) rfl tw_6_107 dX13_comes_67 ?_
      refine lv_bipush (v := 52) hx hb dX13_comes_70 (by decide) ?_
      refine lv_iload_n hx hb dX13_comes_72 rfl (lv_at hl 1 rfl) ?_
      refine lv_iadd hx hb dX13_comes_73 ?_
      obtain ⟨h12, hf⟩ := gi_x hf
      refine gk_iald (i := 220) (k := (52 + a1).toNatClampNeg) S M (by decide) (gaa_134 rfl) h12 rfl dX13_comes_74 ?_
      refine lv_iconst (v := 3) hx hb dX13_comes_75 (by decide) ?_
      refine lv_icmp_ge (tgt := 83) hx hb dX13_comes_76 (by decide) (fun c13 => ?_) (fun c13 => ?_)
      · have hf := it_p c13 hf
        refine lv_iconst (v := 0) hx hb dX13_comes_83 (by decide) ?_
        refine lv_iadd hx hb dX13_comes_84 ?_
        obtain ⟨h14, hf⟩ := gi_x hf
        obtain ⟨σ15, eσ15, hf⟩ := nm_x hf
        refine gk_iast (i := 220) (k := (52 + a1).toNatClampNeg) S M (by decide) (fun _ => (gaa_134 rfl)) h14 rfl dX13_comes_85 (fun H locs M => ?_)
        rw [← eσ15] at M
        refine lv_aload_n hx hb dX13_comes_86 rfl (lv_at hl 0 rfl) ?_
        refine lv_aload_n hx hb dX13_comes_87 rfl (lv_at hl 0 rfl) ?_
        refine gf_X13_0 (i := 219) S M (by decide) rfl tw_6_107 dX13_comes_88 ?_
        refine lv_bipush (v := 52) hx hb dX13_comes_91 (by decide) ?_
        refine lv_iload_n hx hb dX13_comes_93 rfl (lv_at hl 1 rfl) ?_
        refine lv_iadd hx hb dX13_comes_94 ?_
        obtain ⟨h16, hf⟩ := gi_x hf
        refine gk_iald (i := 220) (k := (52 + a1).toNatClampNeg) S M (by decide) (gaa_134 rfl) h16 rfl dX13_comes_95 ?_
        obtain ⟨r18, σ19, h17, hf⟩ := bd2_x hf
        refine g_callR (st1 := [.int r18]) (cells' := 0) (slots' := 0) M (g_invV (index := 72) S M C0 hl (c_X13_done l G H.size lo dd σ15 (σ15 220 (52 + a1).toNatClampNeg)  h17) k_X13_done tw_6_198 tw_0_29 tw_6_196 (by decide) (ge_13 rfl) rfl rfl rfl rfl rfl rfl dX13_comes_96) rfl rfl rfl (fun H locs M => ?_)
        cases hf
        exact g_iret S M hr hlk (by decide) (by decide) dX13_comes_99 rfl
      · have hf := it_n c13 hf
        refine lv_iconst (v := 1) hx hb dX13_comes_79 (by decide) ?_
        refine lv_goto (tgt := 84) hx hb dX13_comes_80 (by decide) ?_
        refine lv_iadd hx hb dX13_comes_84 ?_
        obtain ⟨h20, hf⟩ := gi_x hf
        obtain ⟨σ21, eσ21, hf⟩ := nm_x hf
        refine gk_iast (i := 220) (k := (52 + a1).toNatClampNeg) S M (by decide) (fun _ => (gaa_134 rfl)) h20 rfl dX13_comes_85 (fun H locs M => ?_)
        rw [← eσ21] at M
        refine lv_aload_n hx hb dX13_comes_86 rfl (lv_at hl 0 rfl) ?_
        refine lv_aload_n hx hb dX13_comes_87 rfl (lv_at hl 0 rfl) ?_
        refine gf_X13_0 (i := 219) S M (by decide) rfl tw_6_107 dX13_comes_88 ?_
        refine lv_bipush (v := 52) hx hb dX13_comes_91 (by decide) ?_
        refine lv_iload_n hx hb dX13_comes_93 rfl (lv_at hl 1 rfl) ?_
        refine lv_iadd hx hb dX13_comes_94 ?_
        obtain ⟨h22, hf⟩ := gi_x hf
        refine gk_iald (i := 220) (k := (52 + a1).toNatClampNeg) S M (by decide) (gaa_134 rfl) h22 rfl dX13_comes_95 ?_
        obtain ⟨r24, σ25, h23, hf⟩ := bd2_x hf
        refine g_callR (st1 := [.int r24]) (cells' := 0) (slots' := 0) M (g_invV (index := 72) S M C0 hl (c_X13_done l G H.size lo dd σ21 (σ21 220 (52 + a1).toNatClampNeg)  h23) k_X13_done tw_6_198 tw_0_29 tw_6_196 (by decide) (ge_13 rfl) rfl rfl rfl rfl rfl rfl dX13_comes_96) rfl rfl rfl (fun H locs M => ?_)
        cases hf
        exact g_iret S M hr hlk (by decide) (by decide) dX13_comes_99 rfl
    · have hf := it_n c5 hf
      refine lv_aload_n hx hb dX13_comes_27 rfl (lv_at hl 0 rfl) ?_
      refine lv_iconst (v := 2) hx hb dX13_comes_28 (by decide) ?_
      obtain ⟨r27, σ28, h26, hf⟩ := bd2_x hf
      refine g_callR (st1 := [.int r27]) (cells' := 0) (slots' := 0) M (g_invV (index := 64) S M C0 hl (c_X13_fails l G H.size lo dd σ 2  h26) k_X13_fails tw_6_186 tw_0_26 tw_6_184 (by decide) (ge_13 rfl) rfl rfl rfl rfl rfl rfl dX13_comes_29) rfl rfl rfl (fun H locs M => ?_)
      cases hf
      exact g_iret S M hr hlk (by decide) (by decide) dX13_comes_32 rfl
  · have hf := it_p c3 hf
    refine lv_aload_n hx hb dX13_comes_8 rfl (lv_at hl 0 rfl) ?_
    refine lv_iconst (v := 1) hx hb dX13_comes_9 (by decide) ?_
    obtain ⟨r30, σ31, h29, hf⟩ := bd2_x hf
    refine g_callR (st1 := [.int r30]) (cells' := 0) (slots' := 0) M (g_invV (index := 64) S M C0 hl (c_X13_fails l G H.size lo dd σ 1  h29) k_X13_fails tw_6_186 tw_0_26 tw_6_184 (by decide) (ge_13 rfl) rfl rfl rfl rfl rfl rfl dX13_comes_10) rfl rfl rfl (fun H locs M => ?_)
    cases hf
    exact g_iret S M hr hlk (by decide) (by decide) dX13_comes_13 rfl
theorem k_X13_comeBack : gMV yX13_comeBack cX13_comeBack 2 (some .int) 1 := ⟨tw_7_50, tw_1_12, by decide⟩
set_option maxHeartbeats 400000 in
set_option maxRecDepth 100000 in
theorem c_X13_comeBack (l : Launch) (G : gT) (sz : Nat) (lo : Int64) (dd : UInt64) (σ : gM) (a1 : Int32) {r : Int32} {o : gM} (hf : f_X13_comeBack σ a1 = some (r, o)) : gCT l yX13_comeBack cX13_comeBack 2 (some .int) { frames := 3, cells := 0, slots := 0, locals := 64 } 0 0 G sz [.ref (G.1 219), .int a1] lo dd σ (.inl (mkI r, o, lo, dd)) := by
  refine gCT_of (by decide) (Nat.le_of_ble_eq_true rfl) (fun p e s m args below meth c ls S hr hlk hnx hsz C0 hl H locs M => ?_)
  subst hsz
  have hx := S.1
  have hb := S.2.1
  unfold f_X13_comeBack at hf
  refine lv_aload_n hx hb dX13_comeBack_0 rfl (lv_at hl 0 rfl) ?_
  obtain ⟨σ2, h1, hf⟩ := bd_x hf
  refine g_callR (st1 := []) (cells' := 0) (slots' := 0) M (g_invV (index := 75) S M C0 hl (c_X13_begin l G H.size lo dd σ   h1) k_X13_begin tw_6_169 tw_0_24 tw_6_167 (by decide) (ge_13 rfl) rfl rfl rfl rfl rfl rfl dX13_comeBack_1) rfl rfl rfl (fun H locs M => ?_)
  refine lv_aload_n hx hb dX13_comeBack_4 rfl (lv_at hl 0 rfl) ?_
  refine lv_aload_n hx hb dX13_comeBack_5 rfl (lv_at hl 0 rfl) ?_
  refine lv_iload_n hx hb dX13_comeBack_6 rfl (lv_at hl 1 rfl) ?_
  obtain ⟨r4, σ5, h3, hf⟩ := bd2_x hf
  refine g_callR (st1 := [.int r4, .ref (G.1 219)]) (cells' := 0) (slots' := 0) M (g_invV (index := 132) S M C0 hl (c_X13_comes l G H.size lo dd σ2 a1  h3) k_X13_comes tw_7_53 tw_0_45 tw_7_51 (by decide) (ge_13 rfl) rfl rfl rfl rfl rfl rfl dX13_comeBack_7) rfl rfl rfl (fun H locs M => ?_)
  obtain ⟨r7, σ8, h6, hf⟩ := bd2_x hf
  refine g_callR (st1 := [.int r7]) (cells' := 0) (slots' := 0) M (g_invV (index := 82) S M C0 hl (c_X13_kept l G H.size lo dd σ5 r4  h6) k_X13_kept tw_6_202 tw_0_30 tw_6_200 (by decide) (ge_13 rfl) rfl rfl rfl rfl rfl rfl dX13_comeBack_10) rfl rfl rfl (fun H locs M => ?_)
  cases hf
  exact g_iret S M hr hlk (by decide) (by decide) dX13_comeBack_13 rfl
theorem k_X13_roadCount : gMV yX13_roadCount cX13_roadCount 1 (some .int) 0 := ⟨tw_7_58, tw_1_12, by decide⟩
set_option maxHeartbeats 400000 in
set_option maxRecDepth 100000 in
theorem c_X13_roadCount (l : Launch) (G : gT) (sz : Nat) (lo : Int64) (dd : UInt64) (σ : gM) {r : Int32} {o : gM} (hf : f_X13_roadCount σ = some (r, o)) : gCT l yX13_roadCount cX13_roadCount 1 (some .int) { frames := 2, cells := 0, slots := 0, locals := 45 } 0 0 G sz [.ref (G.1 219)] lo dd σ (.inl (mkI r, o, lo, dd)) := by
  refine gCT_of (by decide) (Nat.le_of_ble_eq_true rfl) (fun p e s m args below meth c ls S hr hlk hnx hsz C0 hl H locs M => ?_)
  subst hsz
  have hx := S.1
  have hb := S.2.1
  unfold f_X13_roadCount at hf
  refine lv_aload_n hx hb dX13_roadCount_0 rfl (lv_at hl 0 rfl) ?_
  refine lv_aload_n hx hb dX13_roadCount_1 rfl (lv_at hl 0 rfl) ?_
  obtain ⟨r2, h1, hf⟩ := bd_x hf
  refine g_callR (st1 := [.int r2, .ref (G.1 219)]) (cells' := 0) (slots' := 0) M (g_invV (index := 68) S M C0 hl (c_X13_roads l G H.size lo dd σ   h1) k_X13_roads tw_6_194 tw_0_28 tw_6_192 (by decide) (ge_13 rfl) rfl rfl rfl rfl rfl rfl dX13_roadCount_2) rfl rfl rfl (fun H locs M => ?_)
  obtain ⟨r4, σ5, h3, hf⟩ := bd2_x hf
  refine g_callR (st1 := [.int r4]) (cells' := 0) (slots' := 0) M (g_invV (index := 72) S M C0 hl (c_X13_done l G H.size lo dd σ r2  h3) k_X13_done tw_6_198 tw_0_29 tw_6_196 (by decide) (ge_13 rfl) rfl rfl rfl rfl rfl rfl dX13_roadCount_5) rfl rfl rfl (fun H locs M => ?_)
  cases hf
  exact g_iret S M hr hlk (by decide) (by decide) dX13_roadCount_8 rfl
theorem k_X13_roadLength : gMV yX13_roadLength cX13_roadLength 3 (some .int) 2 := ⟨tw_7_62, tw_1_12, by decide⟩
set_option maxHeartbeats 400000 in
set_option maxRecDepth 100000 in
theorem c_X13_roadLength (l : Launch) (G : gT) (sz : Nat) (lo : Int64) (dd : UInt64) (σ : gM) (a1 : Int32) (a2 : Int32) {r : Int32} {o : gM} (hf : f_X13_roadLength σ a1 a2 = some (r, o)) : gCT l yX13_roadLength cX13_roadLength 3 (some .int) { frames := 2, cells := 0, slots := 0, locals := 42 } 0 0 G sz [.ref (G.1 219), .int a1, .int a2] lo dd σ (.inl (mkI r, o, lo, dd)) := by
  refine gCT_of (by decide) (Nat.le_of_ble_eq_true rfl) (fun p e s m args below meth c ls S hr hlk hnx hsz C0 hl H locs M => ?_)
  subst hsz
  have hx := S.1
  have hb := S.2.1
  unfold f_X13_roadLength at hf
  refine lv_iload_n hx hb dX13_roadLength_0 rfl (lv_at hl 1 rfl) ?_
  obtain ⟨r2, h1, hf⟩ := bd_x hf
  refine g_callR (st1 := [.int r2]) (cells' := 0) (slots' := 0) M (g_invS (index := 60) S M C0 hl (c_X13_isPlace l G H.size lo dd σ a1  h1) k_X13_isPlace tw_6_179 tw_6_178 rfl rfl rfl rfl dX13_roadLength_1) rfl rfl rfl (fun H locs M => ?_)
  refine lv_if_eq (tgt := 14) hx hb dX13_roadLength_4 (by decide) (fun c3 => ?_) (fun c3 => ?_)
  · have hf := it_p c3 hf
    refine lv_aload_n hx hb dX13_roadLength_14 rfl (lv_at hl 0 rfl) ?_
    refine lv_iconst (v := 1) hx hb dX13_roadLength_15 (by decide) ?_
    obtain ⟨r5, σ6, h4, hf⟩ := bd2_x hf
    refine g_callR (st1 := [.int r5]) (cells' := 0) (slots' := 0) M (g_invV (index := 64) S M C0 hl (c_X13_fails l G H.size lo dd σ 1  h4) k_X13_fails tw_6_186 tw_0_26 tw_6_184 (by decide) (ge_13 rfl) rfl rfl rfl rfl rfl rfl dX13_roadLength_16) rfl rfl rfl (fun H locs M => ?_)
    cases hf
    exact g_iret S M hr hlk (by decide) (by decide) dX13_roadLength_19 rfl
  · have hf := it_n c3 hf
    refine lv_iload_n hx hb dX13_roadLength_7 rfl (lv_at hl 2 rfl) ?_
    obtain ⟨r8, h7, hf⟩ := bd_x hf
    refine g_callR (st1 := [.int r8]) (cells' := 0) (slots' := 0) M (g_invS (index := 60) S M C0 hl (c_X13_isPlace l G H.size lo dd σ a2  h7) k_X13_isPlace tw_6_179 tw_6_178 rfl rfl rfl rfl dX13_roadLength_8) rfl rfl rfl (fun H locs M => ?_)
    refine lv_if_ne (tgt := 20) hx hb dX13_roadLength_11 (by decide) (fun c9 => ?_) (fun c9 => ?_)
    · have hf := it_n c9 hf
      refine lv_aload_n hx hb dX13_roadLength_20 rfl (lv_at hl 0 rfl) ?_
      refine lv_iload_n hx hb dX13_roadLength_21 rfl (lv_at hl 1 rfl) ?_
      refine lv_iload_n hx hb dX13_roadLength_22 rfl (lv_at hl 2 rfl) ?_
      obtain ⟨r11, h10, hf⟩ := bd_x hf
      refine g_callR (st1 := [.int r11]) (cells' := 0) (slots' := 0) M (g_invV (index := 56) S M C0 hl (c_X13_road l G H.size lo dd σ a1 a2  h10) k_X13_road tw_6_190 tw_0_27 tw_6_188 (by decide) (ge_13 rfl) rfl rfl rfl rfl rfl rfl dX13_roadLength_23) rfl rfl rfl (fun H locs M => ?_)
      refine lv_if_ne (tgt := 37) hx hb dX13_roadLength_26 (by decide) (fun c12 => ?_) (fun c12 => ?_)
      · have hf := it_n c12 hf
        refine lv_aload_n hx hb dX13_roadLength_37 rfl (lv_at hl 0 rfl) ?_
        refine lv_aload_n hx hb dX13_roadLength_38 rfl (lv_at hl 0 rfl) ?_
        refine lv_iload_n hx hb dX13_roadLength_39 rfl (lv_at hl 1 rfl) ?_
        refine lv_iload_n hx hb dX13_roadLength_40 rfl (lv_at hl 2 rfl) ?_
        obtain ⟨r14, h13, hf⟩ := bd_x hf
        refine g_callR (st1 := [.int r14, .ref (G.1 219)]) (cells' := 0) (slots' := 0) M (g_invV (index := 56) S M C0 hl (c_X13_road l G H.size lo dd σ a1 a2  h13) k_X13_road tw_6_190 tw_0_27 tw_6_188 (by decide) (ge_13 rfl) rfl rfl rfl rfl rfl rfl dX13_roadLength_41) rfl rfl rfl (fun H locs M => ?_)
        obtain ⟨r16, σ17, h15, hf⟩ := bd2_x hf
        refine g_callR (st1 := [.int r16]) (cells' := 0) (slots' := 0) M (g_invV (index := 72) S M C0 hl (c_X13_done l G H.size lo dd σ r14  h15) k_X13_done tw_6_198 tw_0_29 tw_6_196 (by decide) (ge_13 rfl) rfl rfl rfl rfl rfl rfl dX13_roadLength_44) rfl rfl rfl (fun H locs M => ?_)
        cases hf
        exact g_iret S M hr hlk (by decide) (by decide) dX13_roadLength_47 rfl
      · have hf := it_p c12 hf
        refine lv_aload_n hx hb dX13_roadLength_29 rfl (lv_at hl 0 rfl) ?_
        refine lv_iconst (v := 2) hx hb dX13_roadLength_30 (by decide) ?_
        obtain ⟨r19, σ20, h18, hf⟩ := bd2_x hf
        refine g_callR (st1 := [.int r19]) (cells' := 0) (slots' := 0) M (g_invV (index := 64) S M C0 hl (c_X13_fails l G H.size lo dd σ 2  h18) k_X13_fails tw_6_186 tw_0_26 tw_6_184 (by decide) (ge_13 rfl) rfl rfl rfl rfl rfl rfl dX13_roadLength_31) rfl rfl rfl (fun H locs M => ?_)
        refine lv_goto (tgt := 47) hx hb dX13_roadLength_34 (by decide) ?_
        cases hf
        exact g_iret S M hr hlk (by decide) (by decide) dX13_roadLength_47 rfl
    · have hf := it_p c9 hf
      refine lv_aload_n hx hb dX13_roadLength_14 rfl (lv_at hl 0 rfl) ?_
      refine lv_iconst (v := 1) hx hb dX13_roadLength_15 (by decide) ?_
      obtain ⟨r22, σ23, h21, hf⟩ := bd2_x hf
      refine g_callR (st1 := [.int r22]) (cells' := 0) (slots' := 0) M (g_invV (index := 64) S M C0 hl (c_X13_fails l G H.size lo dd σ 1  h21) k_X13_fails tw_6_186 tw_0_26 tw_6_184 (by decide) (ge_13 rfl) rfl rfl rfl rfl rfl rfl dX13_roadLength_16) rfl rfl rfl (fun H locs M => ?_)
      cases hf
      exact g_iret S M hr hlk (by decide) (by decide) dX13_roadLength_19 rfl
theorem k_X13_distance : gMV yX13_distance cX13_distance 4 (some .int) 2 := ⟨tw_7_66, tw_1_12, by decide⟩
set_option maxHeartbeats 400000 in
set_option maxRecDepth 100000 in
theorem c_X13_distance (l : Launch) (G : gT) (sz : Nat) (lo : Int64) (dd : UInt64) (σ : gM) (a1 : Int32) (a2 : Int32) {r : Int32} {o : gM} (hf : f_X13_distance σ a1 a2 = some (r, o)) : gCT l yX13_distance cX13_distance 4 (some .int) { frames := 3, cells := 0, slots := 0, locals := 70 } 0 0 G sz [.ref (G.1 219), .int a1, .int a2] lo dd σ (.inl (mkI r, o, lo, dd)) := by
  refine gCT_of (by decide) (Nat.le_of_ble_eq_true rfl) (fun p e s m args below meth c ls S hr hlk hnx hsz C0 hl H locs M => ?_)
  subst hsz
  have hx := S.1
  have hb := S.2.1
  unfold f_X13_distance at hf
  refine lv_iload_n hx hb dX13_distance_0 rfl (lv_at hl 1 rfl) ?_
  obtain ⟨r2, h1, hf⟩ := bd_x hf
  refine g_callR (st1 := [.int r2]) (cells' := 0) (slots' := 0) M (g_invS (index := 60) S M C0 hl (c_X13_isPlace l G H.size lo dd σ a1  h1) k_X13_isPlace tw_6_179 tw_6_178 rfl rfl rfl rfl dX13_distance_1) rfl rfl rfl (fun H locs M => ?_)
  refine lv_if_eq (tgt := 14) hx hb dX13_distance_4 (by decide) (fun c3 => ?_) (fun c3 => ?_)
  · have hf := it_p c3 hf
    refine lv_aload_n hx hb dX13_distance_14 rfl (lv_at hl 0 rfl) ?_
    refine lv_iconst (v := 1) hx hb dX13_distance_15 (by decide) ?_
    obtain ⟨r5, σ6, h4, hf⟩ := bd2_x hf
    refine g_callR (st1 := [.int r5]) (cells' := 0) (slots' := 0) M (g_invV (index := 64) S M C0 hl (c_X13_fails l G H.size lo dd σ 1  h4) k_X13_fails tw_6_186 tw_0_26 tw_6_184 (by decide) (ge_13 rfl) rfl rfl rfl rfl rfl rfl dX13_distance_16) rfl rfl rfl (fun H locs M => ?_)
    cases hf
    exact g_iret S M hr hlk (by decide) (by decide) dX13_distance_19 rfl
  · have hf := it_n c3 hf
    refine lv_iload_n hx hb dX13_distance_7 rfl (lv_at hl 2 rfl) ?_
    obtain ⟨r8, h7, hf⟩ := bd_x hf
    refine g_callR (st1 := [.int r8]) (cells' := 0) (slots' := 0) M (g_invS (index := 60) S M C0 hl (c_X13_isPlace l G H.size lo dd σ a2  h7) k_X13_isPlace tw_6_179 tw_6_178 rfl rfl rfl rfl dX13_distance_8) rfl rfl rfl (fun H locs M => ?_)
    refine lv_if_ne (tgt := 20) hx hb dX13_distance_11 (by decide) (fun c9 => ?_) (fun c9 => ?_)
    · have hf := it_n c9 hf
      refine lv_aload_n hx hb dX13_distance_20 rfl (lv_at hl 0 rfl) ?_
      refine lv_iload_n hx hb dX13_distance_21 rfl (lv_at hl 1 rfl) ?_
      refine lv_iload_n hx hb dX13_distance_22 rfl (lv_at hl 2 rfl) ?_
      obtain ⟨r11, σ12, h10, hf⟩ := bd2_x hf
      refine g_callR (st1 := [.int r11]) (cells' := 0) (slots' := 0) M (g_invV (index := 126) S M C0 hl (c_X13_distanceOf l G H.size lo dd σ a1 a2  h10) k_X13_distanceOf tw_7_41 tw_0_43 tw_7_39 (by decide) (ge_13 rfl) rfl rfl rfl rfl rfl rfl dX13_distance_23) rfl rfl rfl (fun H locs M => ?_)
      refine lv_istore_n (lv' := [(3, .int r11), (0, .ref (G.1 219)), (1, .int a1), (2, .int a2)]) hx hb dX13_distance_26 rfl hl (by decide) rfl (fun ls hl => ?_)
      refine lv_iload_n hx hb dX13_distance_27 rfl (lv_at hl 0 rfl) ?_
      refine lv_sipush (v := 1000) hx hb dX13_distance_28 (by decide) ?_
      refine lv_icmp_ne (tgt := 42) hx hb dX13_distance_31 (by decide) (fun c13 => ?_) (fun c13 => ?_)
      · have hf := it_n c13 hf
        refine lv_aload_n hx hb dX13_distance_42 rfl (lv_at hl 1 rfl) ?_
        refine lv_iload_n hx hb dX13_distance_43 rfl (lv_at hl 0 rfl) ?_
        obtain ⟨r15, σ16, h14, hf⟩ := bd2_x hf
        refine g_callR (st1 := [.int r15]) (cells' := 0) (slots' := 0) M (g_invV (index := 72) S M C0 hl (c_X13_done l G H.size lo dd σ12 r11  h14) k_X13_done tw_6_198 tw_0_29 tw_6_196 (by decide) (ge_13 rfl) rfl rfl rfl rfl rfl rfl dX13_distance_44) rfl rfl rfl (fun H locs M => ?_)
        cases hf
        exact g_iret S M hr hlk (by decide) (by decide) dX13_distance_47 rfl
      · have hf := it_p c13 hf
        refine lv_aload_n hx hb dX13_distance_34 rfl (lv_at hl 1 rfl) ?_
        refine lv_iconst (v := 2) hx hb dX13_distance_35 (by decide) ?_
        obtain ⟨r18, σ19, h17, hf⟩ := bd2_x hf
        refine g_callR (st1 := [.int r18]) (cells' := 0) (slots' := 0) M (g_invV (index := 64) S M C0 hl (c_X13_fails l G H.size lo dd σ12 2  h17) k_X13_fails tw_6_186 tw_0_26 tw_6_184 (by decide) (ge_13 rfl) rfl rfl rfl rfl rfl rfl dX13_distance_36) rfl rfl rfl (fun H locs M => ?_)
        refine lv_goto (tgt := 47) hx hb dX13_distance_39 (by decide) ?_
        cases hf
        exact g_iret S M hr hlk (by decide) (by decide) dX13_distance_47 rfl
    · have hf := it_p c9 hf
      refine lv_aload_n hx hb dX13_distance_14 rfl (lv_at hl 0 rfl) ?_
      refine lv_iconst (v := 1) hx hb dX13_distance_15 (by decide) ?_
      obtain ⟨r21, σ22, h20, hf⟩ := bd2_x hf
      refine g_callR (st1 := [.int r21]) (cells' := 0) (slots' := 0) M (g_invV (index := 64) S M C0 hl (c_X13_fails l G H.size lo dd σ 1  h20) k_X13_fails tw_6_186 tw_0_26 tw_6_184 (by decide) (ge_13 rfl) rfl rfl rfl rfl rfl rfl dX13_distance_16) rfl rfl rfl (fun H locs M => ?_)
      cases hf
      exact g_iret S M hr hlk (by decide) (by decide) dX13_distance_19 rfl
theorem k_X13_distanceByRounds : gMV yX13_distanceByRounds cX13_distanceByRounds 3 (some .int) 2 := ⟨tw_7_70, tw_1_12, by decide⟩
set_option maxHeartbeats 400000 in
set_option maxRecDepth 100000 in
theorem c_X13_distanceByRounds (l : Launch) (G : gT) (sz : Nat) (lo : Int64) (dd : UInt64) (σ : gM) (a1 : Int32) (a2 : Int32) {r : Int32} {o : gM} (hf : f_X13_distanceByRounds σ a1 a2 = some (r, o)) : gCT l yX13_distanceByRounds cX13_distanceByRounds 3 (some .int) { frames := 4, cells := 0, slots := 0, locals := 93 } 0 0 G sz [.ref (G.1 219), .int a1, .int a2] lo dd σ (.inl (mkI r, o, lo, dd)) := by
  refine gCT_of (by decide) (Nat.le_of_ble_eq_true rfl) (fun p e s m args below meth c ls S hr hlk hnx hsz C0 hl H locs M => ?_)
  subst hsz
  have hx := S.1
  have hb := S.2.1
  unfold f_X13_distanceByRounds at hf
  refine lv_aload_n hx hb dX13_distanceByRounds_0 rfl (lv_at hl 0 rfl) ?_
  refine lv_iload_n hx hb dX13_distanceByRounds_1 rfl (lv_at hl 1 rfl) ?_
  refine lv_iload_n hx hb dX13_distanceByRounds_2 rfl (lv_at hl 2 rfl) ?_
  obtain ⟨r2, σ3, h1, hf⟩ := bd2_x hf
  refine g_callR (st1 := [.int r2]) (cells' := 0) (slots' := 0) M (g_invV (index := 135) S M C0 hl (c_X13_distance l G H.size lo dd σ a1 a2  h1) k_X13_distance tw_7_64 tw_7_65 tw_7_71 (by decide) (ge_13 rfl) rfl rfl rfl rfl rfl rfl dX13_distanceByRounds_3) rfl rfl rfl (fun H locs M => ?_)
  cases hf
  exact g_iret S M hr hlk (by decide) (by decide) dX13_distanceByRounds_6 rfl
theorem k_X13_farthestPlace : gMV yX13_farthestPlace cX13_farthestPlace 5 (some .int) 1 := ⟨tw_7_75, tw_1_12, by decide⟩
set_option maxHeartbeats 400000 in
set_option maxRecDepth 100000 in
theorem w_X13_farthestPlace_L22 {p : Program} {l : Launch} {e : Env} {s : State} {m : MethodId} {args : Array Value} {below : List Frame} {meth : Method} {c : Code} {Q : State → Prop} {G : gT} {lo : Int64} {dd : UInt64} (S : CallFix p m c cX13_farthestPlace 5 s args gTs RX13) (C0 : gCST G (gAA G s.heap.size) s) (σ : gM) : ∀ (n : Nat) (v2 : Int32) (v3 : Int32) (res : Int32), f_X13_farthestPlace_L22 σ n v2 v3 = some res → ∀ (H : Heap) (locs : List Loc) (ls : Array Slot), gMS G (gAA G s.heap.size) lo dd σ s H locs → lv_has ls 5 [(0, .ref (G.1 219)), (2, .int v2), (3, .int v3)] → (k79 : ∀ (u2 : Int32), res = u2 → ∀ (H : Heap) (locs : List Loc) (ls : Array Slot), gMS G (gAA G s.heap.size) lo dd σ s H locs → lv_has ls 5 [(0, .ref (G.1 219)), (2, .int u2)] → W p l e ({ frames := 2, cells := 0, slots := 0, locals := 48 } : Room) s m args below meth c H locs 0 0 Q (F0 m 79 ls [])) → W p l e ({ frames := 2, cells := 0, slots := 0, locals := 48 } : Room) s m args below meth c H locs 0 0 Q (F0 m 22 ls []) := by
  have hx := S.1
  have hb := S.2.1
  intro n
  induction n with
  | zero =>
    intro v2 v3 res hf
    cases hf
  | succ n ih =>
    intro v2 v3 res hf H locs ls M hl k79
    rw [f_X13_farthestPlace_L22] at hf
    refine lv_iload_n hx hb dX13_farthestPlace_22 rfl (lv_at hl 2 rfl) ?_
    refine lv_bipush (v := 6) hx hb dX13_farthestPlace_23 (by decide) ?_
    refine lv_icmp_ge (tgt := 79) hx hb dX13_farthestPlace_25 (by decide) (fun c6 => ?_) (fun c6 => ?_)
    · have hf := it_p c6 hf
      cases hf
      exact k79 _ rfl _ _ _ M (lv_sub hl [0, 1] rfl)
    · have hf := it_n c6 hf
      refine lv_aload_n hx hb dX13_farthestPlace_28 rfl (lv_at hl 0 rfl) ?_
      refine gf_X13_13 (i := 219) S M (by decide) rfl tw_6_120 dX13_farthestPlace_29 ?_
      refine lv_iload_n hx hb dX13_farthestPlace_32 rfl (lv_at hl 2 rfl) ?_
      obtain ⟨h7, hf⟩ := gi_x hf
      refine gk_iald (i := 226) (k := v3.toNatClampNeg) S M (by decide) (gaa_6 rfl) h7 rfl dX13_farthestPlace_33 ?_
      refine lv_sipush (v := 1000) hx hb dX13_farthestPlace_34 (by decide) ?_
      refine lv_icmp_ge (tgt := 59) hx hb dX13_farthestPlace_37 (by decide) (fun c8 => ?_) (fun c8 => ?_)
      · have hf := it_p c8 hf
        refine lv_iconst (v := 0) hx hb dX13_farthestPlace_59 (by decide) ?_
        refine lv_istore (lv' := [(4, .int 0), (0, .ref (G.1 219)), (2, .int v2), (3, .int v3)]) hx hb dX13_farthestPlace_60 hl (by decide) rfl (fun ls hl => ?_)
        refine lv_iload hx hb dX13_farthestPlace_62 (lv_at hl 0 rfl) ?_
        refine lv_if_eq (tgt := 71) hx hb dX13_farthestPlace_64 (by decide) (fun c9 => ?_) (fun c9 => ?_)
        · refine lv_iload_n hx hb dX13_farthestPlace_71 rfl (lv_at hl 2 rfl) ?_
          refine lv_istore_n (lv' := [(2, .int v2), (4, .int 0), (0, .ref (G.1 219)), (3, .int v3)]) hx hb dX13_farthestPlace_72 rfl hl (by decide) rfl (fun ls hl => ?_)
          obtain ⟨x10, ex10, hf⟩ := nm_x hf
          refine lv_iinc (v := x10) (lv' := [(3, .int x10), (2, .int v2), (4, .int 0), (0, .ref (G.1 219))]) hx hb dX13_farthestPlace_73 hl (k := 3) rfl (by rw [ex10]; rfl) (by decide) rfl (fun ls hl => ?_)
          refine lv_goto (tgt := 22) hx hb dX13_farthestPlace_76 (by decide) ?_
          exact ih _ _ _ hf _ _ _ M (lv_sub hl [3, 1, 0] rfl) k79
        · exact absurd c9 (by decide)
      · have hf := it_n c8 hf
        refine lv_aload_n hx hb dX13_farthestPlace_40 rfl (lv_at hl 0 rfl) ?_
        refine gf_X13_13 (i := 219) S M (by decide) rfl tw_6_120 dX13_farthestPlace_41 ?_
        refine lv_iload_n hx hb dX13_farthestPlace_44 rfl (lv_at hl 2 rfl) ?_
        obtain ⟨h11, hf⟩ := gi_x hf
        refine gk_iald (i := 226) (k := v3.toNatClampNeg) S M (by decide) (gaa_6 rfl) h11 rfl dX13_farthestPlace_45 ?_
        refine lv_aload_n hx hb dX13_farthestPlace_46 rfl (lv_at hl 0 rfl) ?_
        refine gf_X13_13 (i := 219) S M (by decide) rfl tw_6_120 dX13_farthestPlace_47 ?_
        refine lv_iload_n hx hb dX13_farthestPlace_50 rfl (lv_at hl 1 rfl) ?_
        obtain ⟨h12, hf⟩ := gi_x hf
        refine gk_iald (i := 226) (k := v2.toNatClampNeg) S M (by decide) (gaa_6 rfl) h12 rfl dX13_farthestPlace_51 ?_
        refine lv_icmp_le (tgt := 59) hx hb dX13_farthestPlace_52 (by decide) (fun c13 => ?_) (fun c13 => ?_)
        · have hf := it_p c13 hf
          refine lv_iconst (v := 0) hx hb dX13_farthestPlace_59 (by decide) ?_
          refine lv_istore (lv' := [(4, .int 0), (0, .ref (G.1 219)), (2, .int v2), (3, .int v3)]) hx hb dX13_farthestPlace_60 hl (by decide) rfl (fun ls hl => ?_)
          refine lv_iload hx hb dX13_farthestPlace_62 (lv_at hl 0 rfl) ?_
          refine lv_if_eq (tgt := 71) hx hb dX13_farthestPlace_64 (by decide) (fun c14 => ?_) (fun c14 => ?_)
          · refine lv_iload_n hx hb dX13_farthestPlace_71 rfl (lv_at hl 2 rfl) ?_
            refine lv_istore_n (lv' := [(2, .int v2), (4, .int 0), (0, .ref (G.1 219)), (3, .int v3)]) hx hb dX13_farthestPlace_72 rfl hl (by decide) rfl (fun ls hl => ?_)
            obtain ⟨x15, ex15, hf⟩ := nm_x hf
            refine lv_iinc (v := x15) (lv' := [(3, .int x15), (2, .int v2), (4, .int 0), (0, .ref (G.1 219))]) hx hb dX13_farthestPlace_73 hl (k := 3) rfl (by rw [ex15]; rfl) (by decide) rfl (fun ls hl => ?_)
            refine lv_goto (tgt := 22) hx hb dX13_farthestPlace_76 (by decide) ?_
            exact ih _ _ _ hf _ _ _ M (lv_sub hl [3, 1, 0] rfl) k79
          · exact absurd c14 (by decide)
        · have hf := it_n c13 hf
          refine lv_iconst (v := 1) hx hb dX13_farthestPlace_55 (by decide) ?_
          refine lv_goto (tgt := 60) hx hb dX13_farthestPlace_56 (by decide) ?_
          refine lv_istore (lv' := [(4, .int 1), (0, .ref (G.1 219)), (2, .int v2), (3, .int v3)]) hx hb dX13_farthestPlace_60 hl (by decide) rfl (fun ls hl => ?_)
          refine lv_iload hx hb dX13_farthestPlace_62 (lv_at hl 0 rfl) ?_
          refine lv_if_eq (tgt := 71) hx hb dX13_farthestPlace_64 (by decide) (fun c16 => ?_) (fun c16 => ?_)
          · exact absurd c16 (by decide)
          · refine lv_iload_n hx hb dX13_farthestPlace_67 rfl (lv_at hl 3 rfl) ?_
            refine lv_goto (tgt := 72) hx hb dX13_farthestPlace_68 (by decide) ?_
            refine lv_istore_n (lv' := [(2, .int v3), (4, .int 1), (0, .ref (G.1 219)), (3, .int v3)]) hx hb dX13_farthestPlace_72 rfl hl (by decide) rfl (fun ls hl => ?_)
            obtain ⟨x17, ex17, hf⟩ := nm_x hf
            refine lv_iinc (v := x17) (lv' := [(3, .int x17), (2, .int v3), (4, .int 1), (0, .ref (G.1 219))]) hx hb dX13_farthestPlace_73 hl (k := 3) rfl (by rw [ex17]; rfl) (by decide) rfl (fun ls hl => ?_)
            refine lv_goto (tgt := 22) hx hb dX13_farthestPlace_76 (by decide) ?_
            exact ih _ _ _ hf _ _ _ M (lv_sub hl [3, 1, 0] rfl) k79
set_option maxHeartbeats 400000 in
set_option maxRecDepth 100000 in
theorem c_X13_farthestPlace (l : Launch) (G : gT) (sz : Nat) (lo : Int64) (dd : UInt64) (σ : gM) (a1 : Int32) {r : Int32} {o : gM} (hf : f_X13_farthestPlace σ a1 = some (r, o)) : gCT l yX13_farthestPlace cX13_farthestPlace 5 (some .int) { frames := 2, cells := 0, slots := 0, locals := 48 } 0 0 G sz [.ref (G.1 219), .int a1] lo dd σ (.inl (mkI r, o, lo, dd)) := by
  refine gCT_of (by decide) (Nat.le_of_ble_eq_true rfl) (fun p e s m args below meth c ls S hr hlk hnx hsz C0 hl H locs M => ?_)
  subst hsz
  have hx := S.1
  have hb := S.2.1
  unfold f_X13_farthestPlace at hf
  refine lv_iload_n hx hb dX13_farthestPlace_0 rfl (lv_at hl 1 rfl) ?_
  obtain ⟨r2, h1, hf⟩ := bd_x hf
  refine g_callR (st1 := [.int r2]) (cells' := 0) (slots' := 0) M (g_invS (index := 60) S M C0 hl (c_X13_isPlace l G H.size lo dd σ a1  h1) k_X13_isPlace tw_6_179 tw_6_178 rfl rfl rfl rfl dX13_farthestPlace_1) rfl rfl rfl (fun H locs M => ?_)
  refine lv_if_ne (tgt := 13) hx hb dX13_farthestPlace_4 (by decide) (fun c3 => ?_) (fun c3 => ?_)
  · have hf := it_n c3 hf
    refine lv_aload_n hx hb dX13_farthestPlace_13 rfl (lv_at hl 0 rfl) ?_
    refine lv_iload_n hx hb dX13_farthestPlace_14 rfl (lv_at hl 1 rfl) ?_
    obtain ⟨σ5, h4, hf⟩ := bd_x hf
    refine g_callR (st1 := []) (cells' := 0) (slots' := 0) M (g_invV (index := 85) S M C0 hl (c_X13_explores l G H.size lo dd σ a1  h4) k_X13_explores tw_7_45 tw_0_44 tw_7_43 (by decide) (ge_13 rfl) rfl rfl rfl rfl rfl rfl dX13_farthestPlace_15) rfl rfl rfl (fun H locs M => ?_)
    refine lv_iload_n hx hb dX13_farthestPlace_18 rfl (lv_at hl 1 rfl) ?_
    refine lv_istore_n (lv' := [(2, .int a1), (0, .ref (G.1 219)), (1, .int a1)]) hx hb dX13_farthestPlace_19 rfl hl (by decide) rfl (fun ls hl => ?_)
    refine lv_iconst (v := 0) hx hb dX13_farthestPlace_20 (by decide) ?_
    refine lv_istore_n (lv' := [(3, .int 0), (2, .int a1), (0, .ref (G.1 219)), (1, .int a1)]) hx hb dX13_farthestPlace_21 rfl hl (by decide) rfl (fun ls hl => ?_)
    obtain ⟨y19, h18, hf⟩ := bd_x hf
    refine w_X13_farthestPlace_L22 S C0 σ5 gFU a1 0 _ h18 _ _ _ M (lv_sub hl [2, 1, 0] rfl) (fun _ eq H locs ls M hl => ?_)
    cases eq
    refine lv_aload_n hx hb dX13_farthestPlace_79 rfl (lv_at hl 0 rfl) ?_
    refine lv_iload_n hx hb dX13_farthestPlace_80 rfl (lv_at hl 1 rfl) ?_
    obtain ⟨r21, σ22, h20, hf⟩ := bd2_x hf
    refine g_callR (st1 := [.int r21]) (cells' := 0) (slots' := 0) M (g_invV (index := 72) S M C0 hl (c_X13_done l G H.size lo dd σ5 y19  h20) k_X13_done tw_6_198 tw_0_29 tw_6_196 (by decide) (ge_13 rfl) rfl rfl rfl rfl rfl rfl dX13_farthestPlace_81) rfl rfl rfl (fun H locs M => ?_)
    cases hf
    exact g_iret S M hr hlk (by decide) (by decide) dX13_farthestPlace_84 rfl
  · have hf := it_p c3 hf
    refine lv_aload_n hx hb dX13_farthestPlace_7 rfl (lv_at hl 0 rfl) ?_
    refine lv_iconst (v := 1) hx hb dX13_farthestPlace_8 (by decide) ?_
    obtain ⟨r24, σ25, h23, hf⟩ := bd2_x hf
    refine g_callR (st1 := [.int r24]) (cells' := 0) (slots' := 0) M (g_invV (index := 64) S M C0 hl (c_X13_fails l G H.size lo dd σ 1  h23) k_X13_fails tw_6_186 tw_0_26 tw_6_184 (by decide) (ge_13 rfl) rfl rfl rfl rfl rfl rfl dX13_farthestPlace_9) rfl rfl rfl (fun H locs M => ?_)
    cases hf
    exact g_iret S M hr hlk (by decide) (by decide) dX13_farthestPlace_12 rfl
theorem k_X13_parcelCount : gMV yX13_parcelCount cX13_parcelCount 1 (some .int) 0 := ⟨tw_7_79, tw_1_12, by decide⟩
set_option maxHeartbeats 400000 in
set_option maxRecDepth 100000 in
theorem c_X13_parcelCount (l : Launch) (G : gT) (sz : Nat) (lo : Int64) (dd : UInt64) (σ : gM) {r : Int32} {o : gM} (hf : f_X13_parcelCount σ = some (r, o)) : gCT l yX13_parcelCount cX13_parcelCount 1 (some .int) { frames := 1, cells := 0, slots := 0, locals := 21 } 0 0 G sz [.ref (G.1 219)] lo dd σ (.inl (mkI r, o, lo, dd)) := by
  refine gCT_of (by decide) (Nat.le_of_ble_eq_true rfl) (fun p e s m args below meth c ls S hr hlk hnx hsz C0 hl H locs M => ?_)
  subst hsz
  have hx := S.1
  have hb := S.2.1
  unfold f_X13_parcelCount at hf
  refine lv_aload_n hx hb dX13_parcelCount_0 rfl (lv_at hl 0 rfl) ?_
  refine lv_aload_n hx hb dX13_parcelCount_1 rfl (lv_at hl 0 rfl) ?_
  refine gf_X13_0 (i := 219) S M (by decide) rfl tw_6_107 dX13_parcelCount_2 ?_
  refine lv_bipush (v := 36) hx hb dX13_parcelCount_5 (by decide) ?_
  refine gk_iald (i := 220) (k := 36) S M (by decide) (gaa_134 rfl) (by unfold vp_in; decide) (by decide) dX13_parcelCount_7 ?_
  obtain ⟨r2, σ3, h1, hf⟩ := bd2_x hf
  refine g_callR (st1 := [.int r2]) (cells' := 0) (slots' := 0) M (g_invV (index := 72) S M C0 hl (c_X13_done l G H.size lo dd σ (σ 220 36)  h1) k_X13_done tw_6_198 tw_0_29 tw_6_196 (by decide) (ge_13 rfl) rfl rfl rfl rfl rfl rfl dX13_parcelCount_8) rfl rfl rfl (fun H locs M => ?_)
  cases hf
  exact g_iret S M hr hlk (by decide) (by decide) dX13_parcelCount_11 rfl
theorem k_X13_parcelNumber : gMV yX13_parcelNumber cX13_parcelNumber 3 (some .int) 2 := ⟨tw_7_87, tw_1_12, by decide⟩
set_option maxHeartbeats 400000 in
set_option maxRecDepth 100000 in
theorem c_X13_parcelNumber (l : Launch) (G : gT) (sz : Nat) (lo : Int64) (dd : UInt64) (σ : gM) (a1 : Int32) (a2 : Int32) {r : Int32} {o : gM} (hf : f_X13_parcelNumber σ a1 a2 = some (r, o)) : gCT l yX13_parcelNumber cX13_parcelNumber 3 (some .int) { frames := 2, cells := 0, slots := 0, locals := 43 } 0 0 G sz [.ref (G.1 219), .int a1, .int a2] lo dd σ (.inl (mkI r, o, lo, dd)) := by
  refine gCT_of (by decide) (Nat.le_of_ble_eq_true rfl) (fun p e s m args below meth c ls S hr hlk hnx hsz C0 hl H locs M => ?_)
  subst hsz
  have hx := S.1
  have hb := S.2.1
  unfold f_X13_parcelNumber at hf
  refine lv_aload_n hx hb dX13_parcelNumber_0 rfl (lv_at hl 0 rfl) ?_
  refine lv_iload_n hx hb dX13_parcelNumber_1 rfl (lv_at hl 2 rfl) ?_
  obtain ⟨r2, h1, hf⟩ := bd_x hf
  refine g_callR (st1 := [.int r2]) (cells' := 0) (slots' := 0) M (g_invV (index := 111) S M C0 hl (c_X13_isParcel l G H.size lo dd σ a2  h1) k_X13_isParcel tw_7_5 tw_0_36 tw_7_3 (by decide) (ge_13 rfl) rfl rfl rfl rfl rfl rfl dX13_parcelNumber_2) rfl rfl rfl (fun H locs M => ?_)
  refine lv_if_eq (tgt := 23) hx hb dX13_parcelNumber_5 (by decide) (fun c3 => ?_) (fun c3 => ?_)
  · have hf := it_p c3 hf
    refine lv_aload_n hx hb dX13_parcelNumber_23 rfl (lv_at hl 0 rfl) ?_
    refine lv_iconst (v := 1) hx hb dX13_parcelNumber_24 (by decide) ?_
    obtain ⟨r5, σ6, h4, hf⟩ := bd2_x hf
    refine g_callR (st1 := [.int r5]) (cells' := 0) (slots' := 0) M (g_invV (index := 64) S M C0 hl (c_X13_fails l G H.size lo dd σ 1  h4) k_X13_fails tw_6_186 tw_0_26 tw_6_184 (by decide) (ge_13 rfl) rfl rfl rfl rfl rfl rfl dX13_parcelNumber_25) rfl rfl rfl (fun H locs M => ?_)
    cases hf
    exact g_iret S M hr hlk (by decide) (by decide) dX13_parcelNumber_28 rfl
  · have hf := it_n c3 hf
    refine lv_aload_n hx hb dX13_parcelNumber_8 rfl (lv_at hl 0 rfl) ?_
    refine lv_aload_n hx hb dX13_parcelNumber_9 rfl (lv_at hl 0 rfl) ?_
    refine gf_X13_0 (i := 219) S M (by decide) rfl tw_6_107 dX13_parcelNumber_10 ?_
    refine lv_iload_n hx hb dX13_parcelNumber_13 rfl (lv_at hl 1 rfl) ?_
    refine lv_iload_n hx hb dX13_parcelNumber_14 rfl (lv_at hl 2 rfl) ?_
    refine lv_iadd hx hb dX13_parcelNumber_15 ?_
    obtain ⟨h7, hf⟩ := gi_x hf
    refine gk_iald (i := 220) (k := (a1 + a2).toNatClampNeg) S M (by decide) (gaa_134 rfl) h7 rfl dX13_parcelNumber_16 ?_
    obtain ⟨r9, σ10, h8, hf⟩ := bd2_x hf
    refine g_callR (st1 := [.int r9]) (cells' := 0) (slots' := 0) M (g_invV (index := 72) S M C0 hl (c_X13_done l G H.size lo dd σ (σ 220 (a1 + a2).toNatClampNeg)  h8) k_X13_done tw_6_198 tw_0_29 tw_6_196 (by decide) (ge_13 rfl) rfl rfl rfl rfl rfl rfl dX13_parcelNumber_17) rfl rfl rfl (fun H locs M => ?_)
    refine lv_goto (tgt := 28) hx hb dX13_parcelNumber_20 (by decide) ?_
    cases hf
    exact g_iret S M hr hlk (by decide) (by decide) dX13_parcelNumber_28 rfl
theorem k_X13_weight : gMV yX13_weight cX13_weight 2 (some .int) 1 := ⟨tw_7_83, tw_1_12, by decide⟩
set_option maxHeartbeats 400000 in
set_option maxRecDepth 100000 in
theorem c_X13_weight (l : Launch) (G : gT) (sz : Nat) (lo : Int64) (dd : UInt64) (σ : gM) (a1 : Int32) {r : Int32} {o : gM} (hf : f_X13_weight σ a1 = some (r, o)) : gCT l yX13_weight cX13_weight 2 (some .int) { frames := 3, cells := 0, slots := 0, locals := 65 } 0 0 G sz [.ref (G.1 219), .int a1] lo dd σ (.inl (mkI r, o, lo, dd)) := by
  refine gCT_of (by decide) (Nat.le_of_ble_eq_true rfl) (fun p e s m args below meth c ls S hr hlk hnx hsz C0 hl H locs M => ?_)
  subst hsz
  have hx := S.1
  have hb := S.2.1
  unfold f_X13_weight at hf
  refine lv_aload_n hx hb dX13_weight_0 rfl (lv_at hl 0 rfl) ?_
  refine lv_bipush (v := 40) hx hb dX13_weight_1 (by decide) ?_
  refine lv_iload_n hx hb dX13_weight_3 rfl (lv_at hl 1 rfl) ?_
  obtain ⟨r2, σ3, h1, hf⟩ := bd2_x hf
  refine g_callR (st1 := [.int r2]) (cells' := 0) (slots' := 0) M (g_invV (index := 138) S M C0 hl (c_X13_parcelNumber l G H.size lo dd σ 40 a1  h1) k_X13_parcelNumber tw_7_86 tw_0_46 tw_7_84 (by decide) (ge_13 rfl) rfl rfl rfl rfl rfl rfl dX13_weight_4) rfl rfl rfl (fun H locs M => ?_)
  cases hf
  exact g_iret S M hr hlk (by decide) (by decide) dX13_weight_7 rfl
theorem k_X13_hazard : gMV yX13_hazard cX13_hazard 2 (some .int) 1 := ⟨tw_7_91, tw_1_12, by decide⟩
set_option maxHeartbeats 400000 in
set_option maxRecDepth 100000 in
theorem c_X13_hazard (l : Launch) (G : gT) (sz : Nat) (lo : Int64) (dd : UInt64) (σ : gM) (a1 : Int32) {r : Int32} {o : gM} (hf : f_X13_hazard σ a1 = some (r, o)) : gCT l yX13_hazard cX13_hazard 2 (some .int) { frames := 3, cells := 0, slots := 0, locals := 65 } 0 0 G sz [.ref (G.1 219), .int a1] lo dd σ (.inl (mkI r, o, lo, dd)) := by
  refine gCT_of (by decide) (Nat.le_of_ble_eq_true rfl) (fun p e s m args below meth c ls S hr hlk hnx hsz C0 hl H locs M => ?_)
  subst hsz
  have hx := S.1
  have hb := S.2.1
  unfold f_X13_hazard at hf
  refine lv_aload_n hx hb dX13_hazard_0 rfl (lv_at hl 0 rfl) ?_
  refine lv_bipush (v := 52) hx hb dX13_hazard_1 (by decide) ?_
  refine lv_iload_n hx hb dX13_hazard_3 rfl (lv_at hl 1 rfl) ?_
  obtain ⟨r2, σ3, h1, hf⟩ := bd2_x hf
  refine g_callR (st1 := [.int r2]) (cells' := 0) (slots' := 0) M (g_invV (index := 138) S M C0 hl (c_X13_parcelNumber l G H.size lo dd σ 52 a1  h1) k_X13_parcelNumber tw_7_86 tw_0_46 tw_7_84 (by decide) (ge_13 rfl) rfl rfl rfl rfl rfl rfl dX13_hazard_4) rfl rfl rfl (fun H locs M => ?_)
  cases hf
  exact g_iret S M hr hlk (by decide) (by decide) dX13_hazard_7 rfl
theorem k_X13_destination : gMV yX13_destination cX13_destination 2 (some .int) 1 := ⟨tw_7_95, tw_1_12, by decide⟩
set_option maxHeartbeats 400000 in
set_option maxRecDepth 100000 in
theorem c_X13_destination (l : Launch) (G : gT) (sz : Nat) (lo : Int64) (dd : UInt64) (σ : gM) (a1 : Int32) {r : Int32} {o : gM} (hf : f_X13_destination σ a1 = some (r, o)) : gCT l yX13_destination cX13_destination 2 (some .int) { frames := 3, cells := 0, slots := 0, locals := 65 } 0 0 G sz [.ref (G.1 219), .int a1] lo dd σ (.inl (mkI r, o, lo, dd)) := by
  refine gCT_of (by decide) (Nat.le_of_ble_eq_true rfl) (fun p e s m args below meth c ls S hr hlk hnx hsz C0 hl H locs M => ?_)
  subst hsz
  have hx := S.1
  have hb := S.2.1
  unfold f_X13_destination at hf
  refine lv_aload_n hx hb dX13_destination_0 rfl (lv_at hl 0 rfl) ?_
  refine lv_bipush (v := 64) hx hb dX13_destination_1 (by decide) ?_
  refine lv_iload_n hx hb dX13_destination_3 rfl (lv_at hl 1 rfl) ?_
  obtain ⟨r2, σ3, h1, hf⟩ := bd2_x hf
  refine g_callR (st1 := [.int r2]) (cells' := 0) (slots' := 0) M (g_invV (index := 138) S M C0 hl (c_X13_parcelNumber l G H.size lo dd σ 64 a1  h1) k_X13_parcelNumber tw_7_86 tw_0_46 tw_7_84 (by decide) (ge_13 rfl) rfl rfl rfl rfl rfl rfl dX13_destination_4) rfl rfl rfl (fun H locs M => ?_)
  cases hf
  exact g_iret S M hr hlk (by decide) (by decide) dX13_destination_7 rfl
theorem k_X13_state : gMV yX13_state cX13_state 3 (some .char) 1 := ⟨tw_7_99, tw_1_12, by decide⟩
set_option maxHeartbeats 400000 in
set_option maxRecDepth 100000 in
theorem c_X13_state (l : Launch) (G : gT) (sz : Nat) (lo : Int64) (dd : UInt64) (σ : gM) (a1 : Int32) {r : Int32} {o : gM} (hf : f_X13_state σ a1 = some (r, o)) : gCT l yX13_state cX13_state 3 (some .char) { frames := 3, cells := 0, slots := 0, locals := 65 } 0 0 G sz [.ref (G.1 219), .int a1] lo dd σ (.inl (mkI r, o, lo, dd)) := by
  refine gCT_of (by decide) (Nat.le_of_ble_eq_true rfl) (fun p e s m args below meth c ls S hr hlk hnx hsz C0 hl H locs M => ?_)
  subst hsz
  have hx := S.1
  have hb := S.2.1
  unfold f_X13_state at hf
  refine lv_aload_n hx hb dX13_state_0 rfl (lv_at hl 0 rfl) ?_
  refine lv_bipush (v := 76) hx hb dX13_state_1 (by decide) ?_
  refine lv_iload_n hx hb dX13_state_3 rfl (lv_at hl 1 rfl) ?_
  obtain ⟨r2, σ3, h1, hf⟩ := bd2_x hf
  refine g_callR (st1 := [.int r2]) (cells' := 0) (slots' := 0) M (g_invV (index := 138) S M C0 hl (c_X13_parcelNumber l G H.size lo dd σ 76 a1  h1) k_X13_parcelNumber tw_7_86 tw_0_46 tw_7_84 (by decide) (ge_13 rfl) rfl rfl rfl rfl rfl rfl dX13_state_4) rfl rfl rfl (fun H locs M => ?_)
  refine lv_istore_n (lv' := [(2, .int r2), (0, .ref (G.1 219)), (1, .int a1)]) hx hb dX13_state_7 rfl hl (by decide) rfl (fun ls hl => ?_)
  refine lv_aload_n hx hb dX13_state_8 rfl (lv_at hl 1 rfl) ?_
  refine gf_X13_12 (i := 219) S M (by decide) rfl tw_6_119 dX13_state_9 ?_
  refine lv_if_le (tgt := 19) hx hb dX13_state_12 (by decide) (fun c4 => ?_) (fun c4 => ?_)
  · have hf := it_p c4 hf
    refine lv_iload_n hx hb dX13_state_19 rfl (lv_at hl 0 rfl) ?_
    refine lv_if_ne (tgt := 28) hx hb dX13_state_20 (by decide) (fun c5 => ?_) (fun c5 => ?_)
    · have hf := it_n c5 hf
      refine lv_iload_n hx hb dX13_state_28 rfl (lv_at hl 0 rfl) ?_
      refine lv_iconst (v := 1) hx hb dX13_state_29 (by decide) ?_
      refine lv_icmp_ne (tgt := 38) hx hb dX13_state_30 (by decide) (fun c6 => ?_) (fun c6 => ?_)
      · have hf := it_n c6 hf
        refine lv_bipush (v := 100) hx hb dX13_state_38 (by decide) ?_
        cases hf
        exact g_zret S M hr hlk (by decide) (by decide) (by decide) dX13_state_40 rfl
      · have hf := it_p c6 hf
        refine lv_bipush (v := 115) hx hb dX13_state_33 (by decide) ?_
        refine lv_goto (tgt := 40) hx hb dX13_state_35 (by decide) ?_
        cases hf
        exact g_zret S M hr hlk (by decide) (by decide) (by decide) dX13_state_40 rfl
    · have hf := it_p c5 hf
      refine lv_bipush (v := 119) hx hb dX13_state_23 (by decide) ?_
      refine lv_goto (tgt := 40) hx hb dX13_state_25 (by decide) ?_
      cases hf
      exact g_zret S M hr hlk (by decide) (by decide) (by decide) dX13_state_40 rfl
  · have hf := it_n c4 hf
    refine lv_iconst (v := 0) hx hb dX13_state_15 (by decide) ?_
    refine lv_goto (tgt := 40) hx hb dX13_state_16 (by decide) ?_
    cases hf
    exact g_zret S M hr hlk (by decide) (by decide) (by decide) dX13_state_40 rfl
theorem k_X13_sackOf : gMV yX13_sackOf cX13_sackOf 2 (some .int) 1 := ⟨tw_7_103, tw_1_12, by decide⟩
set_option maxHeartbeats 400000 in
set_option maxRecDepth 100000 in
theorem c_X13_sackOf (l : Launch) (G : gT) (sz : Nat) (lo : Int64) (dd : UInt64) (σ : gM) (a1 : Int32) {r : Int32} {o : gM} (hf : f_X13_sackOf σ a1 = some (r, o)) : gCT l yX13_sackOf cX13_sackOf 2 (some .int) { frames := 2, cells := 0, slots := 0, locals := 43 } 0 0 G sz [.ref (G.1 219), .int a1] lo dd σ (.inl (mkI r, o, lo, dd)) := by
  refine gCT_of (by decide) (Nat.le_of_ble_eq_true rfl) (fun p e s m args below meth c ls S hr hlk hnx hsz C0 hl H locs M => ?_)
  subst hsz
  have hx := S.1
  have hb := S.2.1
  unfold f_X13_sackOf at hf
  refine lv_aload_n hx hb dX13_sackOf_0 rfl (lv_at hl 0 rfl) ?_
  refine lv_iload_n hx hb dX13_sackOf_1 rfl (lv_at hl 1 rfl) ?_
  obtain ⟨r2, h1, hf⟩ := bd_x hf
  refine g_callR (st1 := [.int r2]) (cells' := 0) (slots' := 0) M (g_invV (index := 111) S M C0 hl (c_X13_isParcel l G H.size lo dd σ a1  h1) k_X13_isParcel tw_7_5 tw_0_36 tw_7_3 (by decide) (ge_13 rfl) rfl rfl rfl rfl rfl rfl dX13_sackOf_2) rfl rfl rfl (fun H locs M => ?_)
  refine lv_if_ne (tgt := 14) hx hb dX13_sackOf_5 (by decide) (fun c3 => ?_) (fun c3 => ?_)
  · have hf := it_n c3 hf
    refine lv_aload_n hx hb dX13_sackOf_14 rfl (lv_at hl 0 rfl) ?_
    refine gf_X13_0 (i := 219) S M (by decide) rfl tw_6_107 dX13_sackOf_15 ?_
    refine lv_bipush (v := 76) hx hb dX13_sackOf_18 (by decide) ?_
    refine lv_iload_n hx hb dX13_sackOf_20 rfl (lv_at hl 1 rfl) ?_
    refine lv_iadd hx hb dX13_sackOf_21 ?_
    obtain ⟨h4, hf⟩ := gi_x hf
    refine gk_iald (i := 220) (k := (76 + a1).toNatClampNeg) S M (by decide) (gaa_134 rfl) h4 rfl dX13_sackOf_22 ?_
    refine lv_iconst (v := 1) hx hb dX13_sackOf_23 (by decide) ?_
    refine lv_icmp_ne (tgt := 43) hx hb dX13_sackOf_24 (by decide) (fun c5 => ?_) (fun c5 => ?_)
    · have hf := it_n c5 hf
      refine lv_aload_n hx hb dX13_sackOf_43 rfl (lv_at hl 0 rfl) ?_
      refine lv_iconst (v := 2) hx hb dX13_sackOf_44 (by decide) ?_
      obtain ⟨r7, σ8, h6, hf⟩ := bd2_x hf
      refine g_callR (st1 := [.int r7]) (cells' := 0) (slots' := 0) M (g_invV (index := 64) S M C0 hl (c_X13_fails l G H.size lo dd σ 2  h6) k_X13_fails tw_6_186 tw_0_26 tw_6_184 (by decide) (ge_13 rfl) rfl rfl rfl rfl rfl rfl dX13_sackOf_45) rfl rfl rfl (fun H locs M => ?_)
      cases hf
      exact g_iret S M hr hlk (by decide) (by decide) dX13_sackOf_48 rfl
    · have hf := it_p c5 hf
      refine lv_aload_n hx hb dX13_sackOf_27 rfl (lv_at hl 0 rfl) ?_
      refine lv_aload_n hx hb dX13_sackOf_28 rfl (lv_at hl 0 rfl) ?_
      refine gf_X13_0 (i := 219) S M (by decide) rfl tw_6_107 dX13_sackOf_29 ?_
      refine lv_bipush (v := 88) hx hb dX13_sackOf_32 (by decide) ?_
      refine lv_iload_n hx hb dX13_sackOf_34 rfl (lv_at hl 1 rfl) ?_
      refine lv_iadd hx hb dX13_sackOf_35 ?_
      obtain ⟨h9, hf⟩ := gi_x hf
      refine gk_iald (i := 220) (k := (88 + a1).toNatClampNeg) S M (by decide) (gaa_134 rfl) h9 rfl dX13_sackOf_36 ?_
      obtain ⟨r11, σ12, h10, hf⟩ := bd2_x hf
      refine g_callR (st1 := [.int r11]) (cells' := 0) (slots' := 0) M (g_invV (index := 72) S M C0 hl (c_X13_done l G H.size lo dd σ (σ 220 (88 + a1).toNatClampNeg)  h10) k_X13_done tw_6_198 tw_0_29 tw_6_196 (by decide) (ge_13 rfl) rfl rfl rfl rfl rfl rfl dX13_sackOf_37) rfl rfl rfl (fun H locs M => ?_)
      refine lv_goto (tgt := 48) hx hb dX13_sackOf_40 (by decide) ?_
      cases hf
      exact g_iret S M hr hlk (by decide) (by decide) dX13_sackOf_48 rfl
  · have hf := it_p c3 hf
    refine lv_aload_n hx hb dX13_sackOf_8 rfl (lv_at hl 0 rfl) ?_
    refine lv_iconst (v := 1) hx hb dX13_sackOf_9 (by decide) ?_
    obtain ⟨r14, σ15, h13, hf⟩ := bd2_x hf
    refine g_callR (st1 := [.int r14]) (cells' := 0) (slots' := 0) M (g_invV (index := 64) S M C0 hl (c_X13_fails l G H.size lo dd σ 1  h13) k_X13_fails tw_6_186 tw_0_26 tw_6_184 (by decide) (ge_13 rfl) rfl rfl rfl rfl rfl rfl dX13_sackOf_10) rfl rfl rfl (fun H locs M => ?_)
    cases hf
    exact g_iret S M hr hlk (by decide) (by decide) dX13_sackOf_13 rfl
theorem k_X13_returns : gMV yX13_returns cX13_returns 2 (some .int) 1 := ⟨tw_7_107, tw_1_12, by decide⟩
set_option maxHeartbeats 400000 in
set_option maxRecDepth 100000 in
theorem c_X13_returns (l : Launch) (G : gT) (sz : Nat) (lo : Int64) (dd : UInt64) (σ : gM) (a1 : Int32) {r : Int32} {o : gM} (hf : f_X13_returns σ a1 = some (r, o)) : gCT l yX13_returns cX13_returns 2 (some .int) { frames := 3, cells := 0, slots := 0, locals := 65 } 0 0 G sz [.ref (G.1 219), .int a1] lo dd σ (.inl (mkI r, o, lo, dd)) := by
  refine gCT_of (by decide) (Nat.le_of_ble_eq_true rfl) (fun p e s m args below meth c ls S hr hlk hnx hsz C0 hl H locs M => ?_)
  subst hsz
  have hx := S.1
  have hb := S.2.1
  unfold f_X13_returns at hf
  refine lv_aload_n hx hb dX13_returns_0 rfl (lv_at hl 0 rfl) ?_
  refine lv_bipush (v := 100) hx hb dX13_returns_1 (by decide) ?_
  refine lv_iload_n hx hb dX13_returns_3 rfl (lv_at hl 1 rfl) ?_
  obtain ⟨r2, σ3, h1, hf⟩ := bd2_x hf
  refine g_callR (st1 := [.int r2]) (cells' := 0) (slots' := 0) M (g_invV (index := 138) S M C0 hl (c_X13_parcelNumber l G H.size lo dd σ 100 a1  h1) k_X13_parcelNumber tw_7_86 tw_0_46 tw_7_84 (by decide) (ge_13 rfl) rfl rfl rfl rfl rfl rfl dX13_returns_4) rfl rfl rfl (fun H locs M => ?_)
  cases hf
  exact g_iret S M hr hlk (by decide) (by decide) dX13_returns_7 rfl
theorem k_X13_inState : gMV yX13_inState cX13_inState 4 (some .int) 1 := ⟨tw_7_115, tw_1_12, by decide⟩
set_option maxHeartbeats 400000 in
set_option maxRecDepth 100000 in
theorem w_X13_inState_L4 {p : Program} {l : Launch} {e : Env} {s : State} {m : MethodId} {args : Array Value} {below : List Frame} {meth : Method} {c : Code} {Q : State → Prop} {G : gT} {lo : Int64} {dd : UInt64} (S : CallFix p m c cX13_inState 4 s args gTs RX13) (C0 : gCST G (gAA G s.heap.size) s) (p1 : Int32) (σ : gM) : ∀ (n : Nat) (v2 : Int32) (v3 : Int32) (res : Int32), f_X13_inState_L4 p1 σ n v2 v3 = some res → ∀ (H : Heap) (locs : List Loc) (ls : Array Slot), gMS G (gAA G s.heap.size) lo dd σ s H locs → lv_has ls 4 [(0, .ref (G.1 219)), (1, .int p1), (2, .int v2), (3, .int v3)] → (k42 : ∀ (u2 : Int32), res = u2 → ∀ (H : Heap) (locs : List Loc) (ls : Array Slot), gMS G (gAA G s.heap.size) lo dd σ s H locs → lv_has ls 4 [(2, .int u2)] → W p l e ({ frames := 0, cells := 0, slots := 0, locals := 0 } : Room) s m args below meth c H locs 0 0 Q (F0 m 42 ls [])) → W p l e ({ frames := 0, cells := 0, slots := 0, locals := 0 } : Room) s m args below meth c H locs 0 0 Q (F0 m 4 ls []) := by
  have hx := S.1
  have hb := S.2.1
  intro n
  induction n with
  | zero =>
    intro v2 v3 res hf
    cases hf
  | succ n ih =>
    intro v2 v3 res hf H locs ls M hl k42
    rw [f_X13_inState_L4] at hf
    refine lv_iload_n hx hb dX13_inState_4 rfl (lv_at hl 3 rfl) ?_
    refine lv_aload_n hx hb dX13_inState_5 rfl (lv_at hl 0 rfl) ?_
    refine gf_X13_0 (i := 219) S M (by decide) rfl tw_6_107 dX13_inState_6 ?_
    refine lv_bipush (v := 36) hx hb dX13_inState_9 (by decide) ?_
    refine gk_iald (i := 220) (k := 36) S M (by decide) (gaa_134 rfl) (by unfold vp_in; decide) (by decide) dX13_inState_11 ?_
    refine lv_icmp_ge (tgt := 42) hx hb dX13_inState_12 (by decide) (fun c1 => ?_) (fun c1 => ?_)
    · have hf := it_p c1 hf
      cases hf
      exact k42 _ rfl _ _ _ M (lv_sub hl [2] rfl)
    · have hf := it_n c1 hf
      refine lv_iload_n hx hb dX13_inState_15 rfl (lv_at hl 2 rfl) ?_
      refine lv_aload_n hx hb dX13_inState_16 rfl (lv_at hl 0 rfl) ?_
      refine gf_X13_0 (i := 219) S M (by decide) rfl tw_6_107 dX13_inState_17 ?_
      refine lv_bipush (v := 76) hx hb dX13_inState_20 (by decide) ?_
      refine lv_iload_n hx hb dX13_inState_22 rfl (lv_at hl 3 rfl) ?_
      refine lv_iadd hx hb dX13_inState_23 ?_
      obtain ⟨h2, hf⟩ := gi_x hf
      refine gk_iald (i := 220) (k := (76 + v3).toNatClampNeg) S M (by decide) (gaa_134 rfl) h2 rfl dX13_inState_24 ?_
      refine lv_iload_n hx hb dX13_inState_25 rfl (lv_at hl 1 rfl) ?_
      refine lv_icmp_ne (tgt := 33) hx hb dX13_inState_26 (by decide) (fun c3 => ?_) (fun c3 => ?_)
      · have hf := it_n c3 hf
        refine lv_iconst (v := 0) hx hb dX13_inState_33 (by decide) ?_
        refine lv_iadd hx hb dX13_inState_34 ?_
        obtain ⟨x4, ex4, hf⟩ := nm_x hf
        refine g_topi ex4 ?_
        refine lv_istore_n (lv' := [(2, .int x4), (0, .ref (G.1 219)), (1, .int p1), (3, .int v3)]) hx hb dX13_inState_35 rfl hl (by decide) rfl (fun ls hl => ?_)
        obtain ⟨x5, ex5, hf⟩ := nm_x hf
        refine lv_iinc (v := x5) (lv' := [(3, .int x5), (2, .int x4), (0, .ref (G.1 219)), (1, .int p1)]) hx hb dX13_inState_36 hl (k := 3) rfl (by rw [ex5]; rfl) (by decide) rfl (fun ls hl => ?_)
        refine lv_goto (tgt := 4) hx hb dX13_inState_39 (by decide) ?_
        exact ih _ _ _ hf _ _ _ M (lv_sub hl [2, 3, 1, 0] rfl) k42
      · have hf := it_p c3 hf
        refine lv_iconst (v := 1) hx hb dX13_inState_29 (by decide) ?_
        refine lv_goto (tgt := 34) hx hb dX13_inState_30 (by decide) ?_
        refine lv_iadd hx hb dX13_inState_34 ?_
        obtain ⟨x6, ex6, hf⟩ := nm_x hf
        refine g_topi ex6 ?_
        refine lv_istore_n (lv' := [(2, .int x6), (0, .ref (G.1 219)), (1, .int p1), (3, .int v3)]) hx hb dX13_inState_35 rfl hl (by decide) rfl (fun ls hl => ?_)
        obtain ⟨x7, ex7, hf⟩ := nm_x hf
        refine lv_iinc (v := x7) (lv' := [(3, .int x7), (2, .int x6), (0, .ref (G.1 219)), (1, .int p1)]) hx hb dX13_inState_36 hl (k := 3) rfl (by rw [ex7]; rfl) (by decide) rfl (fun ls hl => ?_)
        refine lv_goto (tgt := 4) hx hb dX13_inState_39 (by decide) ?_
        exact ih _ _ _ hf _ _ _ M (lv_sub hl [2, 3, 1, 0] rfl) k42
set_option maxHeartbeats 400000 in
set_option maxRecDepth 100000 in
theorem c_X13_inState (l : Launch) (G : gT) (sz : Nat) (lo : Int64) (dd : UInt64) (σ : gM) (a1 : Int32) {o : Int32} (hf : f_X13_inState σ a1 = some o) : gCT l yX13_inState cX13_inState 4 (some .int) { frames := 0, cells := 0, slots := 0, locals := 0 } 0 0 G sz [.ref (G.1 219), .int a1] lo dd σ (.inl (mkI o, σ, lo, dd)) := by
  refine gCT_of (by decide) (Nat.le_of_ble_eq_true rfl) (fun p e s m args below meth c ls S hr hlk hnx hsz C0 hl H locs M => ?_)
  subst hsz
  have hx := S.1
  have hb := S.2.1
  unfold f_X13_inState at hf
  refine lv_iconst (v := 0) hx hb dX13_inState_0 (by decide) ?_
  refine lv_istore_n (lv' := [(2, .int 0), (0, .ref (G.1 219)), (1, .int a1)]) hx hb dX13_inState_1 rfl hl (by decide) rfl (fun ls hl => ?_)
  refine lv_iconst (v := 0) hx hb dX13_inState_2 (by decide) ?_
  refine lv_istore_n (lv' := [(3, .int 0), (2, .int 0), (0, .ref (G.1 219)), (1, .int a1)]) hx hb dX13_inState_3 rfl hl (by decide) rfl (fun ls hl => ?_)
  obtain ⟨y9, h8, hf⟩ := bd_x hf
  refine w_X13_inState_L4 S C0 a1 σ gFU 0 0 _ h8 _ _ _ M (lv_sub hl [2, 3, 1, 0] rfl) (fun _ eq H locs ls M hl => ?_)
  cases eq
  refine lv_iload_n hx hb dX13_inState_42 rfl (lv_at hl 0 rfl) ?_
  cases hf
  exact g_iret S M hr hlk (by decide) (by decide) dX13_inState_43 rfl
theorem k_X13_waitingCount : gMV yX13_waitingCount cX13_waitingCount 1 (some .int) 0 := ⟨tw_7_111, tw_1_12, by decide⟩
set_option maxHeartbeats 400000 in
set_option maxRecDepth 100000 in
theorem c_X13_waitingCount (l : Launch) (G : gT) (sz : Nat) (lo : Int64) (dd : UInt64) (σ : gM) {r : Int32} {o : gM} (hf : f_X13_waitingCount σ = some (r, o)) : gCT l yX13_waitingCount cX13_waitingCount 1 (some .int) { frames := 1, cells := 0, slots := 0, locals := 23 } 0 0 G sz [.ref (G.1 219)] lo dd σ (.inl (mkI r, o, lo, dd)) := by
  refine gCT_of (by decide) (Nat.le_of_ble_eq_true rfl) (fun p e s m args below meth c ls S hr hlk hnx hsz C0 hl H locs M => ?_)
  subst hsz
  have hx := S.1
  have hb := S.2.1
  unfold f_X13_waitingCount at hf
  refine lv_aload_n hx hb dX13_waitingCount_0 rfl (lv_at hl 0 rfl) ?_
  refine lv_aload_n hx hb dX13_waitingCount_1 rfl (lv_at hl 0 rfl) ?_
  refine lv_iconst (v := 0) hx hb dX13_waitingCount_2 (by decide) ?_
  obtain ⟨r2, h1, hf⟩ := bd_x hf
  refine g_callR (st1 := [.int r2, .ref (G.1 219)]) (cells' := 0) (slots' := 0) M (g_invV (index := 141) S M C0 hl (c_X13_inState l G H.size lo dd σ 0  h1) k_X13_inState tw_7_114 tw_0_47 tw_7_112 (by decide) (ge_13 rfl) rfl rfl rfl rfl rfl rfl dX13_waitingCount_3) rfl rfl rfl (fun H locs M => ?_)
  obtain ⟨r4, σ5, h3, hf⟩ := bd2_x hf
  refine g_callR (st1 := [.int r4]) (cells' := 0) (slots' := 0) M (g_invV (index := 72) S M C0 hl (c_X13_done l G H.size lo dd σ r2  h3) k_X13_done tw_6_198 tw_0_29 tw_6_196 (by decide) (ge_13 rfl) rfl rfl rfl rfl rfl rfl dX13_waitingCount_6) rfl rfl rfl (fun H locs M => ?_)
  cases hf
  exact g_iret S M hr hlk (by decide) (by decide) dX13_waitingCount_9 rfl
theorem k_X13_deliveredCount : gMV yX13_deliveredCount cX13_deliveredCount 1 (some .int) 0 := ⟨tw_7_119, tw_1_12, by decide⟩
set_option maxHeartbeats 400000 in
set_option maxRecDepth 100000 in
theorem c_X13_deliveredCount (l : Launch) (G : gT) (sz : Nat) (lo : Int64) (dd : UInt64) (σ : gM) {r : Int32} {o : gM} (hf : f_X13_deliveredCount σ = some (r, o)) : gCT l yX13_deliveredCount cX13_deliveredCount 1 (some .int) { frames := 1, cells := 0, slots := 0, locals := 23 } 0 0 G sz [.ref (G.1 219)] lo dd σ (.inl (mkI r, o, lo, dd)) := by
  refine gCT_of (by decide) (Nat.le_of_ble_eq_true rfl) (fun p e s m args below meth c ls S hr hlk hnx hsz C0 hl H locs M => ?_)
  subst hsz
  have hx := S.1
  have hb := S.2.1
  unfold f_X13_deliveredCount at hf
  refine lv_aload_n hx hb dX13_deliveredCount_0 rfl (lv_at hl 0 rfl) ?_
  refine lv_aload_n hx hb dX13_deliveredCount_1 rfl (lv_at hl 0 rfl) ?_
  refine lv_iconst (v := 2) hx hb dX13_deliveredCount_2 (by decide) ?_
  obtain ⟨r2, h1, hf⟩ := bd_x hf
  refine g_callR (st1 := [.int r2, .ref (G.1 219)]) (cells' := 0) (slots' := 0) M (g_invV (index := 141) S M C0 hl (c_X13_inState l G H.size lo dd σ 2  h1) k_X13_inState tw_7_114 tw_0_47 tw_7_112 (by decide) (ge_13 rfl) rfl rfl rfl rfl rfl rfl dX13_deliveredCount_3) rfl rfl rfl (fun H locs M => ?_)
  obtain ⟨r4, σ5, h3, hf⟩ := bd2_x hf
  refine g_callR (st1 := [.int r4]) (cells' := 0) (slots' := 0) M (g_invV (index := 72) S M C0 hl (c_X13_done l G H.size lo dd σ r2  h3) k_X13_done tw_6_198 tw_0_29 tw_6_196 (by decide) (ge_13 rfl) rfl rfl rfl rfl rfl rfl dX13_deliveredCount_6) rfl rfl rfl (fun H locs M => ?_)
  cases hf
  exact g_iret S M hr hlk (by decide) (by decide) dX13_deliveredCount_9 rfl
theorem k_X13_gloveCount : gMV yX13_gloveCount cX13_gloveCount 1 (some .int) 0 := ⟨tw_7_123, tw_1_12, by decide⟩
set_option maxHeartbeats 400000 in
set_option maxRecDepth 100000 in
theorem c_X13_gloveCount (l : Launch) (G : gT) (sz : Nat) (lo : Int64) (dd : UInt64) (σ : gM) {r : Int32} {o : gM} (hf : f_X13_gloveCount σ = some (r, o)) : gCT l yX13_gloveCount cX13_gloveCount 1 (some .int) { frames := 1, cells := 0, slots := 0, locals := 21 } 0 0 G sz [.ref (G.1 219)] lo dd σ (.inl (mkI r, o, lo, dd)) := by
  refine gCT_of (by decide) (Nat.le_of_ble_eq_true rfl) (fun p e s m args below meth c ls S hr hlk hnx hsz C0 hl H locs M => ?_)
  subst hsz
  have hx := S.1
  have hb := S.2.1
  unfold f_X13_gloveCount at hf
  refine lv_aload_n hx hb dX13_gloveCount_0 rfl (lv_at hl 0 rfl) ?_
  refine lv_aload_n hx hb dX13_gloveCount_1 rfl (lv_at hl 0 rfl) ?_
  refine gf_X13_0 (i := 219) S M (by decide) rfl tw_6_107 dX13_gloveCount_2 ?_
  refine lv_bipush (v := 37) hx hb dX13_gloveCount_5 (by decide) ?_
  refine gk_iald (i := 220) (k := 37) S M (by decide) (gaa_134 rfl) (by unfold vp_in; decide) (by decide) dX13_gloveCount_7 ?_
  obtain ⟨r2, σ3, h1, hf⟩ := bd2_x hf
  refine g_callR (st1 := [.int r2]) (cells' := 0) (slots' := 0) M (g_invV (index := 72) S M C0 hl (c_X13_done l G H.size lo dd σ (σ 220 37)  h1) k_X13_done tw_6_198 tw_0_29 tw_6_196 (by decide) (ge_13 rfl) rfl rfl rfl rfl rfl rfl dX13_gloveCount_8) rfl rfl rfl (fun H locs M => ?_)
  cases hf
  exact g_iret S M hr hlk (by decide) (by decide) dX13_gloveCount_11 rfl
theorem k_X13_grade : gMV yX13_grade cX13_grade 2 (some .int) 1 := ⟨tw_7_127, tw_1_12, by decide⟩
set_option maxHeartbeats 400000 in
set_option maxRecDepth 100000 in
theorem c_X13_grade (l : Launch) (G : gT) (sz : Nat) (lo : Int64) (dd : UInt64) (σ : gM) (a1 : Int32) {r : Int32} {o : gM} (hf : f_X13_grade σ a1 = some (r, o)) : gCT l yX13_grade cX13_grade 2 (some .int) { frames := 2, cells := 0, slots := 0, locals := 43 } 0 0 G sz [.ref (G.1 219), .int a1] lo dd σ (.inl (mkI r, o, lo, dd)) := by
  refine gCT_of (by decide) (Nat.le_of_ble_eq_true rfl) (fun p e s m args below meth c ls S hr hlk hnx hsz C0 hl H locs M => ?_)
  subst hsz
  have hx := S.1
  have hb := S.2.1
  unfold f_X13_grade at hf
  refine lv_aload_n hx hb dX13_grade_0 rfl (lv_at hl 0 rfl) ?_
  refine lv_iload_n hx hb dX13_grade_1 rfl (lv_at hl 1 rfl) ?_
  obtain ⟨r2, h1, hf⟩ := bd_x hf
  refine g_callR (st1 := [.int r2]) (cells' := 0) (slots' := 0) M (g_invV (index := 144) S M C0 hl (c_X13_isGlove l G H.size lo dd σ a1  h1) k_X13_isGlove tw_7_130 tw_0_48 tw_7_128 (by decide) (ge_13 rfl) rfl rfl rfl rfl rfl rfl dX13_grade_2) rfl rfl rfl (fun H locs M => ?_)
  refine lv_if_eq (tgt := 24) hx hb dX13_grade_5 (by decide) (fun c3 => ?_) (fun c3 => ?_)
  · have hf := it_p c3 hf
    refine lv_aload_n hx hb dX13_grade_24 rfl (lv_at hl 0 rfl) ?_
    refine lv_iconst (v := 1) hx hb dX13_grade_25 (by decide) ?_
    obtain ⟨r5, σ6, h4, hf⟩ := bd2_x hf
    refine g_callR (st1 := [.int r5]) (cells' := 0) (slots' := 0) M (g_invV (index := 64) S M C0 hl (c_X13_fails l G H.size lo dd σ 1  h4) k_X13_fails tw_6_186 tw_0_26 tw_6_184 (by decide) (ge_13 rfl) rfl rfl rfl rfl rfl rfl dX13_grade_26) rfl rfl rfl (fun H locs M => ?_)
    cases hf
    exact g_iret S M hr hlk (by decide) (by decide) dX13_grade_29 rfl
  · have hf := it_n c3 hf
    refine lv_aload_n hx hb dX13_grade_8 rfl (lv_at hl 0 rfl) ?_
    refine lv_aload_n hx hb dX13_grade_9 rfl (lv_at hl 0 rfl) ?_
    refine gf_X13_0 (i := 219) S M (by decide) rfl tw_6_107 dX13_grade_10 ?_
    refine lv_bipush (v := 112) hx hb dX13_grade_13 (by decide) ?_
    refine lv_iload_n hx hb dX13_grade_15 rfl (lv_at hl 1 rfl) ?_
    refine lv_iadd hx hb dX13_grade_16 ?_
    obtain ⟨h7, hf⟩ := gi_x hf
    refine gk_iald (i := 220) (k := (112 + a1).toNatClampNeg) S M (by decide) (gaa_134 rfl) h7 rfl dX13_grade_17 ?_
    obtain ⟨r9, σ10, h8, hf⟩ := bd2_x hf
    refine g_callR (st1 := [.int r9]) (cells' := 0) (slots' := 0) M (g_invV (index := 72) S M C0 hl (c_X13_done l G H.size lo dd σ (σ 220 (112 + a1).toNatClampNeg)  h8) k_X13_done tw_6_198 tw_0_29 tw_6_196 (by decide) (ge_13 rfl) rfl rfl rfl rfl rfl rfl dX13_grade_18) rfl rfl rfl (fun H locs M => ?_)
    refine lv_goto (tgt := 29) hx hb dX13_grade_21 (by decide) ?_
    cases hf
    exact g_iret S M hr hlk (by decide) (by decide) dX13_grade_29 rfl
theorem k_X13_usesLeft : gMV yX13_usesLeft cX13_usesLeft 2 (some .int) 1 := ⟨tw_7_135, tw_1_12, by decide⟩
set_option maxHeartbeats 400000 in
set_option maxRecDepth 100000 in
theorem c_X13_usesLeft (l : Launch) (G : gT) (sz : Nat) (lo : Int64) (dd : UInt64) (σ : gM) (a1 : Int32) {r : Int32} {o : gM} (hf : f_X13_usesLeft σ a1 = some (r, o)) : gCT l yX13_usesLeft cX13_usesLeft 2 (some .int) { frames := 2, cells := 0, slots := 0, locals := 43 } 0 0 G sz [.ref (G.1 219), .int a1] lo dd σ (.inl (mkI r, o, lo, dd)) := by
  refine gCT_of (by decide) (Nat.le_of_ble_eq_true rfl) (fun p e s m args below meth c ls S hr hlk hnx hsz C0 hl H locs M => ?_)
  subst hsz
  have hx := S.1
  have hb := S.2.1
  unfold f_X13_usesLeft at hf
  refine lv_aload_n hx hb dX13_usesLeft_0 rfl (lv_at hl 0 rfl) ?_
  refine lv_iload_n hx hb dX13_usesLeft_1 rfl (lv_at hl 1 rfl) ?_
  obtain ⟨r2, h1, hf⟩ := bd_x hf
  refine g_callR (st1 := [.int r2]) (cells' := 0) (slots' := 0) M (g_invV (index := 144) S M C0 hl (c_X13_isGlove l G H.size lo dd σ a1  h1) k_X13_isGlove tw_7_130 tw_0_48 tw_7_128 (by decide) (ge_13 rfl) rfl rfl rfl rfl rfl rfl dX13_usesLeft_2) rfl rfl rfl (fun H locs M => ?_)
  refine lv_if_eq (tgt := 26) hx hb dX13_usesLeft_5 (by decide) (fun c3 => ?_) (fun c3 => ?_)
  · have hf := it_p c3 hf
    refine lv_aload_n hx hb dX13_usesLeft_26 rfl (lv_at hl 0 rfl) ?_
    refine lv_iconst (v := 1) hx hb dX13_usesLeft_27 (by decide) ?_
    obtain ⟨r5, σ6, h4, hf⟩ := bd2_x hf
    refine g_callR (st1 := [.int r5]) (cells' := 0) (slots' := 0) M (g_invV (index := 64) S M C0 hl (c_X13_fails l G H.size lo dd σ 1  h4) k_X13_fails tw_6_186 tw_0_26 tw_6_184 (by decide) (ge_13 rfl) rfl rfl rfl rfl rfl rfl dX13_usesLeft_28) rfl rfl rfl (fun H locs M => ?_)
    cases hf
    exact g_iret S M hr hlk (by decide) (by decide) dX13_usesLeft_31 rfl
  · have hf := it_n c3 hf
    refine lv_aload_n hx hb dX13_usesLeft_8 rfl (lv_at hl 0 rfl) ?_
    refine lv_iconst (v := 3) hx hb dX13_usesLeft_9 (by decide) ?_
    refine lv_aload_n hx hb dX13_usesLeft_10 rfl (lv_at hl 0 rfl) ?_
    refine gf_X13_0 (i := 219) S M (by decide) rfl tw_6_107 dX13_usesLeft_11 ?_
    refine lv_bipush (v := 120) hx hb dX13_usesLeft_14 (by decide) ?_
    refine lv_iload_n hx hb dX13_usesLeft_16 rfl (lv_at hl 1 rfl) ?_
    refine lv_iadd hx hb dX13_usesLeft_17 ?_
    obtain ⟨h7, hf⟩ := gi_x hf
    refine gk_iald (i := 220) (k := (120 + a1).toNatClampNeg) S M (by decide) (gaa_134 rfl) h7 rfl dX13_usesLeft_18 ?_
    refine lv_isub hx hb dX13_usesLeft_19 ?_
    obtain ⟨r9, σ10, h8, hf⟩ := bd2_x hf
    refine g_callR (st1 := [.int r9]) (cells' := 0) (slots' := 0) M (g_invV (index := 72) S M C0 hl (c_X13_done l G H.size lo dd σ (3 - (σ 220 (120 + a1).toNatClampNeg))  h8) k_X13_done tw_6_198 tw_0_29 tw_6_196 (by decide) (ge_13 rfl) rfl rfl rfl rfl rfl rfl dX13_usesLeft_20) rfl rfl rfl (fun H locs M => ?_)
    refine lv_goto (tgt := 31) hx hb dX13_usesLeft_23 (by decide) ?_
    cases hf
    exact g_iret S M hr hlk (by decide) (by decide) dX13_usesLeft_31 rfl
theorem k_X13_gloveFor : gMV yX13_gloveFor cX13_gloveFor 3 (some .int) 1 := ⟨tw_7_139, tw_1_12, by decide⟩
set_option maxHeartbeats 400000 in
set_option maxRecDepth 100000 in
theorem c_X13_gloveFor (l : Launch) (G : gT) (sz : Nat) (lo : Int64) (dd : UInt64) (σ : gM) (a1 : Int32) {r : Int32} {o : gM} (hf : f_X13_gloveFor σ a1 = some (r, o)) : gCT l yX13_gloveFor cX13_gloveFor 3 (some .int) { frames := 2, cells := 0, slots := 0, locals := 46 } 0 0 G sz [.ref (G.1 219), .int a1] lo dd σ (.inl (mkI r, o, lo, dd)) := by
  refine gCT_of (by decide) (Nat.le_of_ble_eq_true rfl) (fun p e s m args below meth c ls S hr hlk hnx hsz C0 hl H locs M => ?_)
  subst hsz
  have hx := S.1
  have hb := S.2.1
  unfold f_X13_gloveFor at hf
  refine lv_aload_n hx hb dX13_gloveFor_0 rfl (lv_at hl 0 rfl) ?_
  refine lv_iload_n hx hb dX13_gloveFor_1 rfl (lv_at hl 1 rfl) ?_
  obtain ⟨r2, h1, hf⟩ := bd_x hf
  refine g_callR (st1 := [.int r2]) (cells' := 0) (slots' := 0) M (g_invV (index := 111) S M C0 hl (c_X13_isParcel l G H.size lo dd σ a1  h1) k_X13_isParcel tw_7_5 tw_0_36 tw_7_3 (by decide) (ge_13 rfl) rfl rfl rfl rfl rfl rfl dX13_gloveFor_2) rfl rfl rfl (fun H locs M => ?_)
  refine lv_if_ne (tgt := 14) hx hb dX13_gloveFor_5 (by decide) (fun c3 => ?_) (fun c3 => ?_)
  · have hf := it_n c3 hf
    refine lv_aload_n hx hb dX13_gloveFor_14 rfl (lv_at hl 0 rfl) ?_
    refine gf_X13_0 (i := 219) S M (by decide) rfl tw_6_107 dX13_gloveFor_15 ?_
    refine lv_bipush (v := 52) hx hb dX13_gloveFor_18 (by decide) ?_
    refine lv_iload_n hx hb dX13_gloveFor_20 rfl (lv_at hl 1 rfl) ?_
    refine lv_iadd hx hb dX13_gloveFor_21 ?_
    obtain ⟨h4, hf⟩ := gi_x hf
    refine gk_iald (i := 220) (k := (52 + a1).toNatClampNeg) S M (by decide) (gaa_134 rfl) h4 rfl dX13_gloveFor_22 ?_
    refine lv_if_ne (tgt := 32) hx hb dX13_gloveFor_23 (by decide) (fun c5 => ?_) (fun c5 => ?_)
    · have hf := it_n c5 hf
      refine lv_aload_n hx hb dX13_gloveFor_32 rfl (lv_at hl 0 rfl) ?_
      refine lv_aload_n hx hb dX13_gloveFor_33 rfl (lv_at hl 0 rfl) ?_
      refine gf_X13_0 (i := 219) S M (by decide) rfl tw_6_107 dX13_gloveFor_34 ?_
      refine lv_bipush (v := 52) hx hb dX13_gloveFor_37 (by decide) ?_
      refine lv_iload_n hx hb dX13_gloveFor_39 rfl (lv_at hl 1 rfl) ?_
      refine lv_iadd hx hb dX13_gloveFor_40 ?_
      obtain ⟨h6, hf⟩ := gi_x hf
      refine gk_iald (i := 220) (k := (52 + a1).toNatClampNeg) S M (by decide) (gaa_134 rfl) h6 rfl dX13_gloveFor_41 ?_
      obtain ⟨r8, h7, hf⟩ := bd_x hf
      refine g_callR (st1 := [.int r8]) (cells' := 0) (slots' := 0) M (g_invV (index := 108) S M C0 hl (c_X13_gloveOf l G H.size lo dd σ (σ 220 (52 + a1).toNatClampNeg)  h7) k_X13_gloveOf tw_7_13 tw_0_38 tw_7_11 (by decide) (ge_13 rfl) rfl rfl rfl rfl rfl rfl dX13_gloveFor_42) rfl rfl rfl (fun H locs M => ?_)
      refine lv_istore_n (lv' := [(2, .int r8), (0, .ref (G.1 219)), (1, .int a1)]) hx hb dX13_gloveFor_45 rfl hl (by decide) rfl (fun ls hl => ?_)
      refine lv_iload_n hx hb dX13_gloveFor_46 rfl (lv_at hl 0 rfl) ?_
      refine lv_iconst (v := (-1)) hx hb dX13_gloveFor_47 (by decide) ?_
      refine lv_icmp_ne (tgt := 59) hx hb dX13_gloveFor_48 (by decide) (fun c9 => ?_) (fun c9 => ?_)
      · have hf := it_n c9 hf
        refine lv_aload_n hx hb dX13_gloveFor_59 rfl (lv_at hl 1 rfl) ?_
        refine lv_iload_n hx hb dX13_gloveFor_60 rfl (lv_at hl 0 rfl) ?_
        obtain ⟨r11, σ12, h10, hf⟩ := bd2_x hf
        refine g_callR (st1 := [.int r11]) (cells' := 0) (slots' := 0) M (g_invV (index := 72) S M C0 hl (c_X13_done l G H.size lo dd σ r8  h10) k_X13_done tw_6_198 tw_0_29 tw_6_196 (by decide) (ge_13 rfl) rfl rfl rfl rfl rfl rfl dX13_gloveFor_61) rfl rfl rfl (fun H locs M => ?_)
        cases hf
        exact g_iret S M hr hlk (by decide) (by decide) dX13_gloveFor_64 rfl
      · have hf := it_p c9 hf
        refine lv_aload_n hx hb dX13_gloveFor_51 rfl (lv_at hl 1 rfl) ?_
        refine lv_iconst (v := 3) hx hb dX13_gloveFor_52 (by decide) ?_
        obtain ⟨r14, σ15, h13, hf⟩ := bd2_x hf
        refine g_callR (st1 := [.int r14]) (cells' := 0) (slots' := 0) M (g_invV (index := 64) S M C0 hl (c_X13_fails l G H.size lo dd σ 3  h13) k_X13_fails tw_6_186 tw_0_26 tw_6_184 (by decide) (ge_13 rfl) rfl rfl rfl rfl rfl rfl dX13_gloveFor_53) rfl rfl rfl (fun H locs M => ?_)
        refine lv_goto (tgt := 64) hx hb dX13_gloveFor_56 (by decide) ?_
        cases hf
        exact g_iret S M hr hlk (by decide) (by decide) dX13_gloveFor_64 rfl
    · have hf := it_p c5 hf
      refine lv_aload_n hx hb dX13_gloveFor_26 rfl (lv_at hl 0 rfl) ?_
      refine lv_iconst (v := 2) hx hb dX13_gloveFor_27 (by decide) ?_
      obtain ⟨r17, σ18, h16, hf⟩ := bd2_x hf
      refine g_callR (st1 := [.int r17]) (cells' := 0) (slots' := 0) M (g_invV (index := 64) S M C0 hl (c_X13_fails l G H.size lo dd σ 2  h16) k_X13_fails tw_6_186 tw_0_26 tw_6_184 (by decide) (ge_13 rfl) rfl rfl rfl rfl rfl rfl dX13_gloveFor_28) rfl rfl rfl (fun H locs M => ?_)
      cases hf
      exact g_iret S M hr hlk (by decide) (by decide) dX13_gloveFor_31 rfl
  · have hf := it_p c3 hf
    refine lv_aload_n hx hb dX13_gloveFor_8 rfl (lv_at hl 0 rfl) ?_
    refine lv_iconst (v := 1) hx hb dX13_gloveFor_9 (by decide) ?_
    obtain ⟨r20, σ21, h19, hf⟩ := bd2_x hf
    refine g_callR (st1 := [.int r20]) (cells' := 0) (slots' := 0) M (g_invV (index := 64) S M C0 hl (c_X13_fails l G H.size lo dd σ 1  h19) k_X13_fails tw_6_186 tw_0_26 tw_6_184 (by decide) (ge_13 rfl) rfl rfl rfl rfl rfl rfl dX13_gloveFor_10) rfl rfl rfl (fun H locs M => ?_)
    cases hf
    exact g_iret S M hr hlk (by decide) (by decide) dX13_gloveFor_13 rfl
theorem k_X13_canHandle : gMV yX13_canHandle cX13_canHandle 2 (some .boolean) 1 := ⟨tw_7_143, tw_1_12, by decide⟩
set_option maxHeartbeats 400000 in
set_option maxRecDepth 100000 in
theorem c_X13_canHandle (l : Launch) (G : gT) (sz : Nat) (lo : Int64) (dd : UInt64) (σ : gM) (a1 : Int32) {r : Int32} {o : gM} (hf : f_X13_canHandle σ a1 = some (r, o)) : gCT l yX13_canHandle cX13_canHandle 2 (some .boolean) { frames := 3, cells := 0, slots := 0, locals := 67 } 0 0 G sz [.ref (G.1 219), .int a1] lo dd σ (.inl (mkI r, o, lo, dd)) := by
  refine gCT_of (by decide) (Nat.le_of_ble_eq_true rfl) (fun p e s m args below meth c ls S hr hlk hnx hsz C0 hl H locs M => ?_)
  subst hsz
  have hx := S.1
  have hb := S.2.1
  unfold f_X13_canHandle at hf
  refine lv_aload_n hx hb dX13_canHandle_0 rfl (lv_at hl 0 rfl) ?_
  refine lv_aload_n hx hb dX13_canHandle_1 rfl (lv_at hl 0 rfl) ?_
  refine lv_iload_n hx hb dX13_canHandle_2 rfl (lv_at hl 1 rfl) ?_
  obtain ⟨r2, h1, hf⟩ := bd_x hf
  refine g_callR (st1 := [.int r2, .ref (G.1 219)]) (cells' := 0) (slots' := 0) M (g_invV (index := 111) S M C0 hl (c_X13_isParcel l G H.size lo dd σ a1  h1) k_X13_isParcel tw_7_5 tw_0_36 tw_7_3 (by decide) (ge_13 rfl) rfl rfl rfl rfl rfl rfl dX13_canHandle_3) rfl rfl rfl (fun H locs M => ?_)
  refine lv_if_eq (tgt := 13) hx hb dX13_canHandle_6 (by decide) (fun c3 => ?_) (fun c3 => ?_)
  · have hf := it_p c3 hf
    refine lv_iconst (v := 1) hx hb dX13_canHandle_13 (by decide) ?_
    obtain ⟨σ4, eσ4, hf⟩ := nm_x hf
    refine gp_X13_12 (i := 219) S M (by decide) rfl tw_6_119 dX13_canHandle_14 (fun H locs M => ?_)
    rw [← eσ4] at M
    refine lv_aload_n hx hb dX13_canHandle_17 rfl (lv_at hl 0 rfl) ?_
    refine gf_X13_12 (i := 219) S M (by decide) rfl tw_6_119 dX13_canHandle_18 ?_
    refine lv_if_ne (tgt := 36) hx hb dX13_canHandle_21 (by decide) (fun c5 => ?_) (fun c5 => ?_)
    · have hf := it_n c5 hf
      refine lv_iconst (v := 0) hx hb dX13_canHandle_36 (by decide) ?_
      cases hf
      exact g_zret S M hr hlk (by decide) (by decide) (by decide) dX13_canHandle_37 rfl
    · have hf := it_p c5 hf
      refine lv_aload_n hx hb dX13_canHandle_24 rfl (lv_at hl 0 rfl) ?_
      refine lv_iload_n hx hb dX13_canHandle_25 rfl (lv_at hl 1 rfl) ?_
      obtain ⟨r7, h6, hf⟩ := bd_x hf
      refine g_callR (st1 := [.int r7]) (cells' := 0) (slots' := 0) M (g_invV (index := 114) S M C0 hl (c_X13_isHandled l G H.size lo dd σ4 a1  h6) k_X13_isHandled tw_7_9 tw_0_37 tw_7_7 (by decide) (ge_13 rfl) rfl rfl rfl rfl rfl rfl dX13_canHandle_26) rfl rfl rfl (fun H locs M => ?_)
      refine lv_if_eq (tgt := 36) hx hb dX13_canHandle_29 (by decide) (fun c8 => ?_) (fun c8 => ?_)
      · have hf := it_p c8 hf
        refine lv_iconst (v := 0) hx hb dX13_canHandle_36 (by decide) ?_
        cases hf
        exact g_zret S M hr hlk (by decide) (by decide) (by decide) dX13_canHandle_37 rfl
      · have hf := it_n c8 hf
        refine lv_iconst (v := 1) hx hb dX13_canHandle_32 (by decide) ?_
        refine lv_goto (tgt := 37) hx hb dX13_canHandle_33 (by decide) ?_
        cases hf
        exact g_zret S M hr hlk (by decide) (by decide) (by decide) dX13_canHandle_37 rfl
  · have hf := it_n c3 hf
    refine lv_iconst (v := 0) hx hb dX13_canHandle_9 (by decide) ?_
    refine lv_goto (tgt := 14) hx hb dX13_canHandle_10 (by decide) ?_
    obtain ⟨σ9, eσ9, hf⟩ := nm_x hf
    refine gp_X13_12 (i := 219) S M (by decide) rfl tw_6_119 dX13_canHandle_14 (fun H locs M => ?_)
    rw [← eσ9] at M
    refine lv_aload_n hx hb dX13_canHandle_17 rfl (lv_at hl 0 rfl) ?_
    refine gf_X13_12 (i := 219) S M (by decide) rfl tw_6_119 dX13_canHandle_18 ?_
    refine lv_if_ne (tgt := 36) hx hb dX13_canHandle_21 (by decide) (fun c10 => ?_) (fun c10 => ?_)
    · have hf := it_n c10 hf
      refine lv_iconst (v := 0) hx hb dX13_canHandle_36 (by decide) ?_
      cases hf
      exact g_zret S M hr hlk (by decide) (by decide) (by decide) dX13_canHandle_37 rfl
    · have hf := it_p c10 hf
      refine lv_aload_n hx hb dX13_canHandle_24 rfl (lv_at hl 0 rfl) ?_
      refine lv_iload_n hx hb dX13_canHandle_25 rfl (lv_at hl 1 rfl) ?_
      obtain ⟨r12, h11, hf⟩ := bd_x hf
      refine g_callR (st1 := [.int r12]) (cells' := 0) (slots' := 0) M (g_invV (index := 114) S M C0 hl (c_X13_isHandled l G H.size lo dd σ9 a1  h11) k_X13_isHandled tw_7_9 tw_0_37 tw_7_7 (by decide) (ge_13 rfl) rfl rfl rfl rfl rfl rfl dX13_canHandle_26) rfl rfl rfl (fun H locs M => ?_)
      refine lv_if_eq (tgt := 36) hx hb dX13_canHandle_29 (by decide) (fun c13 => ?_) (fun c13 => ?_)
      · have hf := it_p c13 hf
        refine lv_iconst (v := 0) hx hb dX13_canHandle_36 (by decide) ?_
        cases hf
        exact g_zret S M hr hlk (by decide) (by decide) (by decide) dX13_canHandle_37 rfl
      · have hf := it_n c13 hf
        refine lv_iconst (v := 1) hx hb dX13_canHandle_32 (by decide) ?_
        refine lv_goto (tgt := 37) hx hb dX13_canHandle_33 (by decide) ?_
        cases hf
        exact g_zret S M hr hlk (by decide) (by decide) (by decide) dX13_canHandle_37 rfl
theorem k_X13_shortage : gMV yX13_shortage cX13_shortage 4 (some .int) 1 := ⟨tw_7_151, tw_1_12, by decide⟩
set_option maxHeartbeats 400000 in
set_option maxRecDepth 100000 in
theorem w_X13_shortage_L4 {p : Program} {l : Launch} {e : Env} {s : State} {m : MethodId} {args : Array Value} {below : List Frame} {meth : Method} {c : Code} {Q : State → Prop} {G : gT} {lo : Int64} {dd : UInt64} (S : CallFix p m c cX13_shortage 4 s args gTs RX13) (C0 : gCST G (gAA G s.heap.size) s) (p1 : Int32) (σ : gM) : ∀ (n : Nat) (v2 : Int32) (v3 : Int32) (res : Int32), f_X13_shortage_L4 p1 σ n v2 v3 = some res → ∀ (H : Heap) (locs : List Loc) (ls : Array Slot), gMS G (gAA G s.heap.size) lo dd σ s H locs → lv_has ls 4 [(0, .ref (G.1 219)), (1, .int p1), (2, .int v2), (3, .int v3)] → (k54 : ∀ (u2 : Int32), res = u2 → ∀ (H : Heap) (locs : List Loc) (ls : Array Slot), gMS G (gAA G s.heap.size) lo dd σ s H locs → lv_has ls 4 [(0, .ref (G.1 219)), (1, .int p1), (2, .int u2)] → W p l e ({ frames := 0, cells := 0, slots := 0, locals := 0 } : Room) s m args below meth c H locs 0 0 Q (F0 m 54 ls [])) → W p l e ({ frames := 0, cells := 0, slots := 0, locals := 0 } : Room) s m args below meth c H locs 0 0 Q (F0 m 4 ls []) := by
  have hx := S.1
  have hb := S.2.1
  intro n
  induction n with
  | zero =>
    intro v2 v3 res hf
    cases hf
  | succ n ih =>
    intro v2 v3 res hf H locs ls M hl k54
    rw [f_X13_shortage_L4] at hf
    refine lv_iload_n hx hb dX13_shortage_4 rfl (lv_at hl 3 rfl) ?_
    refine lv_aload_n hx hb dX13_shortage_5 rfl (lv_at hl 0 rfl) ?_
    refine gf_X13_0 (i := 219) S M (by decide) rfl tw_6_107 dX13_shortage_6 ?_
    refine lv_bipush (v := 36) hx hb dX13_shortage_9 (by decide) ?_
    refine gk_iald (i := 220) (k := 36) S M (by decide) (gaa_134 rfl) (by unfold vp_in; decide) (by decide) dX13_shortage_11 ?_
    refine lv_icmp_ge (tgt := 54) hx hb dX13_shortage_12 (by decide) (fun c1 => ?_) (fun c1 => ?_)
    · have hf := it_p c1 hf
      cases hf
      exact k54 _ rfl _ _ _ M (lv_sub hl [0, 1, 2] rfl)
    · have hf := it_n c1 hf
      refine lv_iload_n hx hb dX13_shortage_15 rfl (lv_at hl 2 rfl) ?_
      refine lv_aload_n hx hb dX13_shortage_16 rfl (lv_at hl 0 rfl) ?_
      refine gf_X13_0 (i := 219) S M (by decide) rfl tw_6_107 dX13_shortage_17 ?_
      refine lv_bipush (v := 76) hx hb dX13_shortage_20 (by decide) ?_
      refine lv_iload_n hx hb dX13_shortage_22 rfl (lv_at hl 3 rfl) ?_
      refine lv_iadd hx hb dX13_shortage_23 ?_
      obtain ⟨h2, hf⟩ := gi_x hf
      refine gk_iald (i := 220) (k := (76 + v3).toNatClampNeg) S M (by decide) (gaa_134 rfl) h2 rfl dX13_shortage_24 ?_
      refine lv_if_ne (tgt := 45) hx hb dX13_shortage_25 (by decide) (fun c3 => ?_) (fun c3 => ?_)
      · have hf := it_n c3 hf
        refine lv_iconst (v := 0) hx hb dX13_shortage_45 (by decide) ?_
        refine lv_iadd hx hb dX13_shortage_46 ?_
        obtain ⟨x4, ex4, hf⟩ := nm_x hf
        refine g_topi ex4 ?_
        refine lv_istore_n (lv' := [(2, .int x4), (0, .ref (G.1 219)), (1, .int p1), (3, .int v3)]) hx hb dX13_shortage_47 rfl hl (by decide) rfl (fun ls hl => ?_)
        obtain ⟨x5, ex5, hf⟩ := nm_x hf
        refine lv_iinc (v := x5) (lv' := [(3, .int x5), (2, .int x4), (0, .ref (G.1 219)), (1, .int p1)]) hx hb dX13_shortage_48 hl (k := 3) rfl (by rw [ex5]; rfl) (by decide) rfl (fun ls hl => ?_)
        refine lv_goto (tgt := 4) hx hb dX13_shortage_51 (by decide) ?_
        exact ih _ _ _ hf _ _ _ M (lv_sub hl [2, 3, 1, 0] rfl) k54
      · have hf := it_p c3 hf
        refine lv_aload_n hx hb dX13_shortage_28 rfl (lv_at hl 0 rfl) ?_
        refine gf_X13_0 (i := 219) S M (by decide) rfl tw_6_107 dX13_shortage_29 ?_
        refine lv_bipush (v := 52) hx hb dX13_shortage_32 (by decide) ?_
        refine lv_iload_n hx hb dX13_shortage_34 rfl (lv_at hl 3 rfl) ?_
        refine lv_iadd hx hb dX13_shortage_35 ?_
        obtain ⟨h6, hf⟩ := gi_x hf
        refine gk_iald (i := 220) (k := (52 + v3).toNatClampNeg) S M (by decide) (gaa_134 rfl) h6 rfl dX13_shortage_36 ?_
        refine lv_iload_n hx hb dX13_shortage_37 rfl (lv_at hl 1 rfl) ?_
        refine lv_icmp_lt (tgt := 45) hx hb dX13_shortage_38 (by decide) (fun c7 => ?_) (fun c7 => ?_)
        · have hf := it_p c7 hf
          refine lv_iconst (v := 0) hx hb dX13_shortage_45 (by decide) ?_
          refine lv_iadd hx hb dX13_shortage_46 ?_
          obtain ⟨x8, ex8, hf⟩ := nm_x hf
          refine g_topi ex8 ?_
          refine lv_istore_n (lv' := [(2, .int x8), (0, .ref (G.1 219)), (1, .int p1), (3, .int v3)]) hx hb dX13_shortage_47 rfl hl (by decide) rfl (fun ls hl => ?_)
          obtain ⟨x9, ex9, hf⟩ := nm_x hf
          refine lv_iinc (v := x9) (lv' := [(3, .int x9), (2, .int x8), (0, .ref (G.1 219)), (1, .int p1)]) hx hb dX13_shortage_48 hl (k := 3) rfl (by rw [ex9]; rfl) (by decide) rfl (fun ls hl => ?_)
          refine lv_goto (tgt := 4) hx hb dX13_shortage_51 (by decide) ?_
          exact ih _ _ _ hf _ _ _ M (lv_sub hl [2, 3, 1, 0] rfl) k54
        · have hf := it_n c7 hf
          refine lv_iconst (v := 1) hx hb dX13_shortage_41 (by decide) ?_
          refine lv_goto (tgt := 46) hx hb dX13_shortage_42 (by decide) ?_
          refine lv_iadd hx hb dX13_shortage_46 ?_
          obtain ⟨x10, ex10, hf⟩ := nm_x hf
          refine g_topi ex10 ?_
          refine lv_istore_n (lv' := [(2, .int x10), (0, .ref (G.1 219)), (1, .int p1), (3, .int v3)]) hx hb dX13_shortage_47 rfl hl (by decide) rfl (fun ls hl => ?_)
          obtain ⟨x11, ex11, hf⟩ := nm_x hf
          refine lv_iinc (v := x11) (lv' := [(3, .int x11), (2, .int x10), (0, .ref (G.1 219)), (1, .int p1)]) hx hb dX13_shortage_48 hl (k := 3) rfl (by rw [ex11]; rfl) (by decide) rfl (fun ls hl => ?_)
          refine lv_goto (tgt := 4) hx hb dX13_shortage_51 (by decide) ?_
          exact ih _ _ _ hf _ _ _ M (lv_sub hl [2, 3, 1, 0] rfl) k54
set_option maxHeartbeats 400000 in
set_option maxRecDepth 100000 in
theorem w_X13_shortage_L56 {p : Program} {l : Launch} {e : Env} {s : State} {m : MethodId} {args : Array Value} {below : List Frame} {meth : Method} {c : Code} {Q : State → Prop} {G : gT} {lo : Int64} {dd : UInt64} (S : CallFix p m c cX13_shortage 4 s args gTs RX13) (C0 : gCST G (gAA G s.heap.size) s) (p1 : Int32) (σ : gM) : ∀ (n : Nat) (v2 : Int32) (v3 : Int32) (res : Int32), f_X13_shortage_L56 p1 σ n v2 v3 = some res → ∀ (H : Heap) (locs : List Loc) (ls : Array Slot), gMS G (gAA G s.heap.size) lo dd σ s H locs → lv_has ls 4 [(0, .ref (G.1 219)), (1, .int p1), (2, .int v2), (3, .int v3)] → (k104 : ∀ (u2 : Int32), res = u2 → ∀ (H : Heap) (locs : List Loc) (ls : Array Slot), gMS G (gAA G s.heap.size) lo dd σ s H locs → lv_has ls 4 [(2, .int u2)] → W p l e ({ frames := 0, cells := 0, slots := 0, locals := 0 } : Room) s m args below meth c H locs 0 0 Q (F0 m 104 ls [])) → W p l e ({ frames := 0, cells := 0, slots := 0, locals := 0 } : Room) s m args below meth c H locs 0 0 Q (F0 m 56 ls []) := by
  have hx := S.1
  have hb := S.2.1
  intro n
  induction n with
  | zero =>
    intro v2 v3 res hf
    cases hf
  | succ n ih =>
    intro v2 v3 res hf H locs ls M hl k104
    rw [f_X13_shortage_L56] at hf
    refine lv_iload_n hx hb dX13_shortage_56 rfl (lv_at hl 3 rfl) ?_
    refine lv_aload_n hx hb dX13_shortage_57 rfl (lv_at hl 0 rfl) ?_
    refine gf_X13_0 (i := 219) S M (by decide) rfl tw_6_107 dX13_shortage_58 ?_
    refine lv_bipush (v := 37) hx hb dX13_shortage_61 (by decide) ?_
    refine gk_iald (i := 220) (k := 37) S M (by decide) (gaa_134 rfl) (by unfold vp_in; decide) (by decide) dX13_shortage_63 ?_
    refine lv_icmp_ge (tgt := 104) hx hb dX13_shortage_64 (by decide) (fun c14 => ?_) (fun c14 => ?_)
    · have hf := it_p c14 hf
      cases hf
      exact k104 _ rfl _ _ _ M (lv_sub hl [2] rfl)
    · have hf := it_n c14 hf
      refine lv_iload_n hx hb dX13_shortage_67 rfl (lv_at hl 2 rfl) ?_
      refine lv_aload_n hx hb dX13_shortage_68 rfl (lv_at hl 0 rfl) ?_
      refine gf_X13_0 (i := 219) S M (by decide) rfl tw_6_107 dX13_shortage_69 ?_
      refine lv_bipush (v := 112) hx hb dX13_shortage_72 (by decide) ?_
      refine lv_iload_n hx hb dX13_shortage_74 rfl (lv_at hl 3 rfl) ?_
      refine lv_iadd hx hb dX13_shortage_75 ?_
      obtain ⟨h15, hf⟩ := gi_x hf
      refine gk_iald (i := 220) (k := (112 + v3).toNatClampNeg) S M (by decide) (gaa_134 rfl) h15 rfl dX13_shortage_76 ?_
      refine lv_iload_n hx hb dX13_shortage_77 rfl (lv_at hl 1 rfl) ?_
      refine lv_icmp_lt (tgt := 95) hx hb dX13_shortage_78 (by decide) (fun c16 => ?_) (fun c16 => ?_)
      · have hf := it_p c16 hf
        refine lv_iconst (v := 0) hx hb dX13_shortage_95 (by decide) ?_
        refine lv_isub hx hb dX13_shortage_96 ?_
        obtain ⟨x17, ex17, hf⟩ := nm_x hf
        refine g_topi ex17 ?_
        refine lv_istore_n (lv' := [(2, .int x17), (0, .ref (G.1 219)), (1, .int p1), (3, .int v3)]) hx hb dX13_shortage_97 rfl hl (by decide) rfl (fun ls hl => ?_)
        obtain ⟨x18, ex18, hf⟩ := nm_x hf
        refine lv_iinc (v := x18) (lv' := [(3, .int x18), (2, .int x17), (0, .ref (G.1 219)), (1, .int p1)]) hx hb dX13_shortage_98 hl (k := 3) rfl (by rw [ex18]; rfl) (by decide) rfl (fun ls hl => ?_)
        refine lv_goto (tgt := 56) hx hb dX13_shortage_101 (by decide) ?_
        exact ih _ _ _ hf _ _ _ M (lv_sub hl [2, 3, 1, 0] rfl) k104
      · have hf := it_n c16 hf
        refine lv_iconst (v := 3) hx hb dX13_shortage_81 (by decide) ?_
        refine lv_aload_n hx hb dX13_shortage_82 rfl (lv_at hl 0 rfl) ?_
        refine gf_X13_0 (i := 219) S M (by decide) rfl tw_6_107 dX13_shortage_83 ?_
        refine lv_bipush (v := 120) hx hb dX13_shortage_86 (by decide) ?_
        refine lv_iload_n hx hb dX13_shortage_88 rfl (lv_at hl 3 rfl) ?_
        refine lv_iadd hx hb dX13_shortage_89 ?_
        obtain ⟨h19, hf⟩ := gi_x hf
        refine gk_iald (i := 220) (k := (120 + v3).toNatClampNeg) S M (by decide) (gaa_134 rfl) h19 rfl dX13_shortage_90 ?_
        refine lv_isub hx hb dX13_shortage_91 ?_
        refine lv_goto (tgt := 96) hx hb dX13_shortage_92 (by decide) ?_
        refine lv_isub hx hb dX13_shortage_96 ?_
        obtain ⟨x20, ex20, hf⟩ := nm_x hf
        refine g_topi ex20 ?_
        refine lv_istore_n (lv' := [(2, .int x20), (0, .ref (G.1 219)), (1, .int p1), (3, .int v3)]) hx hb dX13_shortage_97 rfl hl (by decide) rfl (fun ls hl => ?_)
        obtain ⟨x21, ex21, hf⟩ := nm_x hf
        refine lv_iinc (v := x21) (lv' := [(3, .int x21), (2, .int x20), (0, .ref (G.1 219)), (1, .int p1)]) hx hb dX13_shortage_98 hl (k := 3) rfl (by rw [ex21]; rfl) (by decide) rfl (fun ls hl => ?_)
        refine lv_goto (tgt := 56) hx hb dX13_shortage_101 (by decide) ?_
        exact ih _ _ _ hf _ _ _ M (lv_sub hl [2, 3, 1, 0] rfl) k104
set_option maxHeartbeats 400000 in
set_option maxRecDepth 100000 in
theorem c_X13_shortage (l : Launch) (G : gT) (sz : Nat) (lo : Int64) (dd : UInt64) (σ : gM) (a1 : Int32) {o : Int32} (hf : f_X13_shortage σ a1 = some o) : gCT l yX13_shortage cX13_shortage 4 (some .int) { frames := 0, cells := 0, slots := 0, locals := 0 } 0 0 G sz [.ref (G.1 219), .int a1] lo dd σ (.inl (mkI o, σ, lo, dd)) := by
  refine gCT_of (by decide) (Nat.le_of_ble_eq_true rfl) (fun p e s m args below meth c ls S hr hlk hnx hsz C0 hl H locs M => ?_)
  subst hsz
  have hx := S.1
  have hb := S.2.1
  unfold f_X13_shortage at hf
  refine lv_iconst (v := 0) hx hb dX13_shortage_0 (by decide) ?_
  refine lv_istore_n (lv' := [(2, .int 0), (0, .ref (G.1 219)), (1, .int a1)]) hx hb dX13_shortage_1 rfl hl (by decide) rfl (fun ls hl => ?_)
  refine lv_iconst (v := 0) hx hb dX13_shortage_2 (by decide) ?_
  refine lv_istore_n (lv' := [(3, .int 0), (2, .int 0), (0, .ref (G.1 219)), (1, .int a1)]) hx hb dX13_shortage_3 rfl hl (by decide) rfl (fun ls hl => ?_)
  obtain ⟨y13, h12, hf⟩ := bd_x hf
  refine w_X13_shortage_L4 S C0 a1 σ gFU 0 0 _ h12 _ _ _ M (lv_sub hl [2, 3, 1, 0] rfl) (fun _ eq H locs ls M hl => ?_)
  cases eq
  refine lv_iconst (v := 0) hx hb dX13_shortage_54 (by decide) ?_
  refine lv_istore_n (lv' := [(3, .int 0), (0, .ref (G.1 219)), (1, .int a1), (2, .int y13)]) hx hb dX13_shortage_55 rfl hl (by decide) rfl (fun ls hl => ?_)
  obtain ⟨y23, h22, hf⟩ := bd_x hf
  refine w_X13_shortage_L56 S C0 a1 σ gFU y13 0 _ h22 _ _ _ M (lv_sub hl [1, 2, 3, 0] rfl) (fun _ eq H locs ls M hl => ?_)
  cases eq
  refine lv_iload_n hx hb dX13_shortage_104 rfl (lv_at hl 0 rfl) ?_
  cases hf
  exact g_iret S M hr hlk (by decide) (by decide) dX13_shortage_105 rfl
theorem k_X13_handleable : gMV yX13_handleable cX13_handleable 3 (some .int) 0 := ⟨tw_7_147, tw_1_12, by decide⟩
set_option maxHeartbeats 400000 in
set_option maxRecDepth 100000 in
theorem w_X13_handleable_L4 {p : Program} {l : Launch} {e : Env} {s : State} {m : MethodId} {args : Array Value} {below : List Frame} {meth : Method} {c : Code} {Q : State → Prop} {G : gT} {lo : Int64} {dd : UInt64} (S : CallFix p m c cX13_handleable 3 s args gTs RX13) (C0 : gCST G (gAA G s.heap.size) s) (σ : gM) : ∀ (n : Nat) (v1 : Int32) (v2 : Int32) (res : Int32), f_X13_handleable_L4 σ n v1 v2 = some res → ∀ (H : Heap) (locs : List Loc) (ls : Array Slot), gMS G (gAA G s.heap.size) lo dd σ s H locs → lv_has ls 3 [(0, .ref (G.1 219)), (1, .int v1), (2, .int v2)] → (k34 : ∀ (u1 : Int32), res = u1 → ∀ (H : Heap) (locs : List Loc) (ls : Array Slot), gMS G (gAA G s.heap.size) lo dd σ s H locs → lv_has ls 3 [(0, .ref (G.1 219)), (1, .int u1)] → W p l e ({ frames := 1, cells := 0, slots := 0, locals := 23 } : Room) s m args below meth c H locs 0 0 Q (F0 m 34 ls [])) → W p l e ({ frames := 1, cells := 0, slots := 0, locals := 23 } : Room) s m args below meth c H locs 0 0 Q (F0 m 4 ls []) := by
  have hx := S.1
  have hb := S.2.1
  intro n
  induction n with
  | zero =>
    intro v1 v2 res hf
    cases hf
  | succ n ih =>
    intro v1 v2 res hf H locs ls M hl k34
    rw [f_X13_handleable_L4] at hf
    refine lv_iload_n hx hb dX13_handleable_4 rfl (lv_at hl 2 rfl) ?_
    refine lv_iconst (v := 3) hx hb dX13_handleable_5 (by decide) ?_
    refine lv_icmp_gt (tgt := 34) hx hb dX13_handleable_6 (by decide) (fun c1 => ?_) (fun c1 => ?_)
    · have hf := it_p c1 hf
      cases hf
      exact k34 _ rfl _ _ _ M (lv_sub hl [0, 1] rfl)
    · have hf := it_n c1 hf
      refine lv_aload_n hx hb dX13_handleable_9 rfl (lv_at hl 0 rfl) ?_
      refine lv_iload_n hx hb dX13_handleable_10 rfl (lv_at hl 2 rfl) ?_
      obtain ⟨r3, h2, hf⟩ := bd_x hf
      refine g_callR (st1 := [.int r3]) (cells' := 0) (slots' := 0) M (g_invV (index := 147) S M C0 hl (c_X13_shortage l G H.size lo dd σ v2  h2) k_X13_shortage tw_7_150 tw_0_49 tw_7_148 (by decide) (ge_13 rfl) rfl rfl rfl rfl rfl rfl dX13_handleable_11) rfl rfl rfl (fun H locs M => ?_)
      refine lv_iload_n hx hb dX13_handleable_14 rfl (lv_at hl 1 rfl) ?_
      refine lv_icmp_le (tgt := 26) hx hb dX13_handleable_15 (by decide) (fun c4 => ?_) (fun c4 => ?_)
      · have hf := it_p c4 hf
        refine lv_iload_n hx hb dX13_handleable_26 rfl (lv_at hl 1 rfl) ?_
        refine lv_istore_n (lv' := [(1, .int v1), (0, .ref (G.1 219)), (2, .int v2)]) hx hb dX13_handleable_27 rfl hl (by decide) rfl (fun ls hl => ?_)
        obtain ⟨x5, ex5, hf⟩ := nm_x hf
        refine lv_iinc (v := x5) (lv' := [(2, .int x5), (1, .int v1), (0, .ref (G.1 219))]) hx hb dX13_handleable_28 hl (k := 2) rfl (by rw [ex5]; rfl) (by decide) rfl (fun ls hl => ?_)
        refine lv_goto (tgt := 4) hx hb dX13_handleable_31 (by decide) ?_
        exact ih _ _ _ hf _ _ _ M (lv_sub hl [2, 1, 0] rfl) k34
      · have hf := it_n c4 hf
        refine lv_aload_n hx hb dX13_handleable_18 rfl (lv_at hl 0 rfl) ?_
        refine lv_iload_n hx hb dX13_handleable_19 rfl (lv_at hl 2 rfl) ?_
        obtain ⟨r7, h6, hf⟩ := bd_x hf
        refine g_callR (st1 := [.int r7]) (cells' := 0) (slots' := 0) M (g_invV (index := 147) S M C0 hl (c_X13_shortage l G H.size lo dd σ v2  h6) k_X13_shortage tw_7_150 tw_0_49 tw_7_148 (by decide) (ge_13 rfl) rfl rfl rfl rfl rfl rfl dX13_handleable_20) rfl rfl rfl (fun H locs M => ?_)
        refine lv_goto (tgt := 27) hx hb dX13_handleable_23 (by decide) ?_
        refine lv_istore_n (lv' := [(1, .int r7), (0, .ref (G.1 219)), (2, .int v2)]) hx hb dX13_handleable_27 rfl hl (by decide) rfl (fun ls hl => ?_)
        obtain ⟨x8, ex8, hf⟩ := nm_x hf
        refine lv_iinc (v := x8) (lv' := [(2, .int x8), (1, .int r7), (0, .ref (G.1 219))]) hx hb dX13_handleable_28 hl (k := 2) rfl (by rw [ex8]; rfl) (by decide) rfl (fun ls hl => ?_)
        refine lv_goto (tgt := 4) hx hb dX13_handleable_31 (by decide) ?_
        exact ih _ _ _ hf _ _ _ M (lv_sub hl [2, 1, 0] rfl) k34
set_option maxHeartbeats 400000 in
set_option maxRecDepth 100000 in
theorem c_X13_handleable (l : Launch) (G : gT) (sz : Nat) (lo : Int64) (dd : UInt64) (σ : gM) {r : Int32} {o : gM} (hf : f_X13_handleable σ = some (r, o)) : gCT l yX13_handleable cX13_handleable 3 (some .int) { frames := 1, cells := 0, slots := 0, locals := 23 } 0 0 G sz [.ref (G.1 219)] lo dd σ (.inl (mkI r, o, lo, dd)) := by
  refine gCT_of (by decide) (Nat.le_of_ble_eq_true rfl) (fun p e s m args below meth c ls S hr hlk hnx hsz C0 hl H locs M => ?_)
  subst hsz
  have hx := S.1
  have hb := S.2.1
  unfold f_X13_handleable at hf
  refine lv_iconst (v := 0) hx hb dX13_handleable_0 (by decide) ?_
  refine lv_istore_n (lv' := [(1, .int 0), (0, .ref (G.1 219))]) hx hb dX13_handleable_1 rfl hl (by decide) rfl (fun ls hl => ?_)
  refine lv_iconst (v := 1) hx hb dX13_handleable_2 (by decide) ?_
  refine lv_istore_n (lv' := [(2, .int 1), (1, .int 0), (0, .ref (G.1 219))]) hx hb dX13_handleable_3 rfl hl (by decide) rfl (fun ls hl => ?_)
  obtain ⟨y10, h9, hf⟩ := bd_x hf
  refine w_X13_handleable_L4 S C0 σ gFU 0 1 _ h9 _ _ _ M (lv_sub hl [2, 1, 0] rfl) (fun _ eq H locs ls M hl => ?_)
  cases eq
  refine lv_aload_n hx hb dX13_handleable_34 rfl (lv_at hl 0 rfl) ?_
  refine lv_aload_n hx hb dX13_handleable_35 rfl (lv_at hl 0 rfl) ?_
  refine lv_iconst (v := 0) hx hb dX13_handleable_36 (by decide) ?_
  obtain ⟨r12, h11, hf⟩ := bd_x hf
  refine g_callR (st1 := [.int r12, .ref (G.1 219)]) (cells' := 0) (slots' := 0) M (g_invV (index := 141) S M C0 hl (c_X13_inState l G H.size lo dd σ 0  h11) k_X13_inState tw_7_114 tw_0_47 tw_7_112 (by decide) (ge_13 rfl) rfl rfl rfl rfl rfl rfl dX13_handleable_37) rfl rfl rfl (fun H locs M => ?_)
  refine lv_iload_n hx hb dX13_handleable_40 rfl (lv_at hl 1 rfl) ?_
  refine lv_isub hx hb dX13_handleable_41 ?_
  obtain ⟨r14, σ15, h13, hf⟩ := bd2_x hf
  refine g_callR (st1 := [.int r14]) (cells' := 0) (slots' := 0) M (g_invV (index := 72) S M C0 hl (c_X13_done l G H.size lo dd σ (r12 - y10)  h13) k_X13_done tw_6_198 tw_0_29 tw_6_196 (by decide) (ge_13 rfl) rfl rfl rfl rfl rfl rfl dX13_handleable_42) rfl rfl rfl (fun H locs M => ?_)
  cases hf
  exact g_iret S M hr hlk (by decide) (by decide) dX13_handleable_45 rfl
theorem k_X13_handleableByShortage : gMV yX13_handleableByShortage cX13_handleableByShortage 1 (some .int) 0 := ⟨tw_7_155, tw_1_12, by decide⟩
set_option maxHeartbeats 400000 in
set_option maxRecDepth 100000 in
theorem c_X13_handleableByShortage (l : Launch) (G : gT) (sz : Nat) (lo : Int64) (dd : UInt64) (σ : gM) {r : Int32} {o : gM} (hf : f_X13_handleableByShortage σ = some (r, o)) : gCT l yX13_handleableByShortage cX13_handleableByShortage 1 (some .int) { frames := 2, cells := 0, slots := 0, locals := 45 } 0 0 G sz [.ref (G.1 219)] lo dd σ (.inl (mkI r, o, lo, dd)) := by
  refine gCT_of (by decide) (Nat.le_of_ble_eq_true rfl) (fun p e s m args below meth c ls S hr hlk hnx hsz C0 hl H locs M => ?_)
  subst hsz
  have hx := S.1
  have hb := S.2.1
  unfold f_X13_handleableByShortage at hf
  refine lv_aload_n hx hb dX13_handleableByShortage_0 rfl (lv_at hl 0 rfl) ?_
  obtain ⟨r2, σ3, h1, hf⟩ := bd2_x hf
  refine g_callR (st1 := [.int r2]) (cells' := 0) (slots' := 0) M (g_invV (index := 150) S M C0 hl (c_X13_handleable l G H.size lo dd σ   h1) k_X13_handleable tw_7_145 tw_7_146 tw_7_156 (by decide) (ge_13 rfl) rfl rfl rfl rfl rfl rfl dX13_handleableByShortage_1) rfl rfl rfl (fun H locs M => ?_)
  cases hf
  exact g_iret S M hr hlk (by decide) (by decide) dX13_handleableByShortage_4 rfl
theorem k_X13_sackNumber : gMV yX13_sackNumber cX13_sackNumber 3 (some .int) 2 := ⟨tw_7_164, tw_1_12, by decide⟩
set_option maxHeartbeats 400000 in
set_option maxRecDepth 100000 in
theorem c_X13_sackNumber (l : Launch) (G : gT) (sz : Nat) (lo : Int64) (dd : UInt64) (σ : gM) (a1 : Int32) (a2 : Int32) {r : Int32} {o : gM} (hf : f_X13_sackNumber σ a1 a2 = some (r, o)) : gCT l yX13_sackNumber cX13_sackNumber 3 (some .int) { frames := 2, cells := 0, slots := 0, locals := 42 } 0 0 G sz [.ref (G.1 219), .int a1, .int a2] lo dd σ (.inl (mkI r, o, lo, dd)) := by
  refine gCT_of (by decide) (Nat.le_of_ble_eq_true rfl) (fun p e s m args below meth c ls S hr hlk hnx hsz C0 hl H locs M => ?_)
  subst hsz
  have hx := S.1
  have hb := S.2.1
  unfold f_X13_sackNumber at hf
  refine lv_iload_n hx hb dX13_sackNumber_0 rfl (lv_at hl 2 rfl) ?_
  obtain ⟨r2, h1, hf⟩ := bd_x hf
  refine g_callR (st1 := [.int r2]) (cells' := 0) (slots' := 0) M (g_invS (index := 95) S M C0 hl (c_X13_isSack l G H.size lo dd σ a2  h1) k_X13_isSack tw_6_229 tw_6_228 rfl rfl rfl rfl dX13_sackNumber_1) rfl rfl rfl (fun H locs M => ?_)
  refine lv_if_eq (tgt := 22) hx hb dX13_sackNumber_4 (by decide) (fun c3 => ?_) (fun c3 => ?_)
  · have hf := it_p c3 hf
    refine lv_aload_n hx hb dX13_sackNumber_22 rfl (lv_at hl 0 rfl) ?_
    refine lv_iconst (v := 1) hx hb dX13_sackNumber_23 (by decide) ?_
    obtain ⟨r5, σ6, h4, hf⟩ := bd2_x hf
    refine g_callR (st1 := [.int r5]) (cells' := 0) (slots' := 0) M (g_invV (index := 64) S M C0 hl (c_X13_fails l G H.size lo dd σ 1  h4) k_X13_fails tw_6_186 tw_0_26 tw_6_184 (by decide) (ge_13 rfl) rfl rfl rfl rfl rfl rfl dX13_sackNumber_24) rfl rfl rfl (fun H locs M => ?_)
    cases hf
    exact g_iret S M hr hlk (by decide) (by decide) dX13_sackNumber_27 rfl
  · have hf := it_n c3 hf
    refine lv_aload_n hx hb dX13_sackNumber_7 rfl (lv_at hl 0 rfl) ?_
    refine lv_aload_n hx hb dX13_sackNumber_8 rfl (lv_at hl 0 rfl) ?_
    refine gf_X13_0 (i := 219) S M (by decide) rfl tw_6_107 dX13_sackNumber_9 ?_
    refine lv_iload_n hx hb dX13_sackNumber_12 rfl (lv_at hl 1 rfl) ?_
    refine lv_iload_n hx hb dX13_sackNumber_13 rfl (lv_at hl 2 rfl) ?_
    refine lv_iadd hx hb dX13_sackNumber_14 ?_
    obtain ⟨h7, hf⟩ := gi_x hf
    refine gk_iald (i := 220) (k := (a1 + a2).toNatClampNeg) S M (by decide) (gaa_134 rfl) h7 rfl dX13_sackNumber_15 ?_
    obtain ⟨r9, σ10, h8, hf⟩ := bd2_x hf
    refine g_callR (st1 := [.int r9]) (cells' := 0) (slots' := 0) M (g_invV (index := 72) S M C0 hl (c_X13_done l G H.size lo dd σ (σ 220 (a1 + a2).toNatClampNeg)  h8) k_X13_done tw_6_198 tw_0_29 tw_6_196 (by decide) (ge_13 rfl) rfl rfl rfl rfl rfl rfl dX13_sackNumber_16) rfl rfl rfl (fun H locs M => ?_)
    refine lv_goto (tgt := 27) hx hb dX13_sackNumber_19 (by decide) ?_
    cases hf
    exact g_iret S M hr hlk (by decide) (by decide) dX13_sackNumber_27 rfl
theorem k_X13_place : gMV yX13_place cX13_place 2 (some .int) 1 := ⟨tw_7_160, tw_1_12, by decide⟩
set_option maxHeartbeats 400000 in
set_option maxRecDepth 100000 in
theorem c_X13_place (l : Launch) (G : gT) (sz : Nat) (lo : Int64) (dd : UInt64) (σ : gM) (a1 : Int32) {r : Int32} {o : gM} (hf : f_X13_place σ a1 = some (r, o)) : gCT l yX13_place cX13_place 2 (some .int) { frames := 3, cells := 0, slots := 0, locals := 64 } 0 0 G sz [.ref (G.1 219), .int a1] lo dd σ (.inl (mkI r, o, lo, dd)) := by
  refine gCT_of (by decide) (Nat.le_of_ble_eq_true rfl) (fun p e s m args below meth c ls S hr hlk hnx hsz C0 hl H locs M => ?_)
  subst hsz
  have hx := S.1
  have hb := S.2.1
  unfold f_X13_place at hf
  refine lv_aload_n hx hb dX13_place_0 rfl (lv_at hl 0 rfl) ?_
  refine lv_sipush (v := 128) hx hb dX13_place_1 (by decide) ?_
  refine lv_iload_n hx hb dX13_place_4 rfl (lv_at hl 1 rfl) ?_
  obtain ⟨r2, σ3, h1, hf⟩ := bd2_x hf
  refine g_callR (st1 := [.int r2]) (cells' := 0) (slots' := 0) M (g_invV (index := 153) S M C0 hl (c_X13_sackNumber l G H.size lo dd σ 128 a1  h1) k_X13_sackNumber tw_7_163 tw_0_50 tw_7_161 (by decide) (ge_13 rfl) rfl rfl rfl rfl rfl rfl dX13_place_5) rfl rfl rfl (fun H locs M => ?_)
  cases hf
  exact g_iret S M hr hlk (by decide) (by decide) dX13_place_8 rfl
theorem k_X13_capacity : gMV yX13_capacity cX13_capacity 2 (some .int) 1 := ⟨tw_7_168, tw_1_12, by decide⟩
set_option maxHeartbeats 400000 in
set_option maxRecDepth 100000 in
theorem c_X13_capacity (l : Launch) (G : gT) (sz : Nat) (lo : Int64) (dd : UInt64) (σ : gM) (a1 : Int32) {r : Int32} {o : gM} (hf : f_X13_capacity σ a1 = some (r, o)) : gCT l yX13_capacity cX13_capacity 2 (some .int) { frames := 3, cells := 0, slots := 0, locals := 64 } 0 0 G sz [.ref (G.1 219), .int a1] lo dd σ (.inl (mkI r, o, lo, dd)) := by
  refine gCT_of (by decide) (Nat.le_of_ble_eq_true rfl) (fun p e s m args below meth c ls S hr hlk hnx hsz C0 hl H locs M => ?_)
  subst hsz
  have hx := S.1
  have hb := S.2.1
  unfold f_X13_capacity at hf
  refine lv_aload_n hx hb dX13_capacity_0 rfl (lv_at hl 0 rfl) ?_
  refine lv_sipush (v := 131) hx hb dX13_capacity_1 (by decide) ?_
  refine lv_iload_n hx hb dX13_capacity_4 rfl (lv_at hl 1 rfl) ?_
  obtain ⟨r2, σ3, h1, hf⟩ := bd2_x hf
  refine g_callR (st1 := [.int r2]) (cells' := 0) (slots' := 0) M (g_invV (index := 153) S M C0 hl (c_X13_sackNumber l G H.size lo dd σ 131 a1  h1) k_X13_sackNumber tw_7_163 tw_0_50 tw_7_161 (by decide) (ge_13 rfl) rfl rfl rfl rfl rfl rfl dX13_capacity_5) rfl rfl rfl (fun H locs M => ?_)
  cases hf
  exact g_iret S M hr hlk (by decide) (by decide) dX13_capacity_8 rfl
theorem k_X13_load : gMV yX13_load cX13_load 2 (some .int) 1 := ⟨tw_7_172, tw_1_12, by decide⟩
set_option maxHeartbeats 400000 in
set_option maxRecDepth 100000 in
theorem c_X13_load (l : Launch) (G : gT) (sz : Nat) (lo : Int64) (dd : UInt64) (σ : gM) (a1 : Int32) {r : Int32} {o : gM} (hf : f_X13_load σ a1 = some (r, o)) : gCT l yX13_load cX13_load 2 (some .int) { frames := 2, cells := 0, slots := 0, locals := 42 } 0 0 G sz [.ref (G.1 219), .int a1] lo dd σ (.inl (mkI r, o, lo, dd)) := by
  refine gCT_of (by decide) (Nat.le_of_ble_eq_true rfl) (fun p e s m args below meth c ls S hr hlk hnx hsz C0 hl H locs M => ?_)
  subst hsz
  have hx := S.1
  have hb := S.2.1
  unfold f_X13_load at hf
  refine lv_iload_n hx hb dX13_load_0 rfl (lv_at hl 1 rfl) ?_
  obtain ⟨r2, h1, hf⟩ := bd_x hf
  refine g_callR (st1 := [.int r2]) (cells' := 0) (slots' := 0) M (g_invS (index := 95) S M C0 hl (c_X13_isSack l G H.size lo dd σ a1  h1) k_X13_isSack tw_6_229 tw_6_228 rfl rfl rfl rfl dX13_load_1) rfl rfl rfl (fun H locs M => ?_)
  refine lv_if_eq (tgt := 19) hx hb dX13_load_4 (by decide) (fun c3 => ?_) (fun c3 => ?_)
  · have hf := it_p c3 hf
    refine lv_aload_n hx hb dX13_load_19 rfl (lv_at hl 0 rfl) ?_
    refine lv_iconst (v := 1) hx hb dX13_load_20 (by decide) ?_
    obtain ⟨r5, σ6, h4, hf⟩ := bd2_x hf
    refine g_callR (st1 := [.int r5]) (cells' := 0) (slots' := 0) M (g_invV (index := 64) S M C0 hl (c_X13_fails l G H.size lo dd σ 1  h4) k_X13_fails tw_6_186 tw_0_26 tw_6_184 (by decide) (ge_13 rfl) rfl rfl rfl rfl rfl rfl dX13_load_21) rfl rfl rfl (fun H locs M => ?_)
    cases hf
    exact g_iret S M hr hlk (by decide) (by decide) dX13_load_24 rfl
  · have hf := it_n c3 hf
    refine lv_aload_n hx hb dX13_load_7 rfl (lv_at hl 0 rfl) ?_
    refine lv_aload_n hx hb dX13_load_8 rfl (lv_at hl 0 rfl) ?_
    refine lv_iload_n hx hb dX13_load_9 rfl (lv_at hl 1 rfl) ?_
    obtain ⟨r8, h7, hf⟩ := bd_x hf
    refine g_callR (st1 := [.int r8, .ref (G.1 219)]) (cells' := 0) (slots' := 0) M (g_invV (index := 98) S M C0 hl (c_X13_loadOf l G H.size lo dd σ a1  h7) k_X13_loadOf tw_6_233 tw_0_34 tw_6_231 (by decide) (ge_13 rfl) rfl rfl rfl rfl rfl rfl dX13_load_10) rfl rfl rfl (fun H locs M => ?_)
    obtain ⟨r10, σ11, h9, hf⟩ := bd2_x hf
    refine g_callR (st1 := [.int r10]) (cells' := 0) (slots' := 0) M (g_invV (index := 72) S M C0 hl (c_X13_done l G H.size lo dd σ r8  h9) k_X13_done tw_6_198 tw_0_29 tw_6_196 (by decide) (ge_13 rfl) rfl rfl rfl rfl rfl rfl dX13_load_13) rfl rfl rfl (fun H locs M => ?_)
    refine lv_goto (tgt := 24) hx hb dX13_load_16 (by decide) ?_
    cases hf
    exact g_iret S M hr hlk (by decide) (by decide) dX13_load_24 rfl
theorem k_X13_parcelsIn : gMV yX13_parcelsIn cX13_parcelsIn 4 (some .int) 1 := ⟨tw_7_176, tw_1_12, by decide⟩
set_option maxHeartbeats 400000 in
set_option maxRecDepth 100000 in
theorem w_X13_parcelsIn_L17 {p : Program} {l : Launch} {e : Env} {s : State} {m : MethodId} {args : Array Value} {below : List Frame} {meth : Method} {c : Code} {Q : State → Prop} {G : gT} {lo : Int64} {dd : UInt64} (S : CallFix p m c cX13_parcelsIn 4 s args gTs RX13) (C0 : gCST G (gAA G s.heap.size) s) (p1 : Int32) (σ : gM) : ∀ (n : Nat) (v2 : Int32) (v3 : Int32) (res : Int32), f_X13_parcelsIn_L17 p1 σ n v2 v3 = some res → ∀ (H : Heap) (locs : List Loc) (ls : Array Slot), gMS G (gAA G s.heap.size) lo dd σ s H locs → lv_has ls 4 [(0, .ref (G.1 219)), (1, .int p1), (2, .int v2), (3, .int v3)] → (k68 : ∀ (u2 : Int32), res = u2 → ∀ (H : Heap) (locs : List Loc) (ls : Array Slot), gMS G (gAA G s.heap.size) lo dd σ s H locs → lv_has ls 4 [(0, .ref (G.1 219)), (2, .int u2)] → W p l e ({ frames := 2, cells := 0, slots := 0, locals := 42 } : Room) s m args below meth c H locs 0 0 Q (F0 m 68 ls [])) → W p l e ({ frames := 2, cells := 0, slots := 0, locals := 42 } : Room) s m args below meth c H locs 0 0 Q (F0 m 17 ls []) := by
  have hx := S.1
  have hb := S.2.1
  intro n
  induction n with
  | zero =>
    intro v2 v3 res hf
    cases hf
  | succ n ih =>
    intro v2 v3 res hf H locs ls M hl k68
    rw [f_X13_parcelsIn_L17] at hf
    refine lv_iload_n hx hb dX13_parcelsIn_17 rfl (lv_at hl 3 rfl) ?_
    refine lv_aload_n hx hb dX13_parcelsIn_18 rfl (lv_at hl 0 rfl) ?_
    refine gf_X13_0 (i := 219) S M (by decide) rfl tw_6_107 dX13_parcelsIn_19 ?_
    refine lv_bipush (v := 36) hx hb dX13_parcelsIn_22 (by decide) ?_
    refine gk_iald (i := 220) (k := 36) S M (by decide) (gaa_134 rfl) (by unfold vp_in; decide) (by decide) dX13_parcelsIn_24 ?_
    refine lv_icmp_ge (tgt := 68) hx hb dX13_parcelsIn_25 (by decide) (fun c4 => ?_) (fun c4 => ?_)
    · have hf := it_p c4 hf
      cases hf
      exact k68 _ rfl _ _ _ M (lv_sub hl [0, 2] rfl)
    · have hf := it_n c4 hf
      refine lv_iload_n hx hb dX13_parcelsIn_28 rfl (lv_at hl 2 rfl) ?_
      refine lv_aload_n hx hb dX13_parcelsIn_29 rfl (lv_at hl 0 rfl) ?_
      refine gf_X13_0 (i := 219) S M (by decide) rfl tw_6_107 dX13_parcelsIn_30 ?_
      refine lv_bipush (v := 76) hx hb dX13_parcelsIn_33 (by decide) ?_
      refine lv_iload_n hx hb dX13_parcelsIn_35 rfl (lv_at hl 3 rfl) ?_
      refine lv_iadd hx hb dX13_parcelsIn_36 ?_
      obtain ⟨h5, hf⟩ := gi_x hf
      refine gk_iald (i := 220) (k := (76 + v3).toNatClampNeg) S M (by decide) (gaa_134 rfl) h5 rfl dX13_parcelsIn_37 ?_
      refine lv_iconst (v := 1) hx hb dX13_parcelsIn_38 (by decide) ?_
      refine lv_icmp_ne (tgt := 59) hx hb dX13_parcelsIn_39 (by decide) (fun c6 => ?_) (fun c6 => ?_)
      · have hf := it_n c6 hf
        refine lv_iconst (v := 0) hx hb dX13_parcelsIn_59 (by decide) ?_
        refine lv_iadd hx hb dX13_parcelsIn_60 ?_
        obtain ⟨x7, ex7, hf⟩ := nm_x hf
        refine g_topi ex7 ?_
        refine lv_istore_n (lv' := [(2, .int x7), (0, .ref (G.1 219)), (1, .int p1), (3, .int v3)]) hx hb dX13_parcelsIn_61 rfl hl (by decide) rfl (fun ls hl => ?_)
        obtain ⟨x8, ex8, hf⟩ := nm_x hf
        refine lv_iinc (v := x8) (lv' := [(3, .int x8), (2, .int x7), (0, .ref (G.1 219)), (1, .int p1)]) hx hb dX13_parcelsIn_62 hl (k := 3) rfl (by rw [ex8]; rfl) (by decide) rfl (fun ls hl => ?_)
        refine lv_goto (tgt := 17) hx hb dX13_parcelsIn_65 (by decide) ?_
        exact ih _ _ _ hf _ _ _ M (lv_sub hl [2, 3, 1, 0] rfl) k68
      · have hf := it_p c6 hf
        refine lv_aload_n hx hb dX13_parcelsIn_42 rfl (lv_at hl 0 rfl) ?_
        refine gf_X13_0 (i := 219) S M (by decide) rfl tw_6_107 dX13_parcelsIn_43 ?_
        refine lv_bipush (v := 88) hx hb dX13_parcelsIn_46 (by decide) ?_
        refine lv_iload_n hx hb dX13_parcelsIn_48 rfl (lv_at hl 3 rfl) ?_
        refine lv_iadd hx hb dX13_parcelsIn_49 ?_
        obtain ⟨h9, hf⟩ := gi_x hf
        refine gk_iald (i := 220) (k := (88 + v3).toNatClampNeg) S M (by decide) (gaa_134 rfl) h9 rfl dX13_parcelsIn_50 ?_
        refine lv_iload_n hx hb dX13_parcelsIn_51 rfl (lv_at hl 1 rfl) ?_
        refine lv_icmp_ne (tgt := 59) hx hb dX13_parcelsIn_52 (by decide) (fun c10 => ?_) (fun c10 => ?_)
        · have hf := it_n c10 hf
          refine lv_iconst (v := 0) hx hb dX13_parcelsIn_59 (by decide) ?_
          refine lv_iadd hx hb dX13_parcelsIn_60 ?_
          obtain ⟨x11, ex11, hf⟩ := nm_x hf
          refine g_topi ex11 ?_
          refine lv_istore_n (lv' := [(2, .int x11), (0, .ref (G.1 219)), (1, .int p1), (3, .int v3)]) hx hb dX13_parcelsIn_61 rfl hl (by decide) rfl (fun ls hl => ?_)
          obtain ⟨x12, ex12, hf⟩ := nm_x hf
          refine lv_iinc (v := x12) (lv' := [(3, .int x12), (2, .int x11), (0, .ref (G.1 219)), (1, .int p1)]) hx hb dX13_parcelsIn_62 hl (k := 3) rfl (by rw [ex12]; rfl) (by decide) rfl (fun ls hl => ?_)
          refine lv_goto (tgt := 17) hx hb dX13_parcelsIn_65 (by decide) ?_
          exact ih _ _ _ hf _ _ _ M (lv_sub hl [2, 3, 1, 0] rfl) k68
        · have hf := it_p c10 hf
          refine lv_iconst (v := 1) hx hb dX13_parcelsIn_55 (by decide) ?_
          refine lv_goto (tgt := 60) hx hb dX13_parcelsIn_56 (by decide) ?_
          refine lv_iadd hx hb dX13_parcelsIn_60 ?_
          obtain ⟨x13, ex13, hf⟩ := nm_x hf
          refine g_topi ex13 ?_
          refine lv_istore_n (lv' := [(2, .int x13), (0, .ref (G.1 219)), (1, .int p1), (3, .int v3)]) hx hb dX13_parcelsIn_61 rfl hl (by decide) rfl (fun ls hl => ?_)
          obtain ⟨x14, ex14, hf⟩ := nm_x hf
          refine lv_iinc (v := x14) (lv' := [(3, .int x14), (2, .int x13), (0, .ref (G.1 219)), (1, .int p1)]) hx hb dX13_parcelsIn_62 hl (k := 3) rfl (by rw [ex14]; rfl) (by decide) rfl (fun ls hl => ?_)
          refine lv_goto (tgt := 17) hx hb dX13_parcelsIn_65 (by decide) ?_
          exact ih _ _ _ hf _ _ _ M (lv_sub hl [2, 3, 1, 0] rfl) k68
set_option maxHeartbeats 400000 in
set_option maxRecDepth 100000 in
theorem c_X13_parcelsIn (l : Launch) (G : gT) (sz : Nat) (lo : Int64) (dd : UInt64) (σ : gM) (a1 : Int32) {r : Int32} {o : gM} (hf : f_X13_parcelsIn σ a1 = some (r, o)) : gCT l yX13_parcelsIn cX13_parcelsIn 4 (some .int) { frames := 2, cells := 0, slots := 0, locals := 42 } 0 0 G sz [.ref (G.1 219), .int a1] lo dd σ (.inl (mkI r, o, lo, dd)) := by
  refine gCT_of (by decide) (Nat.le_of_ble_eq_true rfl) (fun p e s m args below meth c ls S hr hlk hnx hsz C0 hl H locs M => ?_)
  subst hsz
  have hx := S.1
  have hb := S.2.1
  unfold f_X13_parcelsIn at hf
  refine lv_iload_n hx hb dX13_parcelsIn_0 rfl (lv_at hl 1 rfl) ?_
  obtain ⟨r2, h1, hf⟩ := bd_x hf
  refine g_callR (st1 := [.int r2]) (cells' := 0) (slots' := 0) M (g_invS (index := 95) S M C0 hl (c_X13_isSack l G H.size lo dd σ a1  h1) k_X13_isSack tw_6_229 tw_6_228 rfl rfl rfl rfl dX13_parcelsIn_1) rfl rfl rfl (fun H locs M => ?_)
  refine lv_if_ne (tgt := 13) hx hb dX13_parcelsIn_4 (by decide) (fun c3 => ?_) (fun c3 => ?_)
  · have hf := it_n c3 hf
    refine lv_iconst (v := 0) hx hb dX13_parcelsIn_13 (by decide) ?_
    refine lv_istore_n (lv' := [(2, .int 0), (0, .ref (G.1 219)), (1, .int a1)]) hx hb dX13_parcelsIn_14 rfl hl (by decide) rfl (fun ls hl => ?_)
    refine lv_iconst (v := 0) hx hb dX13_parcelsIn_15 (by decide) ?_
    refine lv_istore_n (lv' := [(3, .int 0), (2, .int 0), (0, .ref (G.1 219)), (1, .int a1)]) hx hb dX13_parcelsIn_16 rfl hl (by decide) rfl (fun ls hl => ?_)
    obtain ⟨y16, h15, hf⟩ := bd_x hf
    refine w_X13_parcelsIn_L17 S C0 a1 σ gFU 0 0 _ h15 _ _ _ M (lv_sub hl [2, 3, 1, 0] rfl) (fun _ eq H locs ls M hl => ?_)
    cases eq
    refine lv_aload_n hx hb dX13_parcelsIn_68 rfl (lv_at hl 0 rfl) ?_
    refine lv_iload_n hx hb dX13_parcelsIn_69 rfl (lv_at hl 1 rfl) ?_
    obtain ⟨r18, σ19, h17, hf⟩ := bd2_x hf
    refine g_callR (st1 := [.int r18]) (cells' := 0) (slots' := 0) M (g_invV (index := 72) S M C0 hl (c_X13_done l G H.size lo dd σ y16  h17) k_X13_done tw_6_198 tw_0_29 tw_6_196 (by decide) (ge_13 rfl) rfl rfl rfl rfl rfl rfl dX13_parcelsIn_70) rfl rfl rfl (fun H locs M => ?_)
    cases hf
    exact g_iret S M hr hlk (by decide) (by decide) dX13_parcelsIn_73 rfl
  · have hf := it_p c3 hf
    refine lv_aload_n hx hb dX13_parcelsIn_7 rfl (lv_at hl 0 rfl) ?_
    refine lv_iconst (v := 1) hx hb dX13_parcelsIn_8 (by decide) ?_
    obtain ⟨r21, σ22, h20, hf⟩ := bd2_x hf
    refine g_callR (st1 := [.int r21]) (cells' := 0) (slots' := 0) M (g_invV (index := 64) S M C0 hl (c_X13_fails l G H.size lo dd σ 1  h20) k_X13_fails tw_6_186 tw_0_26 tw_6_184 (by decide) (ge_13 rfl) rfl rfl rfl rfl rfl rfl dX13_parcelsIn_9) rfl rfl rfl (fun H locs M => ?_)
    cases hf
    exact g_iret S M hr hlk (by decide) (by decide) dX13_parcelsIn_12 rfl
theorem k_X13_mostFitting : gMV yX13_mostFitting cX13_mostFitting 6 (some .int) 1 := ⟨tw_7_180, tw_1_12, by decide⟩
set_option maxHeartbeats 400000 in
set_option maxRecDepth 100000 in
theorem w_X13_mostFitting_L45 {p : Program} {l : Launch} {e : Env} {s : State} {m : MethodId} {args : Array Value} {below : List Frame} {meth : Method} {c : Code} {Q : State → Prop} {G : gT} {lo : Int64} {dd : UInt64} (S : CallFix p m c cX13_mostFitting 6 s args gTs RX13) (C0 : gCST G (gAA G s.heap.size) s) (p4 : Int32) (σ : gM) : ∀ (n : Nat) (v2 : Int32) (v3 : Int32) (v5 : Int32) (res : Int32 × Int32), f_X13_mostFitting_L45 p4 σ n v2 v3 v5 = some res → ∀ (H : Heap) (locs : List Loc) (ls : Array Slot), gMS G (gAA G s.heap.size) lo dd σ s H locs → lv_has ls 6 [(0, .ref (G.1 219)), (2, .int v2), (3, .int v3), (4, .int p4), (5, .int v5)] → (k105 : ∀ (u2 : Int32) (u3 : Int32), res = (u2, u3) → ∀ (H : Heap) (locs : List Loc) (ls : Array Slot), gMS G (gAA G s.heap.size) lo dd σ s H locs → lv_has ls 6 [(0, .ref (G.1 219)), (2, .int u2), (3, .int u3), (4, .int p4)] → W p l e ({ frames := 2, cells := 0, slots := 0, locals := 42 } : Room) s m args below meth c H locs 0 0 Q (F0 m 105 ls [])) → W p l e ({ frames := 2, cells := 0, slots := 0, locals := 42 } : Room) s m args below meth c H locs 0 0 Q (F0 m 45 ls []) := by
  have hx := S.1
  have hb := S.2.1
  intro n
  induction n with
  | zero =>
    intro v2 v3 v5 res hf
    cases hf
  | succ n ih =>
    intro v2 v3 v5 res hf H locs ls M hl k105
    rw [f_X13_mostFitting_L45] at hf
    refine lv_iload hx hb dX13_mostFitting_45 (lv_at hl 4 rfl) ?_
    refine lv_aload_n hx hb dX13_mostFitting_47 rfl (lv_at hl 0 rfl) ?_
    refine gf_X13_0 (i := 219) S M (by decide) rfl tw_6_107 dX13_mostFitting_48 ?_
    refine lv_bipush (v := 36) hx hb dX13_mostFitting_51 (by decide) ?_
    refine gk_iald (i := 220) (k := 36) S M (by decide) (gaa_134 rfl) (by unfold vp_in; decide) (by decide) dX13_mostFitting_53 ?_
    refine lv_icmp_ge (tgt := 105) hx hb dX13_mostFitting_54 (by decide) (fun c9 => ?_) (fun c9 => ?_)
    · have hf := it_p c9 hf
      cases hf
      exact k105 _ _ rfl _ _ _ M (lv_sub hl [0, 1, 2, 3] rfl)
    · have hf := it_n c9 hf
      refine lv_aload_n hx hb dX13_mostFitting_57 rfl (lv_at hl 0 rfl) ?_
      refine gf_X13_0 (i := 219) S M (by decide) rfl tw_6_107 dX13_mostFitting_58 ?_
      refine lv_bipush (v := 76) hx hb dX13_mostFitting_61 (by decide) ?_
      refine lv_iload hx hb dX13_mostFitting_63 (lv_at hl 4 rfl) ?_
      refine lv_iadd hx hb dX13_mostFitting_65 ?_
      obtain ⟨h10, hf⟩ := gi_x hf
      refine gk_iald (i := 220) (k := (76 + v5).toNatClampNeg) S M (by decide) (gaa_134 rfl) h10 rfl dX13_mostFitting_66 ?_
      refine lv_if_ne (tgt := 99) hx hb dX13_mostFitting_67 (by decide) (fun c11 => ?_) (fun c11 => ?_)
      · have hf := it_n c11 hf
        obtain ⟨x12, ex12, hf⟩ := nm_x hf
        refine lv_iinc (v := x12) (lv' := [(5, .int x12), (0, .ref (G.1 219)), (2, .int v2), (3, .int v3), (4, .int p4)]) hx hb dX13_mostFitting_99 hl (k := 4) rfl (by rw [ex12]; rfl) (by decide) rfl (fun ls hl => ?_)
        refine lv_goto (tgt := 45) hx hb dX13_mostFitting_102 (by decide) ?_
        exact ih _ _ _ _ hf _ _ _ M (lv_sub hl [1, 2, 3, 4, 0] rfl) k105
      · have hf := it_p c11 hf
        refine lv_aload_n hx hb dX13_mostFitting_70 rfl (lv_at hl 0 rfl) ?_
        refine gf_X13_0 (i := 219) S M (by decide) rfl tw_6_107 dX13_mostFitting_71 ?_
        refine lv_bipush (v := 40) hx hb dX13_mostFitting_74 (by decide) ?_
        refine lv_iload hx hb dX13_mostFitting_76 (lv_at hl 4 rfl) ?_
        refine lv_iadd hx hb dX13_mostFitting_78 ?_
        obtain ⟨h13, hf⟩ := gi_x hf
        refine gk_iald (i := 220) (k := (40 + v5).toNatClampNeg) S M (by decide) (gaa_134 rfl) h13 rfl dX13_mostFitting_79 ?_
        refine lv_iload hx hb dX13_mostFitting_80 (lv_at hl 3 rfl) ?_
        refine lv_icmp_ne (tgt := 99) hx hb dX13_mostFitting_82 (by decide) (fun c14 => ?_) (fun c14 => ?_)
        · have hf := it_n c14 hf
          obtain ⟨x15, ex15, hf⟩ := nm_x hf
          refine lv_iinc (v := x15) (lv' := [(5, .int x15), (0, .ref (G.1 219)), (2, .int v2), (3, .int v3), (4, .int p4)]) hx hb dX13_mostFitting_99 hl (k := 4) rfl (by rw [ex15]; rfl) (by decide) rfl (fun ls hl => ?_)
          refine lv_goto (tgt := 45) hx hb dX13_mostFitting_102 (by decide) ?_
          exact ih _ _ _ _ hf _ _ _ M (lv_sub hl [1, 2, 3, 4, 0] rfl) k105
        · have hf := it_p c14 hf
          refine lv_iload hx hb dX13_mostFitting_85 (lv_at hl 3 rfl) ?_
          refine lv_iload_n hx hb dX13_mostFitting_87 rfl (lv_at hl 1 rfl) ?_
          refine lv_icmp_gt (tgt := 99) hx hb dX13_mostFitting_88 (by decide) (fun c16 => ?_) (fun c16 => ?_)
          · have hf := it_p c16 hf
            obtain ⟨x17, ex17, hf⟩ := nm_x hf
            refine lv_iinc (v := x17) (lv' := [(5, .int x17), (0, .ref (G.1 219)), (2, .int v2), (3, .int v3), (4, .int p4)]) hx hb dX13_mostFitting_99 hl (k := 4) rfl (by rw [ex17]; rfl) (by decide) rfl (fun ls hl => ?_)
            refine lv_goto (tgt := 45) hx hb dX13_mostFitting_102 (by decide) ?_
            exact ih _ _ _ _ hf _ _ _ M (lv_sub hl [1, 2, 3, 4, 0] rfl) k105
          · have hf := it_n c16 hf
            refine lv_iload_n hx hb dX13_mostFitting_91 rfl (lv_at hl 1 rfl) ?_
            refine lv_iload hx hb dX13_mostFitting_92 (lv_at hl 3 rfl) ?_
            refine lv_isub hx hb dX13_mostFitting_94 ?_
            obtain ⟨x18, ex18, hf⟩ := nm_x hf
            refine g_topi ex18 ?_
            refine lv_istore_n (lv' := [(2, .int x18), (0, .ref (G.1 219)), (3, .int v3), (4, .int p4), (5, .int v5)]) hx hb dX13_mostFitting_95 rfl hl (by decide) rfl (fun ls hl => ?_)
            obtain ⟨x19, ex19, hf⟩ := nm_x hf
            refine lv_iinc (v := x19) (lv' := [(3, .int x19), (2, .int x18), (0, .ref (G.1 219)), (4, .int p4), (5, .int v5)]) hx hb dX13_mostFitting_96 hl (k := 2) rfl (by rw [ex19]; rfl) (by decide) rfl (fun ls hl => ?_)
            obtain ⟨x20, ex20, hf⟩ := nm_x hf
            refine lv_iinc (v := x20) (lv' := [(5, .int x20), (3, .int x19), (2, .int x18), (0, .ref (G.1 219)), (4, .int p4)]) hx hb dX13_mostFitting_99 hl (k := 4) rfl (by rw [ex20]; rfl) (by decide) rfl (fun ls hl => ?_)
            refine lv_goto (tgt := 45) hx hb dX13_mostFitting_102 (by decide) ?_
            exact ih _ _ _ _ hf _ _ _ M (lv_sub hl [3, 2, 1, 4, 0] rfl) k105
set_option maxHeartbeats 400000 in
set_option maxRecDepth 100000 in
theorem w_X13_mostFitting_L35 {p : Program} {l : Launch} {e : Env} {s : State} {m : MethodId} {args : Array Value} {below : List Frame} {meth : Method} {c : Code} {Q : State → Prop} {G : gT} {lo : Int64} {dd : UInt64} (S : CallFix p m c cX13_mostFitting 6 s args gTs RX13) (C0 : gCST G (gAA G s.heap.size) s) (σ : gM) : ∀ (n : Nat) (v2 : Int32) (v3 : Int32) (v4 : Int32) (res : Int32), f_X13_mostFitting_L35 σ n v2 v3 v4 = some res → ∀ (H : Heap) (locs : List Loc) (ls : Array Slot), gMS G (gAA G s.heap.size) lo dd σ s H locs → lv_has ls 6 [(0, .ref (G.1 219)), (2, .int v2), (3, .int v3), (4, .int v4)] → (k111 : ∀ (u3 : Int32), res = u3 → ∀ (H : Heap) (locs : List Loc) (ls : Array Slot), gMS G (gAA G s.heap.size) lo dd σ s H locs → lv_has ls 6 [(0, .ref (G.1 219)), (3, .int u3)] → W p l e ({ frames := 2, cells := 0, slots := 0, locals := 42 } : Room) s m args below meth c H locs 0 0 Q (F0 m 111 ls [])) → W p l e ({ frames := 2, cells := 0, slots := 0, locals := 42 } : Room) s m args below meth c H locs 0 0 Q (F0 m 35 ls []) := by
  have hx := S.1
  have hb := S.2.1
  intro n
  induction n with
  | zero =>
    intro v2 v3 v4 res hf
    cases hf
  | succ n ih =>
    intro v2 v3 v4 res hf H locs ls M hl k111
    rw [f_X13_mostFitting_L35] at hf
    refine lv_iload hx hb dX13_mostFitting_35 (lv_at hl 3 rfl) ?_
    refine lv_bipush (v := 20) hx hb dX13_mostFitting_37 (by decide) ?_
    refine lv_icmp_gt (tgt := 111) hx hb dX13_mostFitting_39 (by decide) (fun c8 => ?_) (fun c8 => ?_)
    · have hf := it_p c8 hf
      cases hf
      exact k111 _ rfl _ _ _ M (lv_sub hl [0, 2] rfl)
    · have hf := it_n c8 hf
      refine lv_iconst (v := 0) hx hb dX13_mostFitting_42 (by decide) ?_
      refine lv_istore (lv' := [(5, .int 0), (0, .ref (G.1 219)), (2, .int v2), (3, .int v3), (4, .int v4)]) hx hb dX13_mostFitting_43 hl (by decide) rfl (fun ls hl => ?_)
      obtain ⟨y22, y23, h21, hf⟩ := bd2_x hf
      refine w_X13_mostFitting_L45 S C0 v4 σ gFU v2 v3 0 _ h21 _ _ _ M (lv_sub hl [1, 2, 3, 4, 0] rfl) (fun _ _ eq H locs ls M hl => ?_)
      cases eq
      obtain ⟨x24, ex24, hf⟩ := nm_x hf
      refine lv_iinc (v := x24) (lv' := [(4, .int x24), (0, .ref (G.1 219)), (2, .int y22), (3, .int y23)]) hx hb dX13_mostFitting_105 hl (k := 3) rfl (by rw [ex24]; rfl) (by decide) rfl (fun ls hl => ?_)
      refine lv_goto (tgt := 35) hx hb dX13_mostFitting_108 (by decide) ?_
      exact ih _ _ _ _ hf _ _ _ M (lv_sub hl [1, 2, 3, 0] rfl) k111
set_option maxHeartbeats 400000 in
set_option maxRecDepth 100000 in
theorem c_X13_mostFitting (l : Launch) (G : gT) (sz : Nat) (lo : Int64) (dd : UInt64) (σ : gM) (a1 : Int32) {r : Int32} {o : gM} (hf : f_X13_mostFitting σ a1 = some (r, o)) : gCT l yX13_mostFitting cX13_mostFitting 6 (some .int) { frames := 2, cells := 0, slots := 0, locals := 42 } 0 0 G sz [.ref (G.1 219), .int a1] lo dd σ (.inl (mkI r, o, lo, dd)) := by
  refine gCT_of (by decide) (Nat.le_of_ble_eq_true rfl) (fun p e s m args below meth c ls S hr hlk hnx hsz C0 hl H locs M => ?_)
  subst hsz
  have hx := S.1
  have hb := S.2.1
  unfold f_X13_mostFitting at hf
  refine lv_iload_n hx hb dX13_mostFitting_0 rfl (lv_at hl 1 rfl) ?_
  obtain ⟨r2, h1, hf⟩ := bd_x hf
  refine g_callR (st1 := [.int r2]) (cells' := 0) (slots' := 0) M (g_invS (index := 95) S M C0 hl (c_X13_isSack l G H.size lo dd σ a1  h1) k_X13_isSack tw_6_229 tw_6_228 rfl rfl rfl rfl dX13_mostFitting_1) rfl rfl rfl (fun H locs M => ?_)
  refine lv_if_ne (tgt := 13) hx hb dX13_mostFitting_4 (by decide) (fun c3 => ?_) (fun c3 => ?_)
  · have hf := it_n c3 hf
    refine lv_aload_n hx hb dX13_mostFitting_13 rfl (lv_at hl 0 rfl) ?_
    refine gf_X13_0 (i := 219) S M (by decide) rfl tw_6_107 dX13_mostFitting_14 ?_
    refine lv_sipush (v := 131) hx hb dX13_mostFitting_17 (by decide) ?_
    refine lv_iload_n hx hb dX13_mostFitting_20 rfl (lv_at hl 1 rfl) ?_
    refine lv_iadd hx hb dX13_mostFitting_21 ?_
    obtain ⟨h4, hf⟩ := gi_x hf
    refine gk_iald (i := 220) (k := (131 + a1).toNatClampNeg) S M (by decide) (gaa_134 rfl) h4 rfl dX13_mostFitting_22 ?_
    refine lv_aload_n hx hb dX13_mostFitting_23 rfl (lv_at hl 0 rfl) ?_
    refine lv_iload_n hx hb dX13_mostFitting_24 rfl (lv_at hl 1 rfl) ?_
    obtain ⟨r6, h5, hf⟩ := bd_x hf
    refine g_callR (st1 := [.int r6, .int (σ 220 (131 + a1).toNatClampNeg)]) (cells' := 0) (slots' := 0) M (g_invV (index := 98) S M C0 hl (c_X13_loadOf l G H.size lo dd σ a1  h5) k_X13_loadOf tw_6_233 tw_0_34 tw_6_231 (by decide) (ge_13 rfl) rfl rfl rfl rfl rfl rfl dX13_mostFitting_25) rfl rfl rfl (fun H locs M => ?_)
    refine lv_isub hx hb dX13_mostFitting_28 ?_
    obtain ⟨x7, ex7, hf⟩ := nm_x hf
    refine g_topi ex7 ?_
    refine lv_istore_n (lv' := [(2, .int x7), (0, .ref (G.1 219)), (1, .int a1)]) hx hb dX13_mostFitting_29 rfl hl (by decide) rfl (fun ls hl => ?_)
    refine lv_iconst (v := 0) hx hb dX13_mostFitting_30 (by decide) ?_
    refine lv_istore_n (lv' := [(3, .int 0), (2, .int x7), (0, .ref (G.1 219)), (1, .int a1)]) hx hb dX13_mostFitting_31 rfl hl (by decide) rfl (fun ls hl => ?_)
    refine lv_iconst (v := 1) hx hb dX13_mostFitting_32 (by decide) ?_
    refine lv_istore (lv' := [(4, .int 1), (3, .int 0), (2, .int x7), (0, .ref (G.1 219)), (1, .int a1)]) hx hb dX13_mostFitting_33 hl (by decide) rfl (fun ls hl => ?_)
    obtain ⟨y26, h25, hf⟩ := bd_x hf
    refine w_X13_mostFitting_L35 S C0 σ gFU x7 0 1 _ h25 _ _ _ M (lv_sub hl [3, 2, 1, 0] rfl) (fun _ eq H locs ls M hl => ?_)
    cases eq
    refine lv_aload_n hx hb dX13_mostFitting_111 rfl (lv_at hl 0 rfl) ?_
    refine lv_iload_n hx hb dX13_mostFitting_112 rfl (lv_at hl 1 rfl) ?_
    obtain ⟨r28, σ29, h27, hf⟩ := bd2_x hf
    refine g_callR (st1 := [.int r28]) (cells' := 0) (slots' := 0) M (g_invV (index := 72) S M C0 hl (c_X13_done l G H.size lo dd σ y26  h27) k_X13_done tw_6_198 tw_0_29 tw_6_196 (by decide) (ge_13 rfl) rfl rfl rfl rfl rfl rfl dX13_mostFitting_113) rfl rfl rfl (fun H locs M => ?_)
    cases hf
    exact g_iret S M hr hlk (by decide) (by decide) dX13_mostFitting_116 rfl
  · have hf := it_p c3 hf
    refine lv_aload_n hx hb dX13_mostFitting_7 rfl (lv_at hl 0 rfl) ?_
    refine lv_iconst (v := 1) hx hb dX13_mostFitting_8 (by decide) ?_
    obtain ⟨r31, σ32, h30, hf⟩ := bd2_x hf
    refine g_callR (st1 := [.int r31]) (cells' := 0) (slots' := 0) M (g_invV (index := 64) S M C0 hl (c_X13_fails l G H.size lo dd σ 1  h30) k_X13_fails tw_6_186 tw_0_26 tw_6_184 (by decide) (ge_13 rfl) rfl rfl rfl rfl rfl rfl dX13_mostFitting_9) rfl rfl rfl (fun H locs M => ?_)
    cases hf
    exact g_iret S M hr hlk (by decide) (by decide) dX13_mostFitting_12 rfl
theorem k_X13_mostFittingByTable : gMV yX13_mostFittingByTable cX13_mostFittingByTable 2 (some .int) 1 := ⟨tw_7_184, tw_1_12, by decide⟩
set_option maxHeartbeats 400000 in
set_option maxRecDepth 100000 in
theorem c_X13_mostFittingByTable (l : Launch) (G : gT) (sz : Nat) (lo : Int64) (dd : UInt64) (σ : gM) (a1 : Int32) {r : Int32} {o : gM} (hf : f_X13_mostFittingByTable σ a1 = some (r, o)) : gCT l yX13_mostFittingByTable cX13_mostFittingByTable 2 (some .int) { frames := 3, cells := 0, slots := 0, locals := 67 } 0 0 G sz [.ref (G.1 219), .int a1] lo dd σ (.inl (mkI r, o, lo, dd)) := by
  refine gCT_of (by decide) (Nat.le_of_ble_eq_true rfl) (fun p e s m args below meth c ls S hr hlk hnx hsz C0 hl H locs M => ?_)
  subst hsz
  have hx := S.1
  have hb := S.2.1
  unfold f_X13_mostFittingByTable at hf
  refine lv_aload_n hx hb dX13_mostFittingByTable_0 rfl (lv_at hl 0 rfl) ?_
  refine lv_iload_n hx hb dX13_mostFittingByTable_1 rfl (lv_at hl 1 rfl) ?_
  obtain ⟨r2, σ3, h1, hf⟩ := bd2_x hf
  refine g_callR (st1 := [.int r2]) (cells' := 0) (slots' := 0) M (g_invV (index := 156) S M C0 hl (c_X13_mostFitting l G H.size lo dd σ a1  h1) k_X13_mostFitting tw_7_178 tw_7_179 tw_7_185 (by decide) (ge_13 rfl) rfl rfl rfl rfl rfl rfl dX13_mostFittingByTable_2) rfl rfl rfl (fun H locs M => ?_)
  cases hf
  exact g_iret S M hr hlk (by decide) (by decide) dX13_mostFittingByTable_5 rfl
theorem k_X13_effortTo : gMV yX13_effortTo cX13_effortTo 4 (some .int) 2 := ⟨tw_7_189, tw_1_12, by decide⟩
set_option maxHeartbeats 400000 in
set_option maxRecDepth 100000 in
theorem c_X13_effortTo (l : Launch) (G : gT) (sz : Nat) (lo : Int64) (dd : UInt64) (σ : gM) (a1 : Int32) (a2 : Int32) {r : Int32} {o : gM} (hf : f_X13_effortTo σ a1 a2 = some (r, o)) : gCT l yX13_effortTo cX13_effortTo 4 (some .int) { frames := 3, cells := 0, slots := 0, locals := 70 } 0 0 G sz [.ref (G.1 219), .int a1, .int a2] lo dd σ (.inl (mkI r, o, lo, dd)) := by
  refine gCT_of (by decide) (Nat.le_of_ble_eq_true rfl) (fun p e s m args below meth c ls S hr hlk hnx hsz C0 hl H locs M => ?_)
  subst hsz
  have hx := S.1
  have hb := S.2.1
  unfold f_X13_effortTo at hf
  refine lv_iload_n hx hb dX13_effortTo_0 rfl (lv_at hl 1 rfl) ?_
  obtain ⟨r2, h1, hf⟩ := bd_x hf
  refine g_callR (st1 := [.int r2]) (cells' := 0) (slots' := 0) M (g_invS (index := 95) S M C0 hl (c_X13_isSack l G H.size lo dd σ a1  h1) k_X13_isSack tw_6_229 tw_6_228 rfl rfl rfl rfl dX13_effortTo_1) rfl rfl rfl (fun H locs M => ?_)
  refine lv_if_eq (tgt := 14) hx hb dX13_effortTo_4 (by decide) (fun c3 => ?_) (fun c3 => ?_)
  · have hf := it_p c3 hf
    refine lv_aload_n hx hb dX13_effortTo_14 rfl (lv_at hl 0 rfl) ?_
    refine lv_iconst (v := 1) hx hb dX13_effortTo_15 (by decide) ?_
    obtain ⟨r5, σ6, h4, hf⟩ := bd2_x hf
    refine g_callR (st1 := [.int r5]) (cells' := 0) (slots' := 0) M (g_invV (index := 64) S M C0 hl (c_X13_fails l G H.size lo dd σ 1  h4) k_X13_fails tw_6_186 tw_0_26 tw_6_184 (by decide) (ge_13 rfl) rfl rfl rfl rfl rfl rfl dX13_effortTo_16) rfl rfl rfl (fun H locs M => ?_)
    cases hf
    exact g_iret S M hr hlk (by decide) (by decide) dX13_effortTo_19 rfl
  · have hf := it_n c3 hf
    refine lv_iload_n hx hb dX13_effortTo_7 rfl (lv_at hl 2 rfl) ?_
    obtain ⟨r8, h7, hf⟩ := bd_x hf
    refine g_callR (st1 := [.int r8]) (cells' := 0) (slots' := 0) M (g_invS (index := 60) S M C0 hl (c_X13_isPlace l G H.size lo dd σ a2  h7) k_X13_isPlace tw_6_179 tw_6_178 rfl rfl rfl rfl dX13_effortTo_8) rfl rfl rfl (fun H locs M => ?_)
    refine lv_if_ne (tgt := 20) hx hb dX13_effortTo_11 (by decide) (fun c9 => ?_) (fun c9 => ?_)
    · have hf := it_n c9 hf
      refine lv_aload_n hx hb dX13_effortTo_20 rfl (lv_at hl 0 rfl) ?_
      refine lv_aload_n hx hb dX13_effortTo_21 rfl (lv_at hl 0 rfl) ?_
      refine gf_X13_0 (i := 219) S M (by decide) rfl tw_6_107 dX13_effortTo_22 ?_
      refine lv_sipush (v := 128) hx hb dX13_effortTo_25 (by decide) ?_
      refine lv_iload_n hx hb dX13_effortTo_28 rfl (lv_at hl 1 rfl) ?_
      refine lv_iadd hx hb dX13_effortTo_29 ?_
      obtain ⟨h10, hf⟩ := gi_x hf
      refine gk_iald (i := 220) (k := (128 + a1).toNatClampNeg) S M (by decide) (gaa_134 rfl) h10 rfl dX13_effortTo_30 ?_
      refine lv_iload_n hx hb dX13_effortTo_31 rfl (lv_at hl 2 rfl) ?_
      obtain ⟨r12, σ13, h11, hf⟩ := bd2_x hf
      refine g_callR (st1 := [.int r12]) (cells' := 0) (slots' := 0) M (g_invV (index := 126) S M C0 hl (c_X13_distanceOf l G H.size lo dd σ (σ 220 (128 + a1).toNatClampNeg) a2  h11) k_X13_distanceOf tw_7_41 tw_0_43 tw_7_39 (by decide) (ge_13 rfl) rfl rfl rfl rfl rfl rfl dX13_effortTo_32) rfl rfl rfl (fun H locs M => ?_)
      refine lv_istore_n (lv' := [(3, .int r12), (0, .ref (G.1 219)), (1, .int a1), (2, .int a2)]) hx hb dX13_effortTo_35 rfl hl (by decide) rfl (fun ls hl => ?_)
      refine lv_iload_n hx hb dX13_effortTo_36 rfl (lv_at hl 0 rfl) ?_
      refine lv_sipush (v := 1000) hx hb dX13_effortTo_37 (by decide) ?_
      refine lv_icmp_ne (tgt := 51) hx hb dX13_effortTo_40 (by decide) (fun c14 => ?_) (fun c14 => ?_)
      · have hf := it_n c14 hf
        refine lv_aload_n hx hb dX13_effortTo_51 rfl (lv_at hl 1 rfl) ?_
        refine lv_iload_n hx hb dX13_effortTo_52 rfl (lv_at hl 0 rfl) ?_
        refine lv_aload_n hx hb dX13_effortTo_53 rfl (lv_at hl 1 rfl) ?_
        refine lv_iload_n hx hb dX13_effortTo_54 rfl (lv_at hl 2 rfl) ?_
        obtain ⟨r16, h15, hf⟩ := bd_x hf
        refine g_callR (st1 := [.int r16, .int r12, .ref (G.1 219)]) (cells' := 0) (slots' := 0) M (g_invV (index := 98) S M C0 hl (c_X13_loadOf l G H.size lo dd σ13 a1  h15) k_X13_loadOf tw_6_233 tw_0_34 tw_6_231 (by decide) (ge_13 rfl) rfl rfl rfl rfl rfl rfl dX13_effortTo_55) rfl rfl rfl (fun H locs M => ?_)
        refine lv_imul hx hb dX13_effortTo_58 ?_
        obtain ⟨r18, σ19, h17, hf⟩ := bd2_x hf
        refine g_callR (st1 := [.int r18]) (cells' := 0) (slots' := 0) M (g_invV (index := 72) S M C0 hl (c_X13_done l G H.size lo dd σ13 (r12 * r16)  h17) k_X13_done tw_6_198 tw_0_29 tw_6_196 (by decide) (ge_13 rfl) rfl rfl rfl rfl rfl rfl dX13_effortTo_59) rfl rfl rfl (fun H locs M => ?_)
        cases hf
        exact g_iret S M hr hlk (by decide) (by decide) dX13_effortTo_62 rfl
      · have hf := it_p c14 hf
        refine lv_aload_n hx hb dX13_effortTo_43 rfl (lv_at hl 1 rfl) ?_
        refine lv_iconst (v := 2) hx hb dX13_effortTo_44 (by decide) ?_
        obtain ⟨r21, σ22, h20, hf⟩ := bd2_x hf
        refine g_callR (st1 := [.int r21]) (cells' := 0) (slots' := 0) M (g_invV (index := 64) S M C0 hl (c_X13_fails l G H.size lo dd σ13 2  h20) k_X13_fails tw_6_186 tw_0_26 tw_6_184 (by decide) (ge_13 rfl) rfl rfl rfl rfl rfl rfl dX13_effortTo_45) rfl rfl rfl (fun H locs M => ?_)
        refine lv_goto (tgt := 62) hx hb dX13_effortTo_48 (by decide) ?_
        cases hf
        exact g_iret S M hr hlk (by decide) (by decide) dX13_effortTo_62 rfl
    · have hf := it_p c9 hf
      refine lv_aload_n hx hb dX13_effortTo_14 rfl (lv_at hl 0 rfl) ?_
      refine lv_iconst (v := 1) hx hb dX13_effortTo_15 (by decide) ?_
      obtain ⟨r24, σ25, h23, hf⟩ := bd2_x hf
      refine g_callR (st1 := [.int r24]) (cells' := 0) (slots' := 0) M (g_invV (index := 64) S M C0 hl (c_X13_fails l G H.size lo dd σ 1  h23) k_X13_fails tw_6_186 tw_0_26 tw_6_184 (by decide) (ge_13 rfl) rfl rfl rfl rfl rfl rfl dX13_effortTo_16) rfl rfl rfl (fun H locs M => ?_)
      cases hf
      exact g_iret S M hr hlk (by decide) (by decide) dX13_effortTo_19 rfl
theorem k_X13_effortSoFar : gMV yX13_effortSoFar cX13_effortSoFar 1 (some .int) 0 := ⟨tw_7_193, tw_1_12, by decide⟩
set_option maxHeartbeats 400000 in
set_option maxRecDepth 100000 in
theorem c_X13_effortSoFar (l : Launch) (G : gT) (sz : Nat) (lo : Int64) (dd : UInt64) (σ : gM) {r : Int32} {o : gM} (hf : f_X13_effortSoFar σ = some (r, o)) : gCT l yX13_effortSoFar cX13_effortSoFar 1 (some .int) { frames := 1, cells := 0, slots := 0, locals := 21 } 0 0 G sz [.ref (G.1 219)] lo dd σ (.inl (mkI r, o, lo, dd)) := by
  refine gCT_of (by decide) (Nat.le_of_ble_eq_true rfl) (fun p e s m args below meth c ls S hr hlk hnx hsz C0 hl H locs M => ?_)
  subst hsz
  have hx := S.1
  have hb := S.2.1
  unfold f_X13_effortSoFar at hf
  refine lv_aload_n hx hb dX13_effortSoFar_0 rfl (lv_at hl 0 rfl) ?_
  refine lv_aload_n hx hb dX13_effortSoFar_1 rfl (lv_at hl 0 rfl) ?_
  refine gf_X13_0 (i := 219) S M (by decide) rfl tw_6_107 dX13_effortSoFar_2 ?_
  refine lv_bipush (v := 38) hx hb dX13_effortSoFar_5 (by decide) ?_
  refine gk_iald (i := 220) (k := 38) S M (by decide) (gaa_134 rfl) (by unfold vp_in; decide) (by decide) dX13_effortSoFar_7 ?_
  obtain ⟨r2, σ3, h1, hf⟩ := bd2_x hf
  refine g_callR (st1 := [.int r2]) (cells' := 0) (slots' := 0) M (g_invV (index := 72) S M C0 hl (c_X13_done l G H.size lo dd σ (σ 220 38)  h1) k_X13_done tw_6_198 tw_0_29 tw_6_196 (by decide) (ge_13 rfl) rfl rfl rfl rfl rfl rfl dX13_effortSoFar_8) rfl rfl rfl (fun H locs M => ?_)
  cases hf
  exact g_iret S M hr hlk (by decide) (by decide) dX13_effortSoFar_11 rfl
theorem k_X13_glovesUsedUp : gMV yX13_glovesUsedUp cX13_glovesUsedUp 1 (some .int) 0 := ⟨tw_7_197, tw_1_12, by decide⟩
set_option maxHeartbeats 400000 in
set_option maxRecDepth 100000 in
theorem c_X13_glovesUsedUp (l : Launch) (G : gT) (sz : Nat) (lo : Int64) (dd : UInt64) (σ : gM) {r : Int32} {o : gM} (hf : f_X13_glovesUsedUp σ = some (r, o)) : gCT l yX13_glovesUsedUp cX13_glovesUsedUp 1 (some .int) { frames := 1, cells := 0, slots := 0, locals := 21 } 0 0 G sz [.ref (G.1 219)] lo dd σ (.inl (mkI r, o, lo, dd)) := by
  refine gCT_of (by decide) (Nat.le_of_ble_eq_true rfl) (fun p e s m args below meth c ls S hr hlk hnx hsz C0 hl H locs M => ?_)
  subst hsz
  have hx := S.1
  have hb := S.2.1
  unfold f_X13_glovesUsedUp at hf
  refine lv_aload_n hx hb dX13_glovesUsedUp_0 rfl (lv_at hl 0 rfl) ?_
  refine lv_aload_n hx hb dX13_glovesUsedUp_1 rfl (lv_at hl 0 rfl) ?_
  refine gf_X13_0 (i := 219) S M (by decide) rfl tw_6_107 dX13_glovesUsedUp_2 ?_
  refine lv_bipush (v := 39) hx hb dX13_glovesUsedUp_5 (by decide) ?_
  refine gk_iald (i := 220) (k := 39) S M (by decide) (gaa_134 rfl) (by unfold vp_in; decide) (by decide) dX13_glovesUsedUp_7 ?_
  obtain ⟨r2, σ3, h1, hf⟩ := bd2_x hf
  refine g_callR (st1 := [.int r2]) (cells' := 0) (slots' := 0) M (g_invV (index := 72) S M C0 hl (c_X13_done l G H.size lo dd σ (σ 220 39)  h1) k_X13_done tw_6_198 tw_0_29 tw_6_196 (by decide) (ge_13 rfl) rfl rfl rfl rfl rfl rfl dX13_glovesUsedUp_8) rfl rfl rfl (fun H locs M => ?_)
  cases hf
  exact g_iret S M hr hlk (by decide) (by decide) dX13_glovesUsedUp_11 rfl
