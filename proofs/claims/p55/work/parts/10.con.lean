theorem k_X9_copyFrom : gMV yX9_copyFrom cX9_copyFrom 2 none 1 := ⟨tw_2_50, tw_1_3, by decide⟩
set_option maxHeartbeats 400000 in
set_option maxRecDepth 100000 in
theorem c_X9_copyFrom (l : Launch) (G : gT) (sz : Nat) (lo : Int64) (dd : UInt64) (σ : gM) (kt : Nat) (ko : Nat) (hkt : kt < 11) (hko : ko < 11) {o : gM} (hf : f_X9_copyFrom σ kt ko = some o) : gCT l yX9_copyFrom cX9_copyFrom 2 none { frames := 1, cells := 0, slots := 0, locals := 64 } 0 0 G sz [.ref (G.1 (1 + 18 * kt + 1)), .ref (G.1 (1 + 18 * ko + 1))] lo dd σ (.inl (none, o, lo, dd)) := by
  refine gCT_of (by decide) (Nat.le_of_ble_eq_true rfl) (fun p e s m args below meth c ls S hr hlk hnx hsz C0 hl H locs M => ?_)
  subst hsz
  have hx := S.1
  have hb := S.2.1
  unfold f_X9_copyFrom at hf
  refine lv_aload_n hx hb dX9_copyFrom_0 rfl (lv_at hl 1 rfl) ?_
  refine gf_X9_0 (i := 1 + 18 * ko + 1) S M (by omega) (gkd_ds hko (by decide)) tw_1_55 dX9_copyFrom_1 ?_
  refine lv_iconst (v := 0) hx hb dX9_copyFrom_4 (by decide) ?_
  refine lv_aload_n hx hb dX9_copyFrom_5 rfl (lv_at hl 0 rfl) ?_
  refine gf_X9_0 (i := 1 + 18 * kt + 1) S M (by omega) (gkd_ds hkt (by decide)) tw_1_55 dX9_copyFrom_6 ?_
  refine lv_iconst (v := 0) hx hb dX9_copyFrom_9 (by decide) ?_
  refine lv_aload_n hx hb dX9_copyFrom_10 rfl (lv_at hl 0 rfl) ?_
  refine gf_X9_0 (i := 1 + 18 * kt + 1) S M (by omega) (gkd_ds hkt (by decide)) tw_1_55 dX9_copyFrom_11 ?_
  refine g_alen (i := 1 + 18 * kt + 2) (t := 0) (v := 36) S M (by omega) (gaa_36 (gkd_ds hkt (by decide))) rfl (by decide) dX9_copyFrom_14 ?_
  obtain ⟨σ1, eσ1, hf⟩ := nm_x hf
  refine g_copy (i := 1 + 18 * ko + 2) (j := 1 + 18 * kt + 2) S M hl.1.symm tw_2_51 tw_2_53 tw_2_52 tw_1_18 (by omega) (by omega) (gaa_36 (gkd_ds hko (by decide))) (fun _ => gaa_36 (gkd_ds hkt (by decide))) (by decide) (by decide) (by decide) (by decide) (by decide) (Nat.le_of_ble_eq_true rfl) (Nat.le_of_ble_eq_true rfl) dX9_copyFrom_15 (fun H locs M => ?_)
  have M : gMS G (gAA G s.heap.size) lo dd σ1 s H locs := by rw [eσ1]; exact M
  refine lv_aload_n hx hb dX9_copyFrom_18 rfl (lv_at hl 0 rfl) ?_
  refine lv_aload_n hx hb dX9_copyFrom_19 rfl (lv_at hl 1 rfl) ?_
  refine gf_X9_4 (i := 1 + 18 * ko + 1) S M (by omega) (gkd_ds hko (by decide)) tw_1_59 dX9_copyFrom_20 ?_
  obtain ⟨σ2, eσ2, hf⟩ := nm_x hf
  refine gp_X9_4 (i := 1 + 18 * kt + 1) S M (by omega) (gkd_ds hkt (by decide)) tw_1_59 dX9_copyFrom_23 (fun H locs M => ?_)
  rw [← eσ2] at M
  cases hf
  exact g_vret S M hr hlk (by decide) (by decide) dX9_copyFrom_26 rfl
theorem k_X8_copyFrom : gMV yX8_copyFrom cX8_copyFrom 2 none 1 := ⟨tw_2_57, tw_1_4, by decide⟩
set_option maxHeartbeats 400000 in
set_option maxRecDepth 100000 in
theorem c_X8_copyFrom (l : Launch) (G : gT) (sz : Nat) (lo : Int64) (dd : UInt64) (σ : gM) (kt : Nat) (ko : Nat) (hkt : kt < 11) (hko : ko < 11) {o : gM} (hf : f_X8_copyFrom σ kt ko = some o) : gCT l yX8_copyFrom cX8_copyFrom 2 none { frames := 1, cells := 0, slots := 0, locals := 64 } 0 0 G sz [.ref (G.1 (1 + 18 * kt + 6)), .ref (G.1 (1 + 18 * ko + 6))] lo dd σ (.inl (none, o, lo, dd)) := by
  refine gCT_of (by decide) (Nat.le_of_ble_eq_true rfl) (fun p e s m args below meth c ls S hr hlk hnx hsz C0 hl H locs M => ?_)
  subst hsz
  have hx := S.1
  have hb := S.2.1
  unfold f_X8_copyFrom at hf
  refine lv_aload_n hx hb dX8_copyFrom_0 rfl (lv_at hl 1 rfl) ?_
  refine gf_X8_0 (i := 1 + 18 * ko + 6) S M (by omega) (gkd_ds hko (by decide)) tw_1_79 dX8_copyFrom_1 ?_
  refine lv_iconst (v := 0) hx hb dX8_copyFrom_4 (by decide) ?_
  refine lv_aload_n hx hb dX8_copyFrom_5 rfl (lv_at hl 0 rfl) ?_
  refine gf_X8_0 (i := 1 + 18 * kt + 6) S M (by omega) (gkd_ds hkt (by decide)) tw_1_79 dX8_copyFrom_6 ?_
  refine lv_iconst (v := 0) hx hb dX8_copyFrom_9 (by decide) ?_
  refine lv_bipush (v := 12) hx hb dX8_copyFrom_10 (by decide) ?_
  obtain ⟨σ1, eσ1, hf⟩ := nm_x hf
  refine g_copy (i := 1 + 18 * ko + 7) (j := 1 + 18 * kt + 7) S M hl.1.symm tw_2_58 tw_2_53 tw_2_52 tw_1_18 (by omega) (by omega) (gaa_12 (gkd_ds hko (by decide))) (fun _ => gaa_12 (gkd_ds hkt (by decide))) (by decide) (by decide) (by decide) (by decide) (by decide) (Nat.le_of_ble_eq_true rfl) (Nat.le_of_ble_eq_true rfl) dX8_copyFrom_12 (fun H locs M => ?_)
  have M : gMS G (gAA G s.heap.size) lo dd σ1 s H locs := by rw [eσ1]; exact M
  refine lv_aload_n hx hb dX8_copyFrom_15 rfl (lv_at hl 1 rfl) ?_
  refine gf_X8_1 (i := 1 + 18 * ko + 6) S M (by omega) (gkd_ds hko (by decide)) tw_1_80 dX8_copyFrom_16 ?_
  refine lv_iconst (v := 0) hx hb dX8_copyFrom_19 (by decide) ?_
  refine lv_aload_n hx hb dX8_copyFrom_20 rfl (lv_at hl 0 rfl) ?_
  refine gf_X8_1 (i := 1 + 18 * kt + 6) S M (by omega) (gkd_ds hkt (by decide)) tw_1_80 dX8_copyFrom_21 ?_
  refine lv_iconst (v := 0) hx hb dX8_copyFrom_24 (by decide) ?_
  refine lv_bipush (v := 12) hx hb dX8_copyFrom_25 (by decide) ?_
  obtain ⟨σ2, eσ2, hf⟩ := nm_x hf
  refine g_copy (i := 1 + 18 * ko + 8) (j := 1 + 18 * kt + 8) S M hl.1.symm tw_2_58 tw_2_53 tw_2_52 tw_1_18 (by omega) (by omega) (gaa_12 (gkd_ds hko (by decide))) (fun _ => gaa_12 (gkd_ds hkt (by decide))) (by decide) (by decide) (by decide) (by decide) (by decide) (Nat.le_of_ble_eq_true rfl) (Nat.le_of_ble_eq_true rfl) dX8_copyFrom_27 (fun H locs M => ?_)
  have M : gMS G (gAA G s.heap.size) lo dd σ2 s H locs := by rw [eσ2]; exact M
  refine lv_aload_n hx hb dX8_copyFrom_30 rfl (lv_at hl 1 rfl) ?_
  refine gf_X8_2 (i := 1 + 18 * ko + 6) S M (by omega) (gkd_ds hko (by decide)) tw_1_81 dX8_copyFrom_31 ?_
  refine lv_iconst (v := 0) hx hb dX8_copyFrom_34 (by decide) ?_
  refine lv_aload_n hx hb dX8_copyFrom_35 rfl (lv_at hl 0 rfl) ?_
  refine gf_X8_2 (i := 1 + 18 * kt + 6) S M (by omega) (gkd_ds hkt (by decide)) tw_1_81 dX8_copyFrom_36 ?_
  refine lv_iconst (v := 0) hx hb dX8_copyFrom_39 (by decide) ?_
  refine lv_bipush (v := 12) hx hb dX8_copyFrom_40 (by decide) ?_
  obtain ⟨σ3, eσ3, hf⟩ := nm_x hf
  refine g_copy (i := 1 + 18 * ko + 9) (j := 1 + 18 * kt + 9) S M hl.1.symm tw_2_58 tw_2_53 tw_2_52 tw_1_18 (by omega) (by omega) (gaa_12 (gkd_ds hko (by decide))) (fun _ => gaa_12 (gkd_ds hkt (by decide))) (by decide) (by decide) (by decide) (by decide) (by decide) (Nat.le_of_ble_eq_true rfl) (Nat.le_of_ble_eq_true rfl) dX8_copyFrom_42 (fun H locs M => ?_)
  have M : gMS G (gAA G s.heap.size) lo dd σ3 s H locs := by rw [eσ3]; exact M
  refine lv_aload_n hx hb dX8_copyFrom_45 rfl (lv_at hl 1 rfl) ?_
  refine gf_X8_3 (i := 1 + 18 * ko + 6) S M (by omega) (gkd_ds hko (by decide)) tw_1_82 dX8_copyFrom_46 ?_
  refine lv_iconst (v := 0) hx hb dX8_copyFrom_49 (by decide) ?_
  refine lv_aload_n hx hb dX8_copyFrom_50 rfl (lv_at hl 0 rfl) ?_
  refine gf_X8_3 (i := 1 + 18 * kt + 6) S M (by omega) (gkd_ds hkt (by decide)) tw_1_82 dX8_copyFrom_51 ?_
  refine lv_iconst (v := 0) hx hb dX8_copyFrom_54 (by decide) ?_
  refine lv_bipush (v := 12) hx hb dX8_copyFrom_55 (by decide) ?_
  obtain ⟨σ4, eσ4, hf⟩ := nm_x hf
  refine g_copy (i := 1 + 18 * ko + 10) (j := 1 + 18 * kt + 10) S M hl.1.symm tw_2_58 tw_2_53 tw_2_52 tw_1_18 (by omega) (by omega) (gaa_12 (gkd_ds hko (by decide))) (fun _ => gaa_12 (gkd_ds hkt (by decide))) (by decide) (by decide) (by decide) (by decide) (by decide) (Nat.le_of_ble_eq_true rfl) (Nat.le_of_ble_eq_true rfl) dX8_copyFrom_57 (fun H locs M => ?_)
  have M : gMS G (gAA G s.heap.size) lo dd σ4 s H locs := by rw [eσ4]; exact M
  refine lv_aload_n hx hb dX8_copyFrom_60 rfl (lv_at hl 1 rfl) ?_
  refine gf_X8_4 (i := 1 + 18 * ko + 6) S M (by omega) (gkd_ds hko (by decide)) tw_1_83 dX8_copyFrom_61 ?_
  refine lv_iconst (v := 0) hx hb dX8_copyFrom_64 (by decide) ?_
  refine lv_aload_n hx hb dX8_copyFrom_65 rfl (lv_at hl 0 rfl) ?_
  refine gf_X8_4 (i := 1 + 18 * kt + 6) S M (by omega) (gkd_ds hkt (by decide)) tw_1_83 dX8_copyFrom_66 ?_
  refine lv_iconst (v := 0) hx hb dX8_copyFrom_69 (by decide) ?_
  refine lv_bipush (v := 12) hx hb dX8_copyFrom_70 (by decide) ?_
  obtain ⟨σ5, eσ5, hf⟩ := nm_x hf
  refine g_copy (i := 1 + 18 * ko + 11) (j := 1 + 18 * kt + 11) S M hl.1.symm tw_2_58 tw_2_53 tw_2_52 tw_1_18 (by omega) (by omega) (gaa_12 (gkd_ds hko (by decide))) (fun _ => gaa_12 (gkd_ds hkt (by decide))) (by decide) (by decide) (by decide) (by decide) (by decide) (Nat.le_of_ble_eq_true rfl) (Nat.le_of_ble_eq_true rfl) dX8_copyFrom_72 (fun H locs M => ?_)
  have M : gMS G (gAA G s.heap.size) lo dd σ5 s H locs := by rw [eσ5]; exact M
  refine lv_aload_n hx hb dX8_copyFrom_75 rfl (lv_at hl 0 rfl) ?_
  refine lv_aload_n hx hb dX8_copyFrom_76 rfl (lv_at hl 1 rfl) ?_
  refine gf_X8_5 (i := 1 + 18 * ko + 6) S M (by omega) (gkd_ds hko (by decide)) tw_1_84 dX8_copyFrom_77 ?_
  obtain ⟨σ6, eσ6, hf⟩ := nm_x hf
  refine gp_X8_5 (i := 1 + 18 * kt + 6) S M (by omega) (gkd_ds hkt (by decide)) tw_1_84 dX8_copyFrom_80 (fun H locs M => ?_)
  rw [← eσ6] at M
  cases hf
  exact g_vret S M hr hlk (by decide) (by decide) dX8_copyFrom_83 rfl
theorem k_X6_copyFrom : gMV yX6_copyFrom cX6_copyFrom 2 none 1 := ⟨tw_2_62, tw_1_5, by decide⟩
set_option maxHeartbeats 400000 in
set_option maxRecDepth 100000 in
theorem c_X6_copyFrom (l : Launch) (G : gT) (sz : Nat) (lo : Int64) (dd : UInt64) (σ : gM) (kt : Nat) (ko : Nat) (hkt : kt < 11) (hko : ko < 11) {o : gM} (hf : f_X6_copyFrom σ kt ko = some o) : gCT l yX6_copyFrom cX6_copyFrom 2 none { frames := 1, cells := 0, slots := 0, locals := 64 } 0 0 G sz [.ref (G.1 (1 + 18 * kt + 12)), .ref (G.1 (1 + 18 * ko + 12))] lo dd σ (.inl (none, o, lo, dd)) := by
  refine gCT_of (by decide) (Nat.le_of_ble_eq_true rfl) (fun p e s m args below meth c ls S hr hlk hnx hsz C0 hl H locs M => ?_)
  subst hsz
  have hx := S.1
  have hb := S.2.1
  unfold f_X6_copyFrom at hf
  refine lv_aload_n hx hb dX6_copyFrom_0 rfl (lv_at hl 1 rfl) ?_
  refine gf_X6_0 (i := 1 + 18 * ko + 12) S M (by omega) (gkd_ds hko (by decide)) tw_1_104 dX6_copyFrom_1 ?_
  refine lv_iconst (v := 0) hx hb dX6_copyFrom_4 (by decide) ?_
  refine lv_aload_n hx hb dX6_copyFrom_5 rfl (lv_at hl 0 rfl) ?_
  refine gf_X6_0 (i := 1 + 18 * kt + 12) S M (by omega) (gkd_ds hkt (by decide)) tw_1_104 dX6_copyFrom_6 ?_
  refine lv_iconst (v := 0) hx hb dX6_copyFrom_9 (by decide) ?_
  refine lv_bipush (v := 8) hx hb dX6_copyFrom_10 (by decide) ?_
  obtain ⟨σ1, eσ1, hf⟩ := nm_x hf
  refine g_copy (i := 1 + 18 * ko + 13) (j := 1 + 18 * kt + 13) S M hl.1.symm tw_2_63 tw_2_53 tw_2_52 tw_1_18 (by omega) (by omega) (gaa_8 (gkd_ds hko (by decide))) (fun _ => gaa_8 (gkd_ds hkt (by decide))) (by decide) (by decide) (by decide) (by decide) (by decide) (Nat.le_of_ble_eq_true rfl) (Nat.le_of_ble_eq_true rfl) dX6_copyFrom_12 (fun H locs M => ?_)
  have M : gMS G (gAA G s.heap.size) lo dd σ1 s H locs := by rw [eσ1]; exact M
  refine lv_aload_n hx hb dX6_copyFrom_15 rfl (lv_at hl 1 rfl) ?_
  refine gf_X6_1 (i := 1 + 18 * ko + 12) S M (by omega) (gkd_ds hko (by decide)) tw_1_105 dX6_copyFrom_16 ?_
  refine lv_iconst (v := 0) hx hb dX6_copyFrom_19 (by decide) ?_
  refine lv_aload_n hx hb dX6_copyFrom_20 rfl (lv_at hl 0 rfl) ?_
  refine gf_X6_1 (i := 1 + 18 * kt + 12) S M (by omega) (gkd_ds hkt (by decide)) tw_1_105 dX6_copyFrom_21 ?_
  refine lv_iconst (v := 0) hx hb dX6_copyFrom_24 (by decide) ?_
  refine lv_bipush (v := 8) hx hb dX6_copyFrom_25 (by decide) ?_
  obtain ⟨σ2, eσ2, hf⟩ := nm_x hf
  refine g_copy (i := 1 + 18 * ko + 14) (j := 1 + 18 * kt + 14) S M hl.1.symm tw_2_63 tw_2_53 tw_2_52 tw_1_18 (by omega) (by omega) (gaa_8 (gkd_ds hko (by decide))) (fun _ => gaa_8 (gkd_ds hkt (by decide))) (by decide) (by decide) (by decide) (by decide) (by decide) (Nat.le_of_ble_eq_true rfl) (Nat.le_of_ble_eq_true rfl) dX6_copyFrom_27 (fun H locs M => ?_)
  have M : gMS G (gAA G s.heap.size) lo dd σ2 s H locs := by rw [eσ2]; exact M
  refine lv_aload_n hx hb dX6_copyFrom_30 rfl (lv_at hl 0 rfl) ?_
  refine lv_aload_n hx hb dX6_copyFrom_31 rfl (lv_at hl 1 rfl) ?_
  refine gf_X6_2 (i := 1 + 18 * ko + 12) S M (by omega) (gkd_ds hko (by decide)) tw_1_106 dX6_copyFrom_32 ?_
  obtain ⟨σ3, eσ3, hf⟩ := nm_x hf
  refine gp_X6_2 (i := 1 + 18 * kt + 12) S M (by omega) (gkd_ds hkt (by decide)) tw_1_106 dX6_copyFrom_35 (fun H locs M => ?_)
  rw [← eσ3] at M
  refine lv_aload_n hx hb dX6_copyFrom_38 rfl (lv_at hl 0 rfl) ?_
  refine lv_aload_n hx hb dX6_copyFrom_39 rfl (lv_at hl 1 rfl) ?_
  refine gf_X6_3 (i := 1 + 18 * ko + 12) S M (by omega) (gkd_ds hko (by decide)) tw_1_107 dX6_copyFrom_40 ?_
  obtain ⟨σ4, eσ4, hf⟩ := nm_x hf
  refine gp_X6_3 (i := 1 + 18 * kt + 12) S M (by omega) (gkd_ds hkt (by decide)) tw_1_107 dX6_copyFrom_43 (fun H locs M => ?_)
  rw [← eσ4] at M
  cases hf
  exact g_vret S M hr hlk (by decide) (by decide) dX6_copyFrom_46 rfl
theorem k_X11_copyFrom : gMV yX11_copyFrom cX11_copyFrom 2 none 1 := ⟨tw_2_67, tw_1_6, by decide⟩
set_option maxHeartbeats 400000 in
set_option maxRecDepth 100000 in
theorem c_X11_copyFrom (l : Launch) (G : gT) (sz : Nat) (lo : Int64) (dd : UInt64) (σ : gM) (kt : Nat) (ko : Nat) (hkt : kt < 11) (hko : ko < 11) {o : gM} (hf : f_X11_copyFrom σ kt ko = some o) : gCT l yX11_copyFrom cX11_copyFrom 2 none { frames := 1, cells := 0, slots := 0, locals := 64 } 0 0 G sz [.ref (G.1 (1 + 18 * kt + 15)), .ref (G.1 (1 + 18 * ko + 15))] lo dd σ (.inl (none, o, lo, dd)) := by
  refine gCT_of (by decide) (Nat.le_of_ble_eq_true rfl) (fun p e s m args below meth c ls S hr hlk hnx hsz C0 hl H locs M => ?_)
  subst hsz
  have hx := S.1
  have hb := S.2.1
  unfold f_X11_copyFrom at hf
  refine lv_aload_n hx hb dX11_copyFrom_0 rfl (lv_at hl 1 rfl) ?_
  refine gf_X11_0 (i := 1 + 18 * ko + 15) S M (by omega) (gkd_ds hko (by decide)) tw_1_123 dX11_copyFrom_1 ?_
  refine lv_iconst (v := 0) hx hb dX11_copyFrom_4 (by decide) ?_
  refine lv_aload_n hx hb dX11_copyFrom_5 rfl (lv_at hl 0 rfl) ?_
  refine gf_X11_0 (i := 1 + 18 * kt + 15) S M (by omega) (gkd_ds hkt (by decide)) tw_1_123 dX11_copyFrom_6 ?_
  refine lv_iconst (v := 0) hx hb dX11_copyFrom_9 (by decide) ?_
  refine lv_iconst (v := 3) hx hb dX11_copyFrom_10 (by decide) ?_
  obtain ⟨σ1, eσ1, hf⟩ := nm_x hf
  refine g_copy (i := 1 + 18 * ko + 16) (j := 1 + 18 * kt + 16) S M hl.1.symm tw_2_68 tw_2_53 tw_2_52 tw_1_18 (by omega) (by omega) (gaa_3 (gkd_ds hko (by decide))) (fun _ => gaa_3 (gkd_ds hkt (by decide))) (by decide) (by decide) (by decide) (by decide) (by decide) (Nat.le_of_ble_eq_true rfl) (Nat.le_of_ble_eq_true rfl) dX11_copyFrom_11 (fun H locs M => ?_)
  have M : gMS G (gAA G s.heap.size) lo dd σ1 s H locs := by rw [eσ1]; exact M
  refine lv_aload_n hx hb dX11_copyFrom_14 rfl (lv_at hl 1 rfl) ?_
  refine gf_X11_1 (i := 1 + 18 * ko + 15) S M (by omega) (gkd_ds hko (by decide)) tw_1_124 dX11_copyFrom_15 ?_
  refine lv_iconst (v := 0) hx hb dX11_copyFrom_18 (by decide) ?_
  refine lv_aload_n hx hb dX11_copyFrom_19 rfl (lv_at hl 0 rfl) ?_
  refine gf_X11_1 (i := 1 + 18 * kt + 15) S M (by omega) (gkd_ds hkt (by decide)) tw_1_124 dX11_copyFrom_20 ?_
  refine lv_iconst (v := 0) hx hb dX11_copyFrom_23 (by decide) ?_
  refine lv_iconst (v := 3) hx hb dX11_copyFrom_24 (by decide) ?_
  obtain ⟨σ2, eσ2, hf⟩ := nm_x hf
  refine g_copy (i := 1 + 18 * ko + 17) (j := 1 + 18 * kt + 17) S M hl.1.symm tw_2_68 tw_2_53 tw_2_52 tw_1_18 (by omega) (by omega) (gaa_3 (gkd_ds hko (by decide))) (fun _ => gaa_3 (gkd_ds hkt (by decide))) (by decide) (by decide) (by decide) (by decide) (by decide) (Nat.le_of_ble_eq_true rfl) (Nat.le_of_ble_eq_true rfl) dX11_copyFrom_25 (fun H locs M => ?_)
  have M : gMS G (gAA G s.heap.size) lo dd σ2 s H locs := by rw [eσ2]; exact M
  refine lv_aload_n hx hb dX11_copyFrom_28 rfl (lv_at hl 0 rfl) ?_
  refine lv_aload_n hx hb dX11_copyFrom_29 rfl (lv_at hl 1 rfl) ?_
  refine gf_X11_2 (i := 1 + 18 * ko + 15) S M (by omega) (gkd_ds hko (by decide)) tw_1_125 dX11_copyFrom_30 ?_
  obtain ⟨σ3, eσ3, hf⟩ := nm_x hf
  refine gp_X11_2 (i := 1 + 18 * kt + 15) S M (by omega) (gkd_ds hkt (by decide)) tw_1_125 dX11_copyFrom_33 (fun H locs M => ?_)
  rw [← eσ3] at M
  cases hf
  exact g_vret S M hr hlk (by decide) (by decide) dX11_copyFrom_36 rfl
theorem k_X3_copyFrom : gMV yX3_copyFrom cX3_copyFrom 2 none 1 := ⟨tw_2_46, tw_1_2, by decide⟩
set_option maxHeartbeats 400000 in
set_option maxRecDepth 100000 in
theorem c_X3_copyFrom (l : Launch) (G : gT) (sz : Nat) (lo : Int64) (dd : UInt64) (σ : gM) (kt : Nat) (ko : Nat) (hkt : kt < 11) (hko : ko < 11) {o : gM} (hf : f_X3_copyFrom σ kt ko = some o) : gCT l yX3_copyFrom cX3_copyFrom 2 none { frames := 2, cells := 0, slots := 0, locals := 85 } 0 0 G sz [.ref (G.1 (1 + 18 * kt)), .ref (G.1 (1 + 18 * ko))] lo dd σ (.inl (none, o, lo, dd)) := by
  refine gCT_of (by decide) (Nat.le_of_ble_eq_true rfl) (fun p e s m args below meth c ls S hr hlk hnx hsz C0 hl H locs M => ?_)
  subst hsz
  have hx := S.1
  have hb := S.2.1
  unfold f_X3_copyFrom at hf
  refine lv_aload_n hx hb dX3_copyFrom_0 rfl (lv_at hl 0 rfl) ?_
  refine gf_X3_0 (i := 1 + 18 * kt) S M (by omega) (gkd_ds (j := 0) hkt (by decide)) tw_1_133 dX3_copyFrom_1 ?_
  refine lv_aload_n hx hb dX3_copyFrom_4 rfl (lv_at hl 1 rfl) ?_
  refine gf_X3_0 (i := 1 + 18 * ko) S M (by omega) (gkd_ds (j := 0) hko (by decide)) tw_1_133 dX3_copyFrom_5 ?_
  obtain ⟨σ2, h1, hf⟩ := bd_x hf
  refine g_callR (st1 := []) (cells' := 0) (slots' := 0) M (g_invV (index := 39) S M C0 hl (c_X9_copyFrom l G H.size lo dd σ kt ko hkt hko h1) k_X9_copyFrom tw_2_48 tw_2_49 tw_2_47 (by omega) (ge_2 (gkd_ds hkt (by decide))) rfl rfl rfl rfl rfl rfl dX3_copyFrom_8) rfl rfl rfl (fun H locs M => ?_)
  refine lv_aload_n hx hb dX3_copyFrom_11 rfl (lv_at hl 0 rfl) ?_
  refine gf_X3_1 (i := 1 + 18 * kt) S M (by omega) (gkd_ds (j := 0) hkt (by decide)) tw_1_135 dX3_copyFrom_12 ?_
  refine lv_aload_n hx hb dX3_copyFrom_15 rfl (lv_at hl 1 rfl) ?_
  refine gf_X3_1 (i := 1 + 18 * ko) S M (by omega) (gkd_ds (j := 0) hko (by decide)) tw_1_135 dX3_copyFrom_16 ?_
  obtain ⟨σ4, h3, hf⟩ := bd_x hf
  refine g_callR (st1 := []) (cells' := 0) (slots' := 0) M (g_invV (index := 43) S M C0 hl (c_X8_copyFrom l G H.size lo dd σ2 kt ko hkt hko h3) k_X8_copyFrom tw_2_55 tw_2_56 tw_2_54 (by omega) (ge_3 (gkd_ds hkt (by decide))) rfl rfl rfl rfl rfl rfl dX3_copyFrom_19) rfl rfl rfl (fun H locs M => ?_)
  refine lv_aload_n hx hb dX3_copyFrom_22 rfl (lv_at hl 0 rfl) ?_
  refine gf_X3_2 (i := 1 + 18 * kt) S M (by omega) (gkd_ds (j := 0) hkt (by decide)) tw_1_139 dX3_copyFrom_23 ?_
  refine lv_aload_n hx hb dX3_copyFrom_26 rfl (lv_at hl 1 rfl) ?_
  refine gf_X3_2 (i := 1 + 18 * ko) S M (by omega) (gkd_ds (j := 0) hko (by decide)) tw_1_139 dX3_copyFrom_27 ?_
  obtain ⟨σ6, h5, hf⟩ := bd_x hf
  refine g_callR (st1 := []) (cells' := 0) (slots' := 0) M (g_invV (index := 46) S M C0 hl (c_X6_copyFrom l G H.size lo dd σ4 kt ko hkt hko h5) k_X6_copyFrom tw_2_60 tw_2_61 tw_2_59 (by omega) (ge_4 (gkd_ds hkt (by decide))) rfl rfl rfl rfl rfl rfl dX3_copyFrom_30) rfl rfl rfl (fun H locs M => ?_)
  refine lv_aload_n hx hb dX3_copyFrom_33 rfl (lv_at hl 0 rfl) ?_
  refine gf_X3_3 (i := 1 + 18 * kt) S M (by omega) (gkd_ds (j := 0) hkt (by decide)) tw_1_142 dX3_copyFrom_34 ?_
  refine lv_aload_n hx hb dX3_copyFrom_37 rfl (lv_at hl 1 rfl) ?_
  refine gf_X3_3 (i := 1 + 18 * ko) S M (by omega) (gkd_ds (j := 0) hko (by decide)) tw_1_142 dX3_copyFrom_38 ?_
  obtain ⟨σ8, h7, hf⟩ := bd_x hf
  refine g_callR (st1 := []) (cells' := 0) (slots' := 0) M (g_invV (index := 49) S M C0 hl (c_X11_copyFrom l G H.size lo dd σ6 kt ko hkt hko h7) k_X11_copyFrom tw_2_65 tw_2_66 tw_2_64 (by omega) (ge_5 (gkd_ds hkt (by decide))) rfl rfl rfl rfl rfl rfl dX3_copyFrom_41) rfl rfl rfl (fun H locs M => ?_)
  cases hf
  exact g_vret S M hr hlk (by decide) (by decide) dX3_copyFrom_44 rfl
theorem k_X7_prepare : gMV yX7_prepare cX7_prepare 3 none 1 := ⟨tw_2_42, tw_1_7, by decide⟩
set_option maxHeartbeats 400000 in
set_option maxRecDepth 100000 in
theorem c_X7_prepare (l : Launch) (G : gT) (sz : Nat) (lo : Int64) (dd : UInt64) (σ : gM) {o : gM} (hf : f_X7_prepare σ = some o) : gCT l yX7_prepare cX7_prepare 3 none { frames := 3, cells := 0, slots := 0, locals := 106 } 0 0 G sz [.ref (G.1 199), .ref (G.1 1)] lo dd σ (.inl (none, o, lo, dd)) := by
  refine gCT_of (by decide) (Nat.le_of_ble_eq_true rfl) (fun p e s m args below meth c ls S hr hlk hnx hsz C0 hl H locs M => ?_)
  subst hsz
  have hx := S.1
  have hb := S.2.1
  unfold f_X7_prepare at hf
  refine lv_aload_n hx hb dX7_prepare_0 rfl (lv_at hl 0 rfl) ?_
  refine gf_X7_0 (i := 199) S M (by decide) rfl tw_1_163 dX7_prepare_1 ?_
  refine lv_aload_n hx hb dX7_prepare_4 rfl (lv_at hl 0 rfl) ?_
  refine gf_X7_1 (i := 199) S M (by decide) rfl tw_1_164 dX7_prepare_5 ?_
  obtain ⟨h1, hf⟩ := gi_x hf
  have hkh1 := vp_lt h1
  refine g_aaldR S M h1 dX7_prepare_8 ?_
  refine lv_astore_n (lv' := [(2, .ref (G.1 (1 + 18 * ((σ 199 1).toNatClampNeg + 2)))), (0, .ref (G.1 199)), (1, .ref (G.1 1))]) hx hb dX7_prepare_9 rfl hl (by decide) rfl (fun ls hl => ?_)
  refine lv_aload_n hx hb dX7_prepare_10 rfl (lv_at hl 0 rfl) ?_
  refine lv_ifnull hx hb dX7_prepare_11 ?_
  refine lv_aload_n hx hb dX7_prepare_14 rfl (lv_at hl 0 rfl) ?_
  refine lv_aload_n hx hb dX7_prepare_15 rfl (lv_at hl 2 rfl) ?_
  obtain ⟨σ3, h2, hf⟩ := bd_x hf
  refine g_callR (st1 := []) (cells' := 0) (slots' := 0) M (g_invV (index := 25) S M C0 hl (c_X3_copyFrom l G H.size lo dd σ ((σ 199 1).toNatClampNeg + 2) 0 (Nat.add_lt_add_right hkh1 2) (by decide) h2) k_X3_copyFrom tw_2_44 tw_2_45 tw_2_43 (by omega) (ge_1 (gkd_ds (j := 0) (Nat.add_lt_add_right hkh1 2) (by decide))) rfl rfl rfl rfl rfl rfl dX7_prepare_16) rfl rfl rfl (fun H locs M => ?_)
  cases hf
  exact g_vret S M hr hlk (by decide) (by decide) dX7_prepare_19 rfl
theorem k_X12_isIndex : gMV yX12_isIndex cX12_isIndex 2 (some .boolean) 2 := ⟨tw_2_75, tw_1_1, by decide⟩
set_option maxHeartbeats 400000 in
set_option maxRecDepth 100000 in
theorem c_X12_isIndex (l : Launch) (G : gT) (sz : Nat) (lo : Int64) (dd : UInt64) (σ : gM) (a1 : Int32) (a2 : Int32) {o : Int32} (hf : f_X12_isIndex σ a1 a2 = some o) : gCT l yX12_isIndex cX12_isIndex 2 (some .boolean) { frames := 0, cells := 0, slots := 0, locals := 0 } 0 0 G sz [.int a1, .int a2] lo dd σ (.inl (mkI o, σ, lo, dd)) := by
  refine gCT_of (by decide) (Nat.le_of_ble_eq_true rfl) (fun p e s m args below meth c ls S hr hlk hnx hsz C0 hl H locs M => ?_)
  subst hsz
  have hx := S.1
  have hb := S.2.1
  unfold f_X12_isIndex at hf
  refine lv_iload_n hx hb dX12_isIndex_0 rfl (lv_at hl 0 rfl) ?_
  refine lv_if_lt (tgt := 13) hx hb dX12_isIndex_1 (by decide) (fun c1 => ?_) (fun c1 => ?_)
  · have hf := it_p c1 hf
    refine lv_iconst (v := 0) hx hb dX12_isIndex_13 (by decide) ?_
    cases hf
    exact g_zret S M hr hlk (by decide) (by decide) (by decide) dX12_isIndex_14 rfl
  · have hf := it_n c1 hf
    refine lv_iload_n hx hb dX12_isIndex_4 rfl (lv_at hl 0 rfl) ?_
    refine lv_iload_n hx hb dX12_isIndex_5 rfl (lv_at hl 1 rfl) ?_
    refine lv_icmp_ge (tgt := 13) hx hb dX12_isIndex_6 (by decide) (fun c2 => ?_) (fun c2 => ?_)
    · have hf := it_p c2 hf
      refine lv_iconst (v := 0) hx hb dX12_isIndex_13 (by decide) ?_
      cases hf
      exact g_zret S M hr hlk (by decide) (by decide) (by decide) dX12_isIndex_14 rfl
    · have hf := it_n c2 hf
      refine lv_iconst (v := 1) hx hb dX12_isIndex_9 (by decide) ?_
      refine lv_goto (tgt := 14) hx hb dX12_isIndex_10 (by decide) ?_
      cases hf
      exact g_zret S M hr hlk (by decide) (by decide) (by decide) dX12_isIndex_14 rfl
theorem k_X12_isWithin : gMV yX12_isWithin cX12_isWithin 3 (some .boolean) 3 := ⟨tw_2_78, tw_1_1, by decide⟩
set_option maxHeartbeats 400000 in
set_option maxRecDepth 100000 in
theorem c_X12_isWithin (l : Launch) (G : gT) (sz : Nat) (lo : Int64) (dd : UInt64) (σ : gM) (a1 : Int32) (a2 : Int32) (a3 : Int32) {o : Int32} (hf : f_X12_isWithin σ a1 a2 a3 = some o) : gCT l yX12_isWithin cX12_isWithin 3 (some .boolean) { frames := 0, cells := 0, slots := 0, locals := 0 } 0 0 G sz [.int a1, .int a2, .int a3] lo dd σ (.inl (mkI o, σ, lo, dd)) := by
  refine gCT_of (by decide) (Nat.le_of_ble_eq_true rfl) (fun p e s m args below meth c ls S hr hlk hnx hsz C0 hl H locs M => ?_)
  subst hsz
  have hx := S.1
  have hb := S.2.1
  unfold f_X12_isWithin at hf
  refine lv_iload_n hx hb dX12_isWithin_0 rfl (lv_at hl 0 rfl) ?_
  refine lv_iload_n hx hb dX12_isWithin_1 rfl (lv_at hl 1 rfl) ?_
  refine lv_icmp_lt (tgt := 14) hx hb dX12_isWithin_2 (by decide) (fun c1 => ?_) (fun c1 => ?_)
  · have hf := it_p c1 hf
    refine lv_iconst (v := 0) hx hb dX12_isWithin_14 (by decide) ?_
    cases hf
    exact g_zret S M hr hlk (by decide) (by decide) (by decide) dX12_isWithin_15 rfl
  · have hf := it_n c1 hf
    refine lv_iload_n hx hb dX12_isWithin_5 rfl (lv_at hl 0 rfl) ?_
    refine lv_iload_n hx hb dX12_isWithin_6 rfl (lv_at hl 2 rfl) ?_
    refine lv_icmp_gt (tgt := 14) hx hb dX12_isWithin_7 (by decide) (fun c2 => ?_) (fun c2 => ?_)
    · have hf := it_p c2 hf
      refine lv_iconst (v := 0) hx hb dX12_isWithin_14 (by decide) ?_
      cases hf
      exact g_zret S M hr hlk (by decide) (by decide) (by decide) dX12_isWithin_15 rfl
    · have hf := it_n c2 hf
      refine lv_iconst (v := 1) hx hb dX12_isWithin_10 (by decide) ?_
      refine lv_goto (tgt := 15) hx hb dX12_isWithin_11 (by decide) ?_
      cases hf
      exact g_zret S M hr hlk (by decide) (by decide) (by decide) dX12_isWithin_15 rfl
theorem k_X9_joins : gMV yX9_joins cX9_joins 3 (some .boolean) 2 := ⟨tw_3_164, tw_1_3, by decide⟩
set_option maxHeartbeats 400000 in
set_option maxRecDepth 100000 in
theorem c_X9_joins (l : Launch) (G : gT) (sz : Nat) (lo : Int64) (dd : UInt64) (σ : gM) (a1 : Int32) (a2 : Int32) {o : Int32} (hf : f_X9_joins σ a1 a2 = some o) : gCT l yX9_joins cX9_joins 3 (some .boolean) { frames := 0, cells := 0, slots := 0, locals := 0 } 0 0 G sz [.ref (G.1 2), .int a1, .int a2] lo dd σ (.inl (mkI o, σ, lo, dd)) := by
  refine gCT_of (by decide) (Nat.le_of_ble_eq_true rfl) (fun p e s m args below meth c ls S hr hlk hnx hsz C0 hl H locs M => ?_)
  subst hsz
  have hx := S.1
  have hb := S.2.1
  unfold f_X9_joins at hf
  refine lv_aload_n hx hb dX9_joins_0 rfl (lv_at hl 0 rfl) ?_
  refine gf_X9_0 (i := 2) S M (by decide) rfl tw_1_55 dX9_joins_1 ?_
  refine lv_iload_n hx hb dX9_joins_4 rfl (lv_at hl 1 rfl) ?_
  refine lv_bipush (v := 6) hx hb dX9_joins_5 (by decide) ?_
  refine lv_imul hx hb dX9_joins_7 ?_
  refine lv_iload_n hx hb dX9_joins_8 rfl (lv_at hl 2 rfl) ?_
  refine lv_iadd hx hb dX9_joins_9 ?_
  obtain ⟨h1, hf⟩ := gi_x hf
  refine gk_iald (i := 3) (k := ((a1 * 6) + a2).toNatClampNeg) S M (by decide) (gaa_36 rfl) h1 rfl dX9_joins_10 ?_
  refine lv_if_le (tgt := 18) hx hb dX9_joins_11 (by decide) (fun c2 => ?_) (fun c2 => ?_)
  · have hf := it_p c2 hf
    refine lv_iconst (v := 0) hx hb dX9_joins_18 (by decide) ?_
    cases hf
    exact g_zret S M hr hlk (by decide) (by decide) (by decide) dX9_joins_19 rfl
  · have hf := it_n c2 hf
    refine lv_iconst (v := 1) hx hb dX9_joins_14 (by decide) ?_
    refine lv_goto (tgt := 19) hx hb dX9_joins_15 (by decide) ?_
    cases hf
    exact g_zret S M hr hlk (by decide) (by decide) (by decide) dX9_joins_19 rfl
theorem k_X9_join : gMV yX9_join cX9_join 4 (some .int) 3 := ⟨tw_5_50, tw_1_3, by decide⟩
set_option maxHeartbeats 400000 in
set_option maxRecDepth 100000 in
theorem c_X9_join (l : Launch) (G : gT) (sz : Nat) (lo : Int64) (dd : UInt64) (σ : gM) (a1 : Int32) (a2 : Int32) (a3 : Int32) {r : Int32} {o : gM} (hf : f_X9_join σ a1 a2 a3 = some (r, o)) : gCT l yX9_join cX9_join 4 (some .int) { frames := 0, cells := 0, slots := 0, locals := 0 } 0 0 G sz [.ref (G.1 2), .int a1, .int a2, .int a3] lo dd σ (.inl (mkI r, o, lo, dd)) := by
  refine gCT_of (by decide) (Nat.le_of_ble_eq_true rfl) (fun p e s m args below meth c ls S hr hlk hnx hsz C0 hl H locs M => ?_)
  subst hsz
  have hx := S.1
  have hb := S.2.1
  unfold f_X9_join at hf
  refine lv_aload_n hx hb dX9_join_0 rfl (lv_at hl 0 rfl) ?_
  refine gf_X9_0 (i := 2) S M (by decide) rfl tw_1_55 dX9_join_1 ?_
  refine lv_iload_n hx hb dX9_join_4 rfl (lv_at hl 1 rfl) ?_
  refine lv_bipush (v := 6) hx hb dX9_join_5 (by decide) ?_
  refine lv_imul hx hb dX9_join_7 ?_
  refine lv_iload_n hx hb dX9_join_8 rfl (lv_at hl 2 rfl) ?_
  refine lv_iadd hx hb dX9_join_9 ?_
  refine lv_iload_n hx hb dX9_join_10 rfl (lv_at hl 3 rfl) ?_
  obtain ⟨h1, hf⟩ := gi_x hf
  obtain ⟨σ2, eσ2, hf⟩ := nm_x hf
  refine gk_iast (i := 3) (k := ((a1 * 6) + a2).toNatClampNeg) S M (by decide) (fun _ => (gaa_36 rfl)) h1 rfl dX9_join_11 (fun H locs M => ?_)
  rw [← eσ2] at M
  refine lv_aload_n hx hb dX9_join_12 rfl (lv_at hl 0 rfl) ?_
  refine gf_X9_0 (i := 2) S M (by decide) rfl tw_1_55 dX9_join_13 ?_
  refine lv_iload_n hx hb dX9_join_16 rfl (lv_at hl 2 rfl) ?_
  refine lv_bipush (v := 6) hx hb dX9_join_17 (by decide) ?_
  refine lv_imul hx hb dX9_join_19 ?_
  refine lv_iload_n hx hb dX9_join_20 rfl (lv_at hl 1 rfl) ?_
  refine lv_iadd hx hb dX9_join_21 ?_
  refine lv_iload_n hx hb dX9_join_22 rfl (lv_at hl 3 rfl) ?_
  obtain ⟨h3, hf⟩ := gi_x hf
  obtain ⟨σ4, eσ4, hf⟩ := nm_x hf
  refine gk_iast (i := 3) (k := ((a2 * 6) + a1).toNatClampNeg) S M (by decide) (fun _ => (gaa_36 rfl)) h3 rfl dX9_join_23 (fun H locs M => ?_)
  rw [← eσ4] at M
  refine lv_aload_n hx hb dX9_join_24 rfl (lv_at hl 0 rfl) ?_
  refine lv_dup hx hb dX9_join_25 rfl ?_
  refine gf_X9_4 (i := 2) S M (by decide) rfl tw_1_59 dX9_join_26 ?_
  refine lv_iconst (v := 1) hx hb dX9_join_29 (by decide) ?_
  refine lv_iadd hx hb dX9_join_30 ?_
  obtain ⟨σ5, eσ5, hf⟩ := nm_x hf
  refine gp_X9_4 (i := 2) S M (by decide) rfl tw_1_59 dX9_join_31 (fun H locs M => ?_)
  rw [← eσ5] at M
  refine lv_aload_n hx hb dX9_join_34 rfl (lv_at hl 0 rfl) ?_
  refine gf_X9_4 (i := 2) S M (by decide) rfl tw_1_59 dX9_join_35 ?_
  cases hf
  exact g_iret S M hr hlk (by decide) (by decide) dX9_join_38 rfl
theorem k_X3_joinPlaces : gMV yX3_joinPlaces cX3_joinPlaces 4 (some .int) 3 := ⟨tw_5_45, tw_1_2, by decide⟩
set_option maxHeartbeats 400000 in
set_option maxRecDepth 100000 in
theorem c_X3_joinPlaces (l : Launch) (G : gT) (sz : Nat) (lo : Int64) (dd : UInt64) (σ : gM) (a1 : Int32) (a2 : Int32) (a3 : Int32) {r : Int32} {o : gM} (hf : f_X3_joinPlaces σ a1 a2 a3 = some (r, o)) : gCT l yX3_joinPlaces cX3_joinPlaces 4 (some .int) { frames := 1, cells := 0, slots := 0, locals := 23 } 0 0 G sz [.ref (G.1 1), .int a1, .int a2, .int a3] lo dd σ (.inl (mkI r, o, lo, dd)) := by
  refine gCT_of (by decide) (Nat.le_of_ble_eq_true rfl) (fun p e s m args below meth c ls S hr hlk hnx hsz C0 hl H locs M => ?_)
  subst hsz
  have hx := S.1
  have hb := S.2.1
  unfold f_X3_joinPlaces at hf
  refine lv_iload_n hx hb dX3_joinPlaces_0 rfl (lv_at hl 1 rfl) ?_
  refine lv_bipush (v := 6) hx hb dX3_joinPlaces_1 (by decide) ?_
  obtain ⟨r2, h1, hf⟩ := bd_x hf
  refine g_callR (st1 := [.int r2]) (cells' := 0) (slots' := 0) M (g_invSN (index := 72) (host := "ParcelDepot") S M C0 hl (c_X12_isIndex l G H.size lo dd σ a1 6  h1) k_X12_isIndex tw_2_74 (by decide +kernel) rfl rfl rfl rfl dX3_joinPlaces_3) rfl rfl rfl (fun H locs M => ?_)
  refine lv_if_eq (tgt := 18) hx hb dX3_joinPlaces_6 (by decide) (fun c3 => ?_) (fun c3 => ?_)
  · have hf := it_p c3 hf
    refine lv_bipush (v := (-2)) hx hb dX3_joinPlaces_18 (by decide) ?_
    cases hf
    exact g_iret S M hr hlk (by decide) (by decide) dX3_joinPlaces_20 rfl
  · have hf := it_n c3 hf
    refine lv_iload_n hx hb dX3_joinPlaces_9 rfl (lv_at hl 2 rfl) ?_
    refine lv_bipush (v := 6) hx hb dX3_joinPlaces_10 (by decide) ?_
    obtain ⟨r5, h4, hf⟩ := bd_x hf
    refine g_callR (st1 := [.int r5]) (cells' := 0) (slots' := 0) M (g_invSN (index := 72) (host := "ParcelDepot") S M C0 hl (c_X12_isIndex l G H.size lo dd σ a2 6  h4) k_X12_isIndex tw_2_74 (by decide +kernel) rfl rfl rfl rfl dX3_joinPlaces_12) rfl rfl rfl (fun H locs M => ?_)
    refine lv_if_ne (tgt := 21) hx hb dX3_joinPlaces_15 (by decide) (fun c6 => ?_) (fun c6 => ?_)
    · have hf := it_n c6 hf
      refine lv_iload_n hx hb dX3_joinPlaces_21 rfl (lv_at hl 1 rfl) ?_
      refine lv_iload_n hx hb dX3_joinPlaces_22 rfl (lv_at hl 2 rfl) ?_
      refine lv_icmp_eq (tgt := 36) hx hb dX3_joinPlaces_23 (by decide) (fun c7 => ?_) (fun c7 => ?_)
      · have hf := it_p c7 hf
        refine lv_bipush (v := (-3)) hx hb dX3_joinPlaces_36 (by decide) ?_
        cases hf
        exact g_iret S M hr hlk (by decide) (by decide) dX3_joinPlaces_38 rfl
      · have hf := it_n c7 hf
        refine lv_iload_n hx hb dX3_joinPlaces_26 rfl (lv_at hl 3 rfl) ?_
        refine lv_iconst (v := 1) hx hb dX3_joinPlaces_27 (by decide) ?_
        refine lv_bipush (v := 20) hx hb dX3_joinPlaces_28 (by decide) ?_
        obtain ⟨r9, h8, hf⟩ := bd_x hf
        refine g_callR (st1 := [.int r9]) (cells' := 0) (slots' := 0) M (g_invSN (index := 76) (host := "ParcelDepot") S M C0 hl (c_X12_isWithin l G H.size lo dd σ a3 1 20  h8) k_X12_isWithin tw_2_77 (by decide +kernel) rfl rfl rfl rfl dX3_joinPlaces_30) rfl rfl rfl (fun H locs M => ?_)
        refine lv_if_ne (tgt := 39) hx hb dX3_joinPlaces_33 (by decide) (fun c10 => ?_) (fun c10 => ?_)
        · have hf := it_n c10 hf
          refine lv_aload_n hx hb dX3_joinPlaces_39 rfl (lv_at hl 0 rfl) ?_
          refine gf_X3_0 (i := 1) S M (by decide) rfl tw_1_133 dX3_joinPlaces_40 ?_
          refine lv_iload_n hx hb dX3_joinPlaces_43 rfl (lv_at hl 1 rfl) ?_
          refine lv_iload_n hx hb dX3_joinPlaces_44 rfl (lv_at hl 2 rfl) ?_
          obtain ⟨r12, h11, hf⟩ := bd_x hf
          refine g_callR (st1 := [.int r12]) (cells' := 0) (slots' := 0) M (g_invV (index := 80) S M C0 hl (c_X9_joins l G H.size lo dd σ a1 a2  h11) k_X9_joins tw_3_162 tw_3_163 tw_5_46 (by decide) (ge_2 rfl) rfl rfl rfl rfl rfl rfl dX3_joinPlaces_45) rfl rfl rfl (fun H locs M => ?_)
          refine lv_if_eq (tgt := 56) hx hb dX3_joinPlaces_48 (by decide) (fun c13 => ?_) (fun c13 => ?_)
          · have hf := it_p c13 hf
            refine lv_aload_n hx hb dX3_joinPlaces_56 rfl (lv_at hl 0 rfl) ?_
            refine gf_X3_0 (i := 1) S M (by decide) rfl tw_1_133 dX3_joinPlaces_57 ?_
            refine lv_iload_n hx hb dX3_joinPlaces_60 rfl (lv_at hl 1 rfl) ?_
            refine lv_iload_n hx hb dX3_joinPlaces_61 rfl (lv_at hl 2 rfl) ?_
            refine lv_iload_n hx hb dX3_joinPlaces_62 rfl (lv_at hl 3 rfl) ?_
            obtain ⟨r15, σ16, h14, hf⟩ := bd2_x hf
            refine g_callR (st1 := [.int r15]) (cells' := 0) (slots' := 0) M (g_invV (index := 83) S M C0 hl (c_X9_join l G H.size lo dd σ a1 a2 a3  h14) k_X9_join tw_5_48 tw_5_49 tw_5_47 (by decide) (ge_2 rfl) rfl rfl rfl rfl rfl rfl dX3_joinPlaces_63) rfl rfl rfl (fun H locs M => ?_)
            cases hf
            exact g_iret S M hr hlk (by decide) (by decide) dX3_joinPlaces_66 rfl
          · have hf := it_n c13 hf
            refine lv_bipush (v := (-4)) hx hb dX3_joinPlaces_51 (by decide) ?_
            refine lv_goto (tgt := 66) hx hb dX3_joinPlaces_53 (by decide) ?_
            cases hf
            exact g_iret S M hr hlk (by decide) (by decide) dX3_joinPlaces_66 rfl
        · have hf := it_p c10 hf
          refine lv_bipush (v := (-3)) hx hb dX3_joinPlaces_36 (by decide) ?_
          cases hf
          exact g_iret S M hr hlk (by decide) (by decide) dX3_joinPlaces_38 rfl
    · have hf := it_p c6 hf
      refine lv_bipush (v := (-2)) hx hb dX3_joinPlaces_18 (by decide) ?_
      cases hf
      exact g_iret S M hr hlk (by decide) (by decide) dX3_joinPlaces_20 rfl
theorem k_X12_accepted : gMV yX12_accepted cX12_accepted 1 (some .int) 1 := ⟨tw_2_93, tw_1_1, by decide⟩
set_option maxHeartbeats 400000 in
set_option maxRecDepth 100000 in
theorem c_X12_accepted (l : Launch) (hfl : l.stackTraces = false) (G : gT) (sz : Nat) (lo : Int64) (dd : UInt64) (σ : gM) (a1 : Int32) {o : (Int32) ⊕ (Nat)} (hf : f_X12_accepted σ a1 = some o) : gCT l yX12_accepted cX12_accepted 1 (some .int) { frames := 7, cells := 1, slots := 6, locals := 103 } 1 6 G sz [.int a1] lo dd σ (got mkI o σ lo dd) := by
  refine gCT_of (by decide) (Nat.le_of_ble_eq_true rfl) (fun p e s m args below meth c ls S hr hlk hnx hsz C0 hl H locs M => ?_)
  subst hsz
  have hx := S.1
  have hb := S.2.1
  unfold f_X12_accepted at hf
  refine lv_iload_n hx hb dX12_accepted_0 rfl (lv_at hl 0 rfl) ?_
  by_cases c1 : a1 = (-6)
  · have hf := it_p c1 hf
    refine g_top c1 ?_
    refine lv_tableIn (off := 79) (tgt := 80) hx hb dX12_accepted_1 (by decide) (by decide) rfl (by decide) ?_
    cases hf
    exact g_throwW_4_15 S M C0 hfl hl hlk hnx dX12_accepted_80 dX12_accepted_83 dX12_accepted_84 dX12_accepted_87 dX12_accepted_90 rfl (by decide) (by decide) rfl
  · have hf := it_n c1 hf
    by_cases c2 : a1 = (-5)
    · have hf := it_p c2 hf
      refine g_top c2 ?_
      refine lv_tableIn (off := 68) (tgt := 69) hx hb dX12_accepted_1 (by decide) (by decide) rfl (by decide) ?_
      cases hf
      exact g_throwW_3_14 S M C0 hfl hl hlk hnx dX12_accepted_69 dX12_accepted_72 dX12_accepted_73 dX12_accepted_76 dX12_accepted_79 rfl (by decide) (by decide) rfl
    · have hf := it_n c2 hf
      by_cases c3 : a1 = (-4)
      · have hf := it_p c3 hf
        refine g_top c3 ?_
        refine lv_tableIn (off := 57) (tgt := 58) hx hb dX12_accepted_1 (by decide) (by decide) rfl (by decide) ?_
        cases hf
        exact g_throwW_2_13 S M C0 hfl hl hlk hnx dX12_accepted_58 dX12_accepted_61 dX12_accepted_62 dX12_accepted_65 dX12_accepted_68 rfl (by decide) (by decide) rfl
      · have hf := it_n c3 hf
        by_cases c4 : a1 = (-3)
        · have hf := it_p c4 hf
          refine g_top c4 ?_
          refine lv_tableIn (off := 46) (tgt := 47) hx hb dX12_accepted_1 (by decide) (by decide) rfl (by decide) ?_
          cases hf
          exact g_throwW_1_12 S M C0 hfl hl hlk hnx dX12_accepted_47 dX12_accepted_50 dX12_accepted_51 dX12_accepted_54 dX12_accepted_57 rfl (by decide) (by decide) rfl
        · have hf := it_n c4 hf
          by_cases c5 : a1 = (-2)
          · have hf := it_p c5 hf
            refine g_top c5 ?_
            refine lv_tableIn (off := 35) (tgt := 36) hx hb dX12_accepted_1 (by decide) (by decide) rfl (by decide) ?_
            cases hf
            exact g_throwW_0_11 S M C0 hfl hl hlk hnx dX12_accepted_36 dX12_accepted_39 dX12_accepted_40 dX12_accepted_43 dX12_accepted_46 rfl (by decide) (by decide) rfl
          · have hf := it_n c5 hf
            refine g_tswD (tgt := 91) hx hb dX12_accepted_1 (by decide) (by decide) (fun i hi => ?_) ?_
            · have hd : ∀ i : Nat, i < 5 → (i ∈ [0, 1, 2, 3, 4]) ∨ (#[(79 : Int), (68 : Int), (57 : Int), (46 : Int), (35 : Int)])[i]? = some (90 : Int) := by decide
              rcases hd i hi with h | h
              · simp only [List.mem_cons, List.not_mem_nil, or_false] at h
                rcases h with rfl | rfl | rfl | rfl | rfl
                · exact Or.inr (fun q => c1 (g_toInt_inj (q.trans (by decide))))
                · exact Or.inr (fun q => c2 (g_toInt_inj (q.trans (by decide))))
                · exact Or.inr (fun q => c3 (g_toInt_inj (q.trans (by decide))))
                · exact Or.inr (fun q => c4 (g_toInt_inj (q.trans (by decide))))
                · exact Or.inr (fun q => c5 (g_toInt_inj (q.trans (by decide))))
              · exact Or.inl h
            · refine lv_iload_n hx hb dX12_accepted_91 rfl (lv_at hl 0 rfl) ?_
              cases hf
              exact g_iret S M hr hlk (by decide) (by decide) dX12_accepted_92 rfl
theorem k_X7_keep : gMV yX7_keep cX7_keep 1 none 0 := ⟨tw_2_233, tw_1_7, by decide⟩
set_option maxHeartbeats 400000 in
set_option maxRecDepth 100000 in
theorem c_X7_keep (l : Launch) (G : gT) (sz : Nat) (lo : Int64) (dd : UInt64) (σ : gM) {o : gM} (hf : f_X7_keep σ = some o) : gCT l yX7_keep cX7_keep 1 none { frames := 1, cells := 0, slots := 0, locals := 32 } 0 0 G sz [.ref (G.1 199)] lo dd σ (.inl (none, o, lo, dd)) := by
  refine gCT_of (by decide) (Nat.le_of_ble_eq_true rfl) (fun p e s m args below meth c ls S hr hlk hnx hsz C0 hl H locs M => ?_)
  subst hsz
  have hx := S.1
  have hb := S.2.1
  unfold f_X7_keep at hf
  refine lv_aload_n hx hb dX7_keep_0 rfl (lv_at hl 0 rfl) ?_
  refine lv_aload_n hx hb dX7_keep_1 rfl (lv_at hl 0 rfl) ?_
  refine gf_X7_1 (i := 199) S M (by decide) rfl tw_1_164 dX7_keep_2 ?_
  refine lv_iconst (v := 1) hx hb dX7_keep_5 (by decide) ?_
  refine lv_iadd hx hb dX7_keep_6 ?_
  refine lv_bipush (v := 9) hx hb dX7_keep_7 (by decide) ?_
  refine lv_irem hx hb dX7_keep_9 (by decide) ?_
  obtain ⟨σ1, eσ1, hf⟩ := nm_x hf
  refine gp_X7_1 (i := 199) S M (by decide) rfl tw_1_164 dX7_keep_10 (fun H locs M => ?_)
  rw [← eσ1] at M
  refine lv_aload_n hx hb dX7_keep_13 rfl (lv_at hl 0 rfl) ?_
  refine lv_aload_n hx hb dX7_keep_14 rfl (lv_at hl 0 rfl) ?_
  refine gf_X7_2 (i := 199) S M (by decide) rfl tw_1_165 dX7_keep_15 ?_
  refine lv_iconst (v := 1) hx hb dX7_keep_18 (by decide) ?_
  refine lv_iadd hx hb dX7_keep_19 ?_
  refine lv_bipush (v := 8) hx hb dX7_keep_20 (by decide) ?_
  refine va_mmin hx hb (S.2.2.1.trans hl.1.symm) S.2.2.2.1 (S.2.2.2.2 _ tw_2_234) (S.2.2.2.2 _ tw_2_235) (S.2.2.2.2 _ tw_1_23) (S.2.2.2.2 _ tw_2_236) (Nat.le_of_ble_eq_true rfl) (Nat.le_of_ble_eq_true rfl) (Nat.le_of_ble_eq_true rfl) (Nat.le_of_ble_eq_true rfl) dX7_keep_22 ?_
  obtain ⟨σ2, eσ2, hf⟩ := nm_x hf
  refine gp_X7_2 (i := 199) S M (by decide) rfl tw_1_165 dX7_keep_25 (fun H locs M => ?_)
  rw [← eσ2] at M
  cases hf
  exact g_vret S M hr hlk (by decide) (by decide) dX7_keep_28 rfl
theorem k_X12_recorded : gMV yX12_recorded cX12_recorded 3 (some .int) 1 := ⟨tw_2_90, tw_1_1, by decide⟩
set_option maxHeartbeats 400000 in
set_option maxRecDepth 100000 in
theorem c_X12_recorded (l : Launch) (hfl : l.stackTraces = false) (G : gT) (sz : Nat) (lo : Int64) (dd : UInt64) (σ : gM) (a1 : Int32) {o : (Int32 × gM) ⊕ (Nat × gM)} (hf : f_X12_recorded σ a1 = some o) : gCT l yX12_recorded cX12_recorded 3 (some .int) { frames := 8, cells := 1, slots := 6, locals := 123 } 1 6 G sz [.ref (G.1 0), .int a1] lo dd σ (got2 mkI o lo dd) := by
  refine gCT_of (by decide) (Nat.le_of_ble_eq_true rfl) (fun p e s m args below meth c ls S hr hlk hnx hsz C0 hl H locs M => ?_)
  subst hsz
  have hx := S.1
  have hb := S.2.1
  unfold f_X12_recorded at hf
  refine lv_iload_n hx hb dX12_recorded_0 rfl (lv_at hl 1 rfl) ?_
  rcases bt_x hf with ⟨r2, h1, hf⟩ | ⟨n3, h1, hf⟩
  · refine g_callR (st1 := [.int r2]) (cells' := 1) (slots' := 6) M (g_invS (index := 177) S M C0 hl (c_X12_accepted l hfl G H.size lo dd σ a1  h1) k_X12_accepted tw_2_92 tw_2_91 rfl rfl rfl rfl dX12_recorded_1) rfl rfl rfl (fun H locs M => ?_)
    refine lv_istore_n (lv' := [(2, .int r2), (0, .ref (G.1 0)), (1, .int a1)]) hx hb dX12_recorded_4 rfl hl (by decide) rfl (fun ls hl => ?_)
    refine lv_aload_n hx hb dX12_recorded_5 rfl (lv_at hl 1 rfl) ?_
    refine gf_X12_2 (i := 0) S M (by decide) rfl tw_2_9 dX12_recorded_6 ?_
    obtain ⟨σ5, h4, hf⟩ := bd_x hf
    refine g_callR (st1 := []) (cells' := 1) (slots' := 6) M (g_invV (index := 318) S M C0 hl (c_X7_keep l G H.size lo dd σ   h4) k_X7_keep tw_2_231 tw_2_232 tw_2_230 (by decide) (ge_6 rfl) rfl rfl rfl rfl rfl rfl dX12_recorded_9) rfl rfl rfl (fun H locs M => ?_)
    refine lv_iload_n hx hb dX12_recorded_12 rfl (lv_at hl 0 rfl) ?_
    cases hf
    exact g_iret S M hr hlk (by decide) (by decide) dX12_recorded_13 rfl
  · cases hf
    refine g_runX (cells' := 1) (slots' := 6) M (g_invS (index := 177) S M C0 hl (c_X12_accepted l hfl G H.size lo dd σ a1  h1) k_X12_accepted tw_2_92 tw_2_91 rfl rfl rfl rfl dX12_recorded_1) rfl rfl (fun ce q H locs M hq hv hcl => ?_)
    exact g_out M hnx hlk hq hv hcl (by decide) (by decide) rfl
theorem k_X12_buildRoad : gMV yX12_buildRoad cX12_buildRoad 4 (some .int) 3 := ⟨tw_5_182, tw_1_1, by decide⟩
set_option maxHeartbeats 400000 in
set_option maxRecDepth 100000 in
theorem c_X12_buildRoad (l : Launch) (hfl : l.stackTraces = false) (G : gT) (sz : Nat) (lo : Int64) (dd : UInt64) (σ : gM) (a1 : Int32) (a2 : Int32) (a3 : Int32) {o : (Int32 × gM) ⊕ (Nat × gM)} (hf : f_X12_buildRoad σ a1 a2 a3 = some o) : gCT l yX12_buildRoad cX12_buildRoad 4 (some .int) { frames := 9, cells := 1, slots := 6, locals := 145 } 1 6 G sz [.ref (G.1 0), .int a1, .int a2, .int a3] lo dd σ (got2 mkI o lo dd) := by
  refine gCT_of (by decide) (Nat.le_of_ble_eq_true rfl) (fun p e s m args below meth c ls S hr hlk hnx hsz C0 hl H locs M => ?_)
  subst hsz
  have hx := S.1
  have hb := S.2.1
  unfold f_X12_buildRoad at hf
  refine lv_aload_n hx hb dX12_buildRoad_0 rfl (lv_at hl 0 rfl) ?_
  refine gf_X12_2 (i := 0) S M (by decide) rfl tw_2_9 dX12_buildRoad_1 ?_
  refine lv_aload_n hx hb dX12_buildRoad_4 rfl (lv_at hl 0 rfl) ?_
  refine gf_X12_0 (i := 0) S M (by decide) rfl tw_2_7 dX12_buildRoad_5 ?_
  obtain ⟨σ2, h1, hf⟩ := bd_x hf
  refine g_callR (st1 := []) (cells' := 0) (slots' := 0) M (g_invV (index := 58) S M C0 hl (c_X7_prepare l G H.size lo dd σ   h1) k_X7_prepare tw_2_40 tw_2_41 tw_2_39 (by decide) (ge_6 rfl) rfl rfl rfl rfl rfl rfl dX12_buildRoad_8) rfl rfl rfl (fun H locs M => ?_)
  refine lv_aload_n hx hb dX12_buildRoad_11 rfl (lv_at hl 0 rfl) ?_
  refine lv_aload_n hx hb dX12_buildRoad_12 rfl (lv_at hl 0 rfl) ?_
  refine gf_X12_0 (i := 0) S M (by decide) rfl tw_2_7 dX12_buildRoad_13 ?_
  refine lv_iload_n hx hb dX12_buildRoad_16 rfl (lv_at hl 1 rfl) ?_
  refine lv_iload_n hx hb dX12_buildRoad_17 rfl (lv_at hl 2 rfl) ?_
  refine lv_iload_n hx hb dX12_buildRoad_18 rfl (lv_at hl 3 rfl) ?_
  obtain ⟨r4, σ5, h3, hf⟩ := bd2_x hf
  refine g_callR (st1 := [.int r4, .ref (G.1 0)]) (cells' := 0) (slots' := 0) M (g_invV (index := 62) S M C0 hl (c_X3_joinPlaces l G H.size lo dd σ2 a1 a2 a3  h3) k_X3_joinPlaces tw_5_43 tw_5_44 tw_5_42 (by decide) (ge_1 rfl) rfl rfl rfl rfl rfl rfl dX12_buildRoad_19) rfl rfl rfl (fun H locs M => ?_)
  rcases bt2_x hf with ⟨r7, σ8, h6, hf⟩ | ⟨n9, σ8, h6, hf⟩
  · refine g_callR (st1 := [.int r7]) (cells' := 1) (slots' := 6) M (g_invV (index := 66) S M C0 hl (c_X12_recorded l hfl G H.size lo dd σ5 r4  h6) k_X12_recorded tw_2_89 tw_0_0 tw_2_87 (by decide) (ge_0 rfl) rfl rfl rfl rfl rfl rfl dX12_buildRoad_22) rfl rfl rfl (fun H locs M => ?_)
    cases hf
    exact g_iret S M hr hlk (by decide) (by decide) dX12_buildRoad_25 rfl
  · cases hf
    refine g_runX (cells' := 1) (slots' := 6) M (g_invV (index := 66) S M C0 hl (c_X12_recorded l hfl G H.size lo dd σ5 r4  h6) k_X12_recorded tw_2_89 tw_0_0 tw_2_87 (by decide) (ge_0 rfl) rfl rfl rfl rfl rfl rfl dX12_buildRoad_22) rfl rfl (fun ce q H locs M hq hv hcl => ?_)
    exact g_out M hnx hlk hq hv hcl (by decide) (by decide) rfl
theorem k_X8_isFull : gMV yX8_isFull cX8_isFull 1 (some .boolean) 0 := ⟨tw_2_82, tw_1_4, by decide⟩
set_option maxHeartbeats 400000 in
set_option maxRecDepth 100000 in
theorem c_X8_isFull (l : Launch) (G : gT) (sz : Nat) (lo : Int64) (dd : UInt64) (σ : gM) {o : Int32} (hf : f_X8_isFull σ = some o) : gCT l yX8_isFull cX8_isFull 1 (some .boolean) { frames := 0, cells := 0, slots := 0, locals := 0 } 0 0 G sz [.ref (G.1 7)] lo dd σ (.inl (mkI o, σ, lo, dd)) := by
  refine gCT_of (by decide) (Nat.le_of_ble_eq_true rfl) (fun p e s m args below meth c ls S hr hlk hnx hsz C0 hl H locs M => ?_)
  subst hsz
  have hx := S.1
  have hb := S.2.1
  unfold f_X8_isFull at hf
  refine lv_aload_n hx hb dX8_isFull_0 rfl (lv_at hl 0 rfl) ?_
  refine gf_X8_5 (i := 7) S M (by decide) rfl tw_1_84 dX8_isFull_1 ?_
  refine lv_bipush (v := 12) hx hb dX8_isFull_4 (by decide) ?_
  refine lv_icmp_lt (tgt := 13) hx hb dX8_isFull_6 (by decide) (fun c1 => ?_) (fun c1 => ?_)
  · have hf := it_p c1 hf
    refine lv_iconst (v := 0) hx hb dX8_isFull_13 (by decide) ?_
    cases hf
    exact g_zret S M hr hlk (by decide) (by decide) (by decide) dX8_isFull_14 rfl
  · have hf := it_n c1 hf
    refine lv_iconst (v := 1) hx hb dX8_isFull_9 (by decide) ?_
    refine lv_goto (tgt := 14) hx hb dX8_isFull_10 (by decide) ?_
    cases hf
    exact g_zret S M hr hlk (by decide) (by decide) (by decide) dX8_isFull_14 rfl
theorem k_X8_add : gMV yX8_add cX8_add 5 (some .int) 3 := ⟨tw_2_86, tw_1_4, by decide⟩
set_option maxHeartbeats 400000 in
set_option maxRecDepth 100000 in
theorem c_X8_add (l : Launch) (G : gT) (sz : Nat) (lo : Int64) (dd : UInt64) (σ : gM) (a1 : Int32) (a2 : Int32) (a3 : Int32) {r : Int32} {o : gM} (hf : f_X8_add σ a1 a2 a3 = some (r, o)) : gCT l yX8_add cX8_add 5 (some .int) { frames := 0, cells := 0, slots := 0, locals := 0 } 0 0 G sz [.ref (G.1 7), .int a1, .int a2, .int a3] lo dd σ (.inl (mkI r, o, lo, dd)) := by
  refine gCT_of (by decide) (Nat.le_of_ble_eq_true rfl) (fun p e s m args below meth c ls S hr hlk hnx hsz C0 hl H locs M => ?_)
  subst hsz
  have hx := S.1
  have hb := S.2.1
  unfold f_X8_add at hf
  refine lv_aload_n hx hb dX8_add_0 rfl (lv_at hl 0 rfl) ?_
  refine gf_X8_5 (i := 7) S M (by decide) rfl tw_1_84 dX8_add_1 ?_
  obtain ⟨x1, ex1, hf⟩ := nm_x hf
  refine g_topi ex1 ?_
  refine lv_istore (lv' := [(4, .int x1), (0, .ref (G.1 7)), (1, .int a1), (2, .int a2), (3, .int a3)]) hx hb dX8_add_4 hl (by decide) rfl (fun ls hl => ?_)
  refine lv_aload_n hx hb dX8_add_6 rfl (lv_at hl 1 rfl) ?_
  refine gf_X8_0 (i := 7) S M (by decide) rfl tw_1_79 dX8_add_7 ?_
  refine lv_iload hx hb dX8_add_10 (lv_at hl 0 rfl) ?_
  refine lv_iload_n hx hb dX8_add_12 rfl (lv_at hl 2 rfl) ?_
  obtain ⟨h2, hf⟩ := gi_x hf
  obtain ⟨σ3, eσ3, hf⟩ := nm_x hf
  refine gk_iast (i := 8) (k := x1.toNatClampNeg) S M (by decide) (fun _ => (gaa_12 rfl)) h2 rfl dX8_add_13 (fun H locs M => ?_)
  rw [← eσ3] at M
  refine lv_aload_n hx hb dX8_add_14 rfl (lv_at hl 1 rfl) ?_
  refine gf_X8_1 (i := 7) S M (by decide) rfl tw_1_80 dX8_add_15 ?_
  refine lv_iload hx hb dX8_add_18 (lv_at hl 0 rfl) ?_
  refine lv_iload_n hx hb dX8_add_20 rfl (lv_at hl 3 rfl) ?_
  obtain ⟨h4, hf⟩ := gi_x hf
  obtain ⟨σ5, eσ5, hf⟩ := nm_x hf
  refine gk_iast (i := 9) (k := x1.toNatClampNeg) S M (by decide) (fun _ => (gaa_12 rfl)) h4 rfl dX8_add_21 (fun H locs M => ?_)
  rw [← eσ5] at M
  refine lv_aload_n hx hb dX8_add_22 rfl (lv_at hl 1 rfl) ?_
  refine gf_X8_2 (i := 7) S M (by decide) rfl tw_1_81 dX8_add_23 ?_
  refine lv_iload hx hb dX8_add_26 (lv_at hl 0 rfl) ?_
  refine lv_iload_n hx hb dX8_add_28 rfl (lv_at hl 4 rfl) ?_
  obtain ⟨h6, hf⟩ := gi_x hf
  obtain ⟨σ7, eσ7, hf⟩ := nm_x hf
  refine gk_iast (i := 10) (k := x1.toNatClampNeg) S M (by decide) (fun _ => (gaa_12 rfl)) h6 rfl dX8_add_29 (fun H locs M => ?_)
  rw [← eσ7] at M
  refine lv_aload_n hx hb dX8_add_30 rfl (lv_at hl 1 rfl) ?_
  refine gf_X8_3 (i := 7) S M (by decide) rfl tw_1_82 dX8_add_31 ?_
  refine lv_iload hx hb dX8_add_34 (lv_at hl 0 rfl) ?_
  refine lv_iconst (v := (-1)) hx hb dX8_add_36 (by decide) ?_
  obtain ⟨h8, hf⟩ := gi_x hf
  obtain ⟨σ9, eσ9, hf⟩ := nm_x hf
  refine gk_iast (i := 11) (k := x1.toNatClampNeg) S M (by decide) (fun _ => (gaa_12 rfl)) h8 rfl dX8_add_37 (fun H locs M => ?_)
  rw [← eσ9] at M
  refine lv_aload_n hx hb dX8_add_38 rfl (lv_at hl 1 rfl) ?_
  refine gf_X8_4 (i := 7) S M (by decide) rfl tw_1_83 dX8_add_39 ?_
  refine lv_iload hx hb dX8_add_42 (lv_at hl 0 rfl) ?_
  refine lv_iconst (v := 0) hx hb dX8_add_44 (by decide) ?_
  obtain ⟨h10, hf⟩ := gi_x hf
  obtain ⟨σ11, eσ11, hf⟩ := nm_x hf
  refine gk_iast (i := 12) (k := x1.toNatClampNeg) S M (by decide) (fun _ => (gaa_12 rfl)) h10 rfl dX8_add_45 (fun H locs M => ?_)
  rw [← eσ11] at M
  refine lv_aload_n hx hb dX8_add_46 rfl (lv_at hl 1 rfl) ?_
  refine lv_dup hx hb dX8_add_47 rfl ?_
  refine gf_X8_5 (i := 7) S M (by decide) rfl tw_1_84 dX8_add_48 ?_
  refine lv_iconst (v := 1) hx hb dX8_add_51 (by decide) ?_
  refine lv_iadd hx hb dX8_add_52 ?_
  obtain ⟨σ12, eσ12, hf⟩ := nm_x hf
  refine gp_X8_5 (i := 7) S M (by decide) rfl tw_1_84 dX8_add_53 (fun H locs M => ?_)
  rw [← eσ12] at M
  refine lv_iload hx hb dX8_add_56 (lv_at hl 0 rfl) ?_
  cases hf
  exact g_iret S M hr hlk (by decide) (by decide) dX8_add_58 rfl
theorem k_X3_addParcel : gMV yX3_addParcel cX3_addParcel 4 (some .int) 3 := ⟨tw_2_72, tw_1_2, by decide⟩
set_option maxHeartbeats 400000 in
set_option maxRecDepth 100000 in
theorem c_X3_addParcel (l : Launch) (G : gT) (sz : Nat) (lo : Int64) (dd : UInt64) (σ : gM) (a1 : Int32) (a2 : Int32) (a3 : Int32) {r : Int32} {o : gM} (hf : f_X3_addParcel σ a1 a2 a3 = some (r, o)) : gCT l yX3_addParcel cX3_addParcel 4 (some .int) { frames := 1, cells := 0, slots := 0, locals := 24 } 0 0 G sz [.ref (G.1 1), .int a1, .int a2, .int a3] lo dd σ (.inl (mkI r, o, lo, dd)) := by
  refine gCT_of (by decide) (Nat.le_of_ble_eq_true rfl) (fun p e s m args below meth c ls S hr hlk hnx hsz C0 hl H locs M => ?_)
  subst hsz
  have hx := S.1
  have hb := S.2.1
  unfold f_X3_addParcel at hf
  refine lv_iload_n hx hb dX3_addParcel_0 rfl (lv_at hl 3 rfl) ?_
  refine lv_bipush (v := 6) hx hb dX3_addParcel_1 (by decide) ?_
  obtain ⟨r2, h1, hf⟩ := bd_x hf
  refine g_callR (st1 := [.int r2]) (cells' := 0) (slots' := 0) M (g_invSN (index := 72) (host := "ParcelDepot") S M C0 hl (c_X12_isIndex l G H.size lo dd σ a3 6  h1) k_X12_isIndex tw_2_74 (by decide +kernel) rfl rfl rfl rfl dX3_addParcel_3) rfl rfl rfl (fun H locs M => ?_)
  refine lv_if_ne (tgt := 12) hx hb dX3_addParcel_6 (by decide) (fun c3 => ?_) (fun c3 => ?_)
  · have hf := it_n c3 hf
    refine lv_iload_n hx hb dX3_addParcel_12 rfl (lv_at hl 1 rfl) ?_
    refine lv_iconst (v := 1) hx hb dX3_addParcel_13 (by decide) ?_
    refine lv_bipush (v := 20) hx hb dX3_addParcel_14 (by decide) ?_
    obtain ⟨r5, h4, hf⟩ := bd_x hf
    refine g_callR (st1 := [.int r5]) (cells' := 0) (slots' := 0) M (g_invSN (index := 76) (host := "ParcelDepot") S M C0 hl (c_X12_isWithin l G H.size lo dd σ a1 1 20  h4) k_X12_isWithin tw_2_77 (by decide +kernel) rfl rfl rfl rfl dX3_addParcel_16) rfl rfl rfl (fun H locs M => ?_)
    refine lv_if_eq (tgt := 31) hx hb dX3_addParcel_19 (by decide) (fun c6 => ?_) (fun c6 => ?_)
    · have hf := it_p c6 hf
      refine lv_bipush (v := (-3)) hx hb dX3_addParcel_31 (by decide) ?_
      cases hf
      exact g_iret S M hr hlk (by decide) (by decide) dX3_addParcel_33 rfl
    · have hf := it_n c6 hf
      refine lv_iload_n hx hb dX3_addParcel_22 rfl (lv_at hl 2 rfl) ?_
      refine lv_iconst (v := 0) hx hb dX3_addParcel_23 (by decide) ?_
      refine lv_iconst (v := 3) hx hb dX3_addParcel_24 (by decide) ?_
      obtain ⟨r8, h7, hf⟩ := bd_x hf
      refine g_callR (st1 := [.int r8]) (cells' := 0) (slots' := 0) M (g_invSN (index := 76) (host := "ParcelDepot") S M C0 hl (c_X12_isWithin l G H.size lo dd σ a2 0 3  h7) k_X12_isWithin tw_2_77 (by decide +kernel) rfl rfl rfl rfl dX3_addParcel_25) rfl rfl rfl (fun H locs M => ?_)
      refine lv_if_ne (tgt := 34) hx hb dX3_addParcel_28 (by decide) (fun c9 => ?_) (fun c9 => ?_)
      · have hf := it_n c9 hf
        refine lv_aload_n hx hb dX3_addParcel_34 rfl (lv_at hl 0 rfl) ?_
        refine gf_X3_1 (i := 1) S M (by decide) rfl tw_1_135 dX3_addParcel_35 ?_
        obtain ⟨r11, h10, hf⟩ := bd_x hf
        refine g_callR (st1 := [.int r11]) (cells' := 0) (slots' := 0) M (g_invV (index := 87) S M C0 hl (c_X8_isFull l G H.size lo dd σ   h10) k_X8_isFull tw_2_80 tw_2_81 tw_2_79 (by decide) (ge_3 rfl) rfl rfl rfl rfl rfl rfl dX3_addParcel_38) rfl rfl rfl (fun H locs M => ?_)
        refine lv_if_eq (tgt := 49) hx hb dX3_addParcel_41 (by decide) (fun c12 => ?_) (fun c12 => ?_)
        · have hf := it_p c12 hf
          refine lv_aload_n hx hb dX3_addParcel_49 rfl (lv_at hl 0 rfl) ?_
          refine gf_X3_1 (i := 1) S M (by decide) rfl tw_1_135 dX3_addParcel_50 ?_
          refine lv_iload_n hx hb dX3_addParcel_53 rfl (lv_at hl 1 rfl) ?_
          refine lv_iload_n hx hb dX3_addParcel_54 rfl (lv_at hl 2 rfl) ?_
          refine lv_iload_n hx hb dX3_addParcel_55 rfl (lv_at hl 3 rfl) ?_
          obtain ⟨r14, σ15, h13, hf⟩ := bd2_x hf
          refine g_callR (st1 := [.int r14]) (cells' := 0) (slots' := 0) M (g_invV (index := 91) S M C0 hl (c_X8_add l G H.size lo dd σ a1 a2 a3  h13) k_X8_add tw_2_84 tw_2_85 tw_2_83 (by decide) (ge_3 rfl) rfl rfl rfl rfl rfl rfl dX3_addParcel_56) rfl rfl rfl (fun H locs M => ?_)
          cases hf
          exact g_iret S M hr hlk (by decide) (by decide) dX3_addParcel_59 rfl
        · have hf := it_n c12 hf
          refine lv_bipush (v := (-4)) hx hb dX3_addParcel_44 (by decide) ?_
          refine lv_goto (tgt := 59) hx hb dX3_addParcel_46 (by decide) ?_
          cases hf
          exact g_iret S M hr hlk (by decide) (by decide) dX3_addParcel_59 rfl
      · have hf := it_p c9 hf
        refine lv_bipush (v := (-3)) hx hb dX3_addParcel_31 (by decide) ?_
        cases hf
        exact g_iret S M hr hlk (by decide) (by decide) dX3_addParcel_33 rfl
  · have hf := it_p c3 hf
    refine lv_bipush (v := (-2)) hx hb dX3_addParcel_9 (by decide) ?_
    cases hf
    exact g_iret S M hr hlk (by decide) (by decide) dX3_addParcel_11 rfl
theorem k_X12_acceptParcel : gMV yX12_acceptParcel cX12_acceptParcel 4 (some .int) 3 := ⟨tw_2_38, tw_1_1, by decide⟩
set_option maxHeartbeats 400000 in
set_option maxRecDepth 100000 in
theorem c_X12_acceptParcel (l : Launch) (hfl : l.stackTraces = false) (G : gT) (sz : Nat) (lo : Int64) (dd : UInt64) (σ : gM) (a1 : Int32) (a2 : Int32) (a3 : Int32) {o : (Int32 × gM) ⊕ (Nat × gM)} (hf : f_X12_acceptParcel σ a1 a2 a3 = some o) : gCT l yX12_acceptParcel cX12_acceptParcel 4 (some .int) { frames := 9, cells := 1, slots := 6, locals := 145 } 1 6 G sz [.ref (G.1 0), .int a1, .int a2, .int a3] lo dd σ (got2 mkI o lo dd) := by
  refine gCT_of (by decide) (Nat.le_of_ble_eq_true rfl) (fun p e s m args below meth c ls S hr hlk hnx hsz C0 hl H locs M => ?_)
  subst hsz
  have hx := S.1
  have hb := S.2.1
  unfold f_X12_acceptParcel at hf
  refine lv_aload_n hx hb dX12_acceptParcel_0 rfl (lv_at hl 0 rfl) ?_
  refine gf_X12_2 (i := 0) S M (by decide) rfl tw_2_9 dX12_acceptParcel_1 ?_
  refine lv_aload_n hx hb dX12_acceptParcel_4 rfl (lv_at hl 0 rfl) ?_
  refine gf_X12_0 (i := 0) S M (by decide) rfl tw_2_7 dX12_acceptParcel_5 ?_
  obtain ⟨σ2, h1, hf⟩ := bd_x hf
  refine g_callR (st1 := []) (cells' := 0) (slots' := 0) M (g_invV (index := 58) S M C0 hl (c_X7_prepare l G H.size lo dd σ   h1) k_X7_prepare tw_2_40 tw_2_41 tw_2_39 (by decide) (ge_6 rfl) rfl rfl rfl rfl rfl rfl dX12_acceptParcel_8) rfl rfl rfl (fun H locs M => ?_)
  refine lv_aload_n hx hb dX12_acceptParcel_11 rfl (lv_at hl 0 rfl) ?_
  refine lv_aload_n hx hb dX12_acceptParcel_12 rfl (lv_at hl 0 rfl) ?_
  refine gf_X12_0 (i := 0) S M (by decide) rfl tw_2_7 dX12_acceptParcel_13 ?_
  refine lv_iload_n hx hb dX12_acceptParcel_16 rfl (lv_at hl 1 rfl) ?_
  refine lv_iload_n hx hb dX12_acceptParcel_17 rfl (lv_at hl 2 rfl) ?_
  refine lv_iload_n hx hb dX12_acceptParcel_18 rfl (lv_at hl 3 rfl) ?_
  obtain ⟨r4, σ5, h3, hf⟩ := bd2_x hf
  refine g_callR (st1 := [.int r4, .ref (G.1 0)]) (cells' := 0) (slots' := 0) M (g_invV (index := 70) S M C0 hl (c_X3_addParcel l G H.size lo dd σ2 a1 a2 a3  h3) k_X3_addParcel tw_2_70 tw_2_71 tw_2_69 (by decide) (ge_1 rfl) rfl rfl rfl rfl rfl rfl dX12_acceptParcel_19) rfl rfl rfl (fun H locs M => ?_)
  rcases bt2_x hf with ⟨r7, σ8, h6, hf⟩ | ⟨n9, σ8, h6, hf⟩
  · refine g_callR (st1 := [.int r7]) (cells' := 1) (slots' := 6) M (g_invV (index := 66) S M C0 hl (c_X12_recorded l hfl G H.size lo dd σ5 r4  h6) k_X12_recorded tw_2_89 tw_0_0 tw_2_87 (by decide) (ge_0 rfl) rfl rfl rfl rfl rfl rfl dX12_acceptParcel_22) rfl rfl rfl (fun H locs M => ?_)
    cases hf
    exact g_iret S M hr hlk (by decide) (by decide) dX12_acceptParcel_25 rfl
  · cases hf
    refine g_runX (cells' := 1) (slots' := 6) M (g_invV (index := 66) S M C0 hl (c_X12_recorded l hfl G H.size lo dd σ5 r4  h6) k_X12_recorded tw_2_89 tw_0_0 tw_2_87 (by decide) (ge_0 rfl) rfl rfl rfl rfl rfl rfl dX12_acceptParcel_22) rfl rfl (fun ce q H locs M hq hv hcl => ?_)
    exact g_out M hnx hlk hq hv hcl (by decide) (by decide) rfl
theorem k_X6_isFull : gMV yX6_isFull cX6_isFull 1 (some .boolean) 0 := ⟨tw_5_58, tw_1_5, by decide⟩
set_option maxHeartbeats 400000 in
set_option maxRecDepth 100000 in
theorem c_X6_isFull (l : Launch) (G : gT) (sz : Nat) (lo : Int64) (dd : UInt64) (σ : gM) {o : Int32} (hf : f_X6_isFull σ = some o) : gCT l yX6_isFull cX6_isFull 1 (some .boolean) { frames := 0, cells := 0, slots := 0, locals := 0 } 0 0 G sz [.ref (G.1 13)] lo dd σ (.inl (mkI o, σ, lo, dd)) := by
  refine gCT_of (by decide) (Nat.le_of_ble_eq_true rfl) (fun p e s m args below meth c ls S hr hlk hnx hsz C0 hl H locs M => ?_)
  subst hsz
  have hx := S.1
  have hb := S.2.1
  unfold f_X6_isFull at hf
  refine lv_aload_n hx hb dX6_isFull_0 rfl (lv_at hl 0 rfl) ?_
  refine gf_X6_2 (i := 13) S M (by decide) rfl tw_1_106 dX6_isFull_1 ?_
  refine lv_bipush (v := 8) hx hb dX6_isFull_4 (by decide) ?_
  refine lv_icmp_lt (tgt := 13) hx hb dX6_isFull_6 (by decide) (fun c1 => ?_) (fun c1 => ?_)
  · have hf := it_p c1 hf
    refine lv_iconst (v := 0) hx hb dX6_isFull_13 (by decide) ?_
    cases hf
    exact g_zret S M hr hlk (by decide) (by decide) (by decide) dX6_isFull_14 rfl
  · have hf := it_n c1 hf
    refine lv_iconst (v := 1) hx hb dX6_isFull_9 (by decide) ?_
    refine lv_goto (tgt := 14) hx hb dX6_isFull_10 (by decide) ?_
    cases hf
    exact g_zret S M hr hlk (by decide) (by decide) (by decide) dX6_isFull_14 rfl
theorem k_X6_add : gMV yX6_add cX6_add 3 (some .int) 1 := ⟨tw_5_62, tw_1_5, by decide⟩
set_option maxHeartbeats 400000 in
set_option maxRecDepth 100000 in
theorem c_X6_add (l : Launch) (G : gT) (sz : Nat) (lo : Int64) (dd : UInt64) (σ : gM) (a1 : Int32) {r : Int32} {o : gM} (hf : f_X6_add σ a1 = some (r, o)) : gCT l yX6_add cX6_add 3 (some .int) { frames := 0, cells := 0, slots := 0, locals := 0 } 0 0 G sz [.ref (G.1 13), .int a1] lo dd σ (.inl (mkI r, o, lo, dd)) := by
  refine gCT_of (by decide) (Nat.le_of_ble_eq_true rfl) (fun p e s m args below meth c ls S hr hlk hnx hsz C0 hl H locs M => ?_)
  subst hsz
  have hx := S.1
  have hb := S.2.1
  unfold f_X6_add at hf
  refine lv_aload_n hx hb dX6_add_0 rfl (lv_at hl 0 rfl) ?_
  refine gf_X6_2 (i := 13) S M (by decide) rfl tw_1_106 dX6_add_1 ?_
  obtain ⟨x1, ex1, hf⟩ := nm_x hf
  refine g_topi ex1 ?_
  refine lv_istore_n (lv' := [(2, .int x1), (0, .ref (G.1 13)), (1, .int a1)]) hx hb dX6_add_4 rfl hl (by decide) rfl (fun ls hl => ?_)
  refine lv_aload_n hx hb dX6_add_5 rfl (lv_at hl 1 rfl) ?_
  refine gf_X6_0 (i := 13) S M (by decide) rfl tw_1_104 dX6_add_6 ?_
  refine lv_iload_n hx hb dX6_add_9 rfl (lv_at hl 0 rfl) ?_
  refine lv_iload_n hx hb dX6_add_10 rfl (lv_at hl 2 rfl) ?_
  obtain ⟨h2, hf⟩ := gi_x hf
  obtain ⟨σ3, eσ3, hf⟩ := nm_x hf
  refine gk_iast (i := 14) (k := x1.toNatClampNeg) S M (by decide) (fun _ => (gaa_8 rfl)) h2 rfl dX6_add_11 (fun H locs M => ?_)
  rw [← eσ3] at M
  refine lv_aload_n hx hb dX6_add_12 rfl (lv_at hl 1 rfl) ?_
  refine gf_X6_1 (i := 13) S M (by decide) rfl tw_1_105 dX6_add_13 ?_
  refine lv_iload_n hx hb dX6_add_16 rfl (lv_at hl 0 rfl) ?_
  refine lv_iconst (v := 3) hx hb dX6_add_17 (by decide) ?_
  obtain ⟨h4, hf⟩ := gi_x hf
  obtain ⟨σ5, eσ5, hf⟩ := nm_x hf
  refine gk_iast (i := 15) (k := x1.toNatClampNeg) S M (by decide) (fun _ => (gaa_8 rfl)) h4 rfl dX6_add_18 (fun H locs M => ?_)
  rw [← eσ5] at M
  refine lv_aload_n hx hb dX6_add_19 rfl (lv_at hl 1 rfl) ?_
  refine lv_dup hx hb dX6_add_20 rfl ?_
  refine gf_X6_2 (i := 13) S M (by decide) rfl tw_1_106 dX6_add_21 ?_
  refine lv_iconst (v := 1) hx hb dX6_add_24 (by decide) ?_
  refine lv_iadd hx hb dX6_add_25 ?_
  obtain ⟨σ6, eσ6, hf⟩ := nm_x hf
  refine gp_X6_2 (i := 13) S M (by decide) rfl tw_1_106 dX6_add_26 (fun H locs M => ?_)
  rw [← eσ6] at M
  refine lv_iload_n hx hb dX6_add_29 rfl (lv_at hl 0 rfl) ?_
  cases hf
  exact g_iret S M hr hlk (by decide) (by decide) dX6_add_30 rfl
theorem k_X3_addGlove : gMV yX3_addGlove cX3_addGlove 2 (some .int) 1 := ⟨tw_5_54, tw_1_2, by decide⟩
set_option maxHeartbeats 400000 in
set_option maxRecDepth 100000 in
theorem c_X3_addGlove (l : Launch) (G : gT) (sz : Nat) (lo : Int64) (dd : UInt64) (σ : gM) (a1 : Int32) {r : Int32} {o : gM} (hf : f_X3_addGlove σ a1 = some (r, o)) : gCT l yX3_addGlove cX3_addGlove 2 (some .int) { frames := 1, cells := 0, slots := 0, locals := 22 } 0 0 G sz [.ref (G.1 1), .int a1] lo dd σ (.inl (mkI r, o, lo, dd)) := by
  refine gCT_of (by decide) (Nat.le_of_ble_eq_true rfl) (fun p e s m args below meth c ls S hr hlk hnx hsz C0 hl H locs M => ?_)
  subst hsz
  have hx := S.1
  have hb := S.2.1
  unfold f_X3_addGlove at hf
  refine lv_iload_n hx hb dX3_addGlove_0 rfl (lv_at hl 1 rfl) ?_
  refine lv_iconst (v := 1) hx hb dX3_addGlove_1 (by decide) ?_
  refine lv_iconst (v := 3) hx hb dX3_addGlove_2 (by decide) ?_
  obtain ⟨r2, h1, hf⟩ := bd_x hf
  refine g_callR (st1 := [.int r2]) (cells' := 0) (slots' := 0) M (g_invSN (index := 76) (host := "ParcelDepot") S M C0 hl (c_X12_isWithin l G H.size lo dd σ a1 1 3  h1) k_X12_isWithin tw_2_77 (by decide +kernel) rfl rfl rfl rfl dX3_addGlove_3) rfl rfl rfl (fun H locs M => ?_)
  refine lv_if_ne (tgt := 12) hx hb dX3_addGlove_6 (by decide) (fun c3 => ?_) (fun c3 => ?_)
  · have hf := it_n c3 hf
    refine lv_aload_n hx hb dX3_addGlove_12 rfl (lv_at hl 0 rfl) ?_
    refine gf_X3_2 (i := 1) S M (by decide) rfl tw_1_139 dX3_addGlove_13 ?_
    obtain ⟨r5, h4, hf⟩ := bd_x hf
    refine g_callR (st1 := [.int r5]) (cells' := 0) (slots' := 0) M (g_invV (index := 94) S M C0 hl (c_X6_isFull l G H.size lo dd σ   h4) k_X6_isFull tw_5_56 tw_5_57 tw_5_55 (by decide) (ge_4 rfl) rfl rfl rfl rfl rfl rfl dX3_addGlove_16) rfl rfl rfl (fun H locs M => ?_)
    refine lv_if_eq (tgt := 27) hx hb dX3_addGlove_19 (by decide) (fun c6 => ?_) (fun c6 => ?_)
    · have hf := it_p c6 hf
      refine lv_aload_n hx hb dX3_addGlove_27 rfl (lv_at hl 0 rfl) ?_
      refine gf_X3_2 (i := 1) S M (by decide) rfl tw_1_139 dX3_addGlove_28 ?_
      refine lv_iload_n hx hb dX3_addGlove_31 rfl (lv_at hl 1 rfl) ?_
      obtain ⟨r8, σ9, h7, hf⟩ := bd2_x hf
      refine g_callR (st1 := [.int r8]) (cells' := 0) (slots' := 0) M (g_invV (index := 95) S M C0 hl (c_X6_add l G H.size lo dd σ a1  h7) k_X6_add tw_5_60 tw_5_61 tw_5_59 (by decide) (ge_4 rfl) rfl rfl rfl rfl rfl rfl dX3_addGlove_32) rfl rfl rfl (fun H locs M => ?_)
      cases hf
      exact g_iret S M hr hlk (by decide) (by decide) dX3_addGlove_35 rfl
    · have hf := it_n c6 hf
      refine lv_bipush (v := (-4)) hx hb dX3_addGlove_22 (by decide) ?_
      refine lv_goto (tgt := 35) hx hb dX3_addGlove_24 (by decide) ?_
      cases hf
      exact g_iret S M hr hlk (by decide) (by decide) dX3_addGlove_35 rfl
  · have hf := it_p c3 hf
    refine lv_bipush (v := (-3)) hx hb dX3_addGlove_9 (by decide) ?_
    cases hf
    exact g_iret S M hr hlk (by decide) (by decide) dX3_addGlove_11 rfl
theorem k_X12_buyGlove : gMV yX12_buyGlove cX12_buyGlove 2 (some .int) 1 := ⟨tw_5_186, tw_1_1, by decide⟩
set_option maxHeartbeats 400000 in
set_option maxRecDepth 100000 in
theorem c_X12_buyGlove (l : Launch) (hfl : l.stackTraces = false) (G : gT) (sz : Nat) (lo : Int64) (dd : UInt64) (σ : gM) (a1 : Int32) {o : (Int32 × gM) ⊕ (Nat × gM)} (hf : f_X12_buyGlove σ a1 = some o) : gCT l yX12_buyGlove cX12_buyGlove 2 (some .int) { frames := 9, cells := 1, slots := 6, locals := 145 } 1 6 G sz [.ref (G.1 0), .int a1] lo dd σ (got2 mkI o lo dd) := by
  refine gCT_of (by decide) (Nat.le_of_ble_eq_true rfl) (fun p e s m args below meth c ls S hr hlk hnx hsz C0 hl H locs M => ?_)
  subst hsz
  have hx := S.1
  have hb := S.2.1
  unfold f_X12_buyGlove at hf
  refine lv_aload_n hx hb dX12_buyGlove_0 rfl (lv_at hl 0 rfl) ?_
  refine gf_X12_2 (i := 0) S M (by decide) rfl tw_2_9 dX12_buyGlove_1 ?_
  refine lv_aload_n hx hb dX12_buyGlove_4 rfl (lv_at hl 0 rfl) ?_
  refine gf_X12_0 (i := 0) S M (by decide) rfl tw_2_7 dX12_buyGlove_5 ?_
  obtain ⟨σ2, h1, hf⟩ := bd_x hf
  refine g_callR (st1 := []) (cells' := 0) (slots' := 0) M (g_invV (index := 58) S M C0 hl (c_X7_prepare l G H.size lo dd σ   h1) k_X7_prepare tw_2_40 tw_2_41 tw_2_39 (by decide) (ge_6 rfl) rfl rfl rfl rfl rfl rfl dX12_buyGlove_8) rfl rfl rfl (fun H locs M => ?_)
  refine lv_aload_n hx hb dX12_buyGlove_11 rfl (lv_at hl 0 rfl) ?_
  refine lv_aload_n hx hb dX12_buyGlove_12 rfl (lv_at hl 0 rfl) ?_
  refine gf_X12_0 (i := 0) S M (by decide) rfl tw_2_7 dX12_buyGlove_13 ?_
  refine lv_iload_n hx hb dX12_buyGlove_16 rfl (lv_at hl 1 rfl) ?_
  obtain ⟨r4, σ5, h3, hf⟩ := bd2_x hf
  refine g_callR (st1 := [.int r4, .ref (G.1 0)]) (cells' := 0) (slots' := 0) M (g_invV (index := 73) S M C0 hl (c_X3_addGlove l G H.size lo dd σ2 a1  h3) k_X3_addGlove tw_5_52 tw_5_53 tw_5_51 (by decide) (ge_1 rfl) rfl rfl rfl rfl rfl rfl dX12_buyGlove_17) rfl rfl rfl (fun H locs M => ?_)
  rcases bt2_x hf with ⟨r7, σ8, h6, hf⟩ | ⟨n9, σ8, h6, hf⟩
  · refine g_callR (st1 := [.int r7]) (cells' := 1) (slots' := 6) M (g_invV (index := 66) S M C0 hl (c_X12_recorded l hfl G H.size lo dd σ5 r4  h6) k_X12_recorded tw_2_89 tw_0_0 tw_2_87 (by decide) (ge_0 rfl) rfl rfl rfl rfl rfl rfl dX12_buyGlove_20) rfl rfl rfl (fun H locs M => ?_)
    cases hf
    exact g_iret S M hr hlk (by decide) (by decide) dX12_buyGlove_23 rfl
  · cases hf
    refine g_runX (cells' := 1) (slots' := 6) M (g_invV (index := 66) S M C0 hl (c_X12_recorded l hfl G H.size lo dd σ5 r4  h6) k_X12_recorded tw_2_89 tw_0_0 tw_2_87 (by decide) (ge_0 rfl) rfl rfl rfl rfl rfl rfl dX12_buyGlove_20) rfl rfl (fun ce q H locs M hq hv hcl => ?_)
    exact g_out M hnx hlk hq hv hcl (by decide) (by decide) rfl
theorem k_X8_weightAt : gMV yX8_weightAt cX8_weightAt 4 (some .int) 1 := ⟨tw_3_8, tw_1_4, by decide⟩
set_option maxHeartbeats 400000 in
set_option maxRecDepth 100000 in
theorem w_X8_weightAt_L4 {p : Program} {l : Launch} {e : Env} {s : State} {m : MethodId} {args : Array Value} {below : List Frame} {meth : Method} {c : Code} {Q : State → Prop} {G : gT} {lo : Int64} {dd : UInt64} (S : CallFix p m c cX8_weightAt 4 s args gTs RX8) (C0 : gCST G (gAA G s.heap.size) s) (p1 : Int32) (σ : gM) : ∀ (n : Nat) (v2 : Int32) (v3 : Int32) (res : Int32), f_X8_weightAt_L4 p1 σ n v2 v3 = some res → ∀ (H : Heap) (locs : List Loc) (ls : Array Slot), gMS G (gAA G s.heap.size) lo dd σ s H locs → lv_has ls 4 [(0, .ref (G.1 7)), (1, .int p1), (2, .int v2), (3, .int v3)] → (k37 : ∀ (u2 : Int32), res = u2 → ∀ (H : Heap) (locs : List Loc) (ls : Array Slot), gMS G (gAA G s.heap.size) lo dd σ s H locs → lv_has ls 4 [(2, .int u2)] → W p l e ({ frames := 0, cells := 0, slots := 0, locals := 0 } : Room) s m args below meth c H locs 0 0 Q (F0 m 37 ls [])) → W p l e ({ frames := 0, cells := 0, slots := 0, locals := 0 } : Room) s m args below meth c H locs 0 0 Q (F0 m 4 ls []) := by
  have hx := S.1
  have hb := S.2.1
  intro n
  induction n with
  | zero =>
    intro v2 v3 res hf
    cases hf
  | succ n ih =>
    intro v2 v3 res hf H locs ls M hl k37
    rw [f_X8_weightAt_L4] at hf
    refine lv_iload_n hx hb dX8_weightAt_4 rfl (lv_at hl 3 rfl) ?_
    refine lv_aload_n hx hb dX8_weightAt_5 rfl (lv_at hl 0 rfl) ?_
    refine gf_X8_5 (i := 7) S M (by decide) rfl tw_1_84 dX8_weightAt_6 ?_
    refine lv_icmp_ge (tgt := 37) hx hb dX8_weightAt_9 (by decide) (fun c1 => ?_) (fun c1 => ?_)
    · have hf := it_p c1 hf
      cases hf
      exact k37 _ rfl _ _ _ M (lv_sub hl [2] rfl)
    · have hf := it_n c1 hf
      refine lv_aload_n hx hb dX8_weightAt_12 rfl (lv_at hl 0 rfl) ?_
      refine gf_X8_3 (i := 7) S M (by decide) rfl tw_1_82 dX8_weightAt_13 ?_
      refine lv_iload_n hx hb dX8_weightAt_16 rfl (lv_at hl 3 rfl) ?_
      obtain ⟨h2, hf⟩ := gi_x hf
      refine gk_iald (i := 11) (k := v3.toNatClampNeg) S M (by decide) (gaa_12 rfl) h2 rfl dX8_weightAt_17 ?_
      refine lv_iload_n hx hb dX8_weightAt_18 rfl (lv_at hl 1 rfl) ?_
      refine lv_icmp_ne (tgt := 31) hx hb dX8_weightAt_19 (by decide) (fun c3 => ?_) (fun c3 => ?_)
      · have hf := it_n c3 hf
        obtain ⟨x4, ex4, hf⟩ := nm_x hf
        refine lv_iinc (v := x4) (lv' := [(3, .int x4), (0, .ref (G.1 7)), (1, .int p1), (2, .int v2)]) hx hb dX8_weightAt_31 hl (k := 3) rfl (by rw [ex4]; rfl) (by decide) rfl (fun ls hl => ?_)
        refine lv_goto (tgt := 4) hx hb dX8_weightAt_34 (by decide) ?_
        exact ih _ _ _ hf _ _ _ M (lv_sub hl [1, 2, 3, 0] rfl) k37
      · have hf := it_p c3 hf
        refine lv_iload_n hx hb dX8_weightAt_22 rfl (lv_at hl 2 rfl) ?_
        refine lv_aload_n hx hb dX8_weightAt_23 rfl (lv_at hl 0 rfl) ?_
        refine gf_X8_0 (i := 7) S M (by decide) rfl tw_1_79 dX8_weightAt_24 ?_
        refine lv_iload_n hx hb dX8_weightAt_27 rfl (lv_at hl 3 rfl) ?_
        obtain ⟨h5, hf⟩ := gi_x hf
        refine gk_iald (i := 8) (k := v3.toNatClampNeg) S M (by decide) (gaa_12 rfl) h5 rfl dX8_weightAt_28 ?_
        refine lv_iadd hx hb dX8_weightAt_29 ?_
        obtain ⟨x6, ex6, hf⟩ := nm_x hf
        refine g_topi ex6 ?_
        refine lv_istore_n (lv' := [(2, .int x6), (0, .ref (G.1 7)), (1, .int p1), (3, .int v3)]) hx hb dX8_weightAt_30 rfl hl (by decide) rfl (fun ls hl => ?_)
        obtain ⟨x7, ex7, hf⟩ := nm_x hf
        refine lv_iinc (v := x7) (lv' := [(3, .int x7), (2, .int x6), (0, .ref (G.1 7)), (1, .int p1)]) hx hb dX8_weightAt_31 hl (k := 3) rfl (by rw [ex7]; rfl) (by decide) rfl (fun ls hl => ?_)
        refine lv_goto (tgt := 4) hx hb dX8_weightAt_34 (by decide) ?_
        exact ih _ _ _ hf _ _ _ M (lv_sub hl [2, 3, 1, 0] rfl) k37
set_option maxHeartbeats 400000 in
set_option maxRecDepth 100000 in
theorem c_X8_weightAt (l : Launch) (G : gT) (sz : Nat) (lo : Int64) (dd : UInt64) (σ : gM) (a1 : Int32) {o : Int32} (hf : f_X8_weightAt σ a1 = some o) : gCT l yX8_weightAt cX8_weightAt 4 (some .int) { frames := 0, cells := 0, slots := 0, locals := 0 } 0 0 G sz [.ref (G.1 7), .int a1] lo dd σ (.inl (mkI o, σ, lo, dd)) := by
  refine gCT_of (by decide) (Nat.le_of_ble_eq_true rfl) (fun p e s m args below meth c ls S hr hlk hnx hsz C0 hl H locs M => ?_)
  subst hsz
  have hx := S.1
  have hb := S.2.1
  unfold f_X8_weightAt at hf
  refine lv_iconst (v := 0) hx hb dX8_weightAt_0 (by decide) ?_
  refine lv_istore_n (lv' := [(2, .int 0), (0, .ref (G.1 7)), (1, .int a1)]) hx hb dX8_weightAt_1 rfl hl (by decide) rfl (fun ls hl => ?_)
  refine lv_iconst (v := 0) hx hb dX8_weightAt_2 (by decide) ?_
  refine lv_istore_n (lv' := [(3, .int 0), (2, .int 0), (0, .ref (G.1 7)), (1, .int a1)]) hx hb dX8_weightAt_3 rfl hl (by decide) rfl (fun ls hl => ?_)
  obtain ⟨y9, h8, hf⟩ := bd_x hf
  refine w_X8_weightAt_L4 S C0 a1 σ gFU 0 0 _ h8 _ _ _ M (lv_sub hl [2, 3, 1, 0] rfl) (fun _ eq H locs ls M hl => ?_)
  cases eq
  refine lv_iload_n hx hb dX8_weightAt_37 rfl (lv_at hl 0 rfl) ?_
  cases hf
  exact g_iret S M hr hlk (by decide) (by decide) dX8_weightAt_38 rfl
theorem k_X11_resize : gMV yX11_resize cX11_resize 4 (some .int) 2 := ⟨tw_3_12, tw_1_6, by decide⟩
set_option maxHeartbeats 400000 in
set_option maxRecDepth 100000 in
theorem c_X11_resize (l : Launch) (G : gT) (sz : Nat) (lo : Int64) (dd : UInt64) (σ : gM) (a1 : Int32) (a2 : Int32) {r : Int32} {o : gM} (hf : f_X11_resize σ a1 a2 = some (r, o)) : gCT l yX11_resize cX11_resize 4 (some .int) { frames := 0, cells := 0, slots := 0, locals := 0 } 0 0 G sz [.ref (G.1 16), .int a1, .int a2] lo dd σ (.inl (mkI r, o, lo, dd)) := by
  refine gCT_of (by decide) (Nat.le_of_ble_eq_true rfl) (fun p e s m args below meth c ls S hr hlk hnx hsz C0 hl H locs M => ?_)
  subst hsz
  have hx := S.1
  have hb := S.2.1
  unfold f_X11_resize at hf
  refine lv_aload_n hx hb dX11_resize_0 rfl (lv_at hl 0 rfl) ?_
  refine gf_X11_1 (i := 16) S M (by decide) rfl tw_1_124 dX11_resize_1 ?_
  refine lv_iload_n hx hb dX11_resize_4 rfl (lv_at hl 1 rfl) ?_
  obtain ⟨h1, hf⟩ := gi_x hf
  refine gk_iald (i := 18) (k := a1.toNatClampNeg) S M (by decide) (gaa_3 rfl) h1 rfl dX11_resize_5 ?_
  obtain ⟨x2, ex2, hf⟩ := nm_x hf
  refine g_topi ex2 ?_
  refine lv_istore_n (lv' := [(3, .int x2), (0, .ref (G.1 16)), (1, .int a1), (2, .int a2)]) hx hb dX11_resize_6 rfl hl (by decide) rfl (fun ls hl => ?_)
  refine lv_aload_n hx hb dX11_resize_7 rfl (lv_at hl 1 rfl) ?_
  refine gf_X11_1 (i := 16) S M (by decide) rfl tw_1_124 dX11_resize_8 ?_
  refine lv_iload_n hx hb dX11_resize_11 rfl (lv_at hl 2 rfl) ?_
  refine lv_iload_n hx hb dX11_resize_12 rfl (lv_at hl 3 rfl) ?_
  obtain ⟨h3, hf⟩ := gi_x hf
  obtain ⟨σ4, eσ4, hf⟩ := nm_x hf
  refine gk_iast (i := 18) (k := a1.toNatClampNeg) S M (by decide) (fun _ => (gaa_3 rfl)) h3 rfl dX11_resize_13 (fun H locs M => ?_)
  rw [← eσ4] at M
  refine lv_iload_n hx hb dX11_resize_14 rfl (lv_at hl 0 rfl) ?_
  cases hf
  exact g_iret S M hr hlk (by decide) (by decide) dX11_resize_15 rfl
theorem k_X3_changeCapacity : gMV yX3_changeCapacity cX3_changeCapacity 3 (some .int) 2 := ⟨tw_3_4, tw_1_2, by decide⟩
set_option maxHeartbeats 400000 in
set_option maxRecDepth 100000 in
theorem c_X3_changeCapacity (l : Launch) (G : gT) (sz : Nat) (lo : Int64) (dd : UInt64) (σ : gM) (a1 : Int32) (a2 : Int32) {r : Int32} {o : gM} (hf : f_X3_changeCapacity σ a1 a2 = some (r, o)) : gCT l yX3_changeCapacity cX3_changeCapacity 3 (some .int) { frames := 1, cells := 0, slots := 0, locals := 23 } 0 0 G sz [.ref (G.1 1), .int a1, .int a2] lo dd σ (.inl (mkI r, o, lo, dd)) := by
  refine gCT_of (by decide) (Nat.le_of_ble_eq_true rfl) (fun p e s m args below meth c ls S hr hlk hnx hsz C0 hl H locs M => ?_)
  subst hsz
  have hx := S.1
  have hb := S.2.1
  unfold f_X3_changeCapacity at hf
  refine lv_iload_n hx hb dX3_changeCapacity_0 rfl (lv_at hl 1 rfl) ?_
  refine lv_iconst (v := 3) hx hb dX3_changeCapacity_1 (by decide) ?_
  obtain ⟨r2, h1, hf⟩ := bd_x hf
  refine g_callR (st1 := [.int r2]) (cells' := 0) (slots' := 0) M (g_invSN (index := 72) (host := "ParcelDepot") S M C0 hl (c_X12_isIndex l G H.size lo dd σ a1 3  h1) k_X12_isIndex tw_2_74 (by decide +kernel) rfl rfl rfl rfl dX3_changeCapacity_2) rfl rfl rfl (fun H locs M => ?_)
  refine lv_if_ne (tgt := 11) hx hb dX3_changeCapacity_5 (by decide) (fun c3 => ?_) (fun c3 => ?_)
  · have hf := it_n c3 hf
    refine lv_iload_n hx hb dX3_changeCapacity_11 rfl (lv_at hl 2 rfl) ?_
    refine lv_iconst (v := 1) hx hb dX3_changeCapacity_12 (by decide) ?_
    refine lv_bipush (v := 60) hx hb dX3_changeCapacity_13 (by decide) ?_
    obtain ⟨r5, h4, hf⟩ := bd_x hf
    refine g_callR (st1 := [.int r5]) (cells' := 0) (slots' := 0) M (g_invSN (index := 76) (host := "ParcelDepot") S M C0 hl (c_X12_isWithin l G H.size lo dd σ a2 1 60  h4) k_X12_isWithin tw_2_77 (by decide +kernel) rfl rfl rfl rfl dX3_changeCapacity_15) rfl rfl rfl (fun H locs M => ?_)
    refine lv_if_ne (tgt := 24) hx hb dX3_changeCapacity_18 (by decide) (fun c6 => ?_) (fun c6 => ?_)
    · have hf := it_n c6 hf
      refine lv_aload_n hx hb dX3_changeCapacity_24 rfl (lv_at hl 0 rfl) ?_
      refine gf_X3_1 (i := 1) S M (by decide) rfl tw_1_135 dX3_changeCapacity_25 ?_
      refine lv_iload_n hx hb dX3_changeCapacity_28 rfl (lv_at hl 1 rfl) ?_
      obtain ⟨r8, h7, hf⟩ := bd_x hf
      refine g_callR (st1 := [.int r8]) (cells' := 0) (slots' := 0) M (g_invV (index := 62) S M C0 hl (c_X8_weightAt l G H.size lo dd σ a1  h7) k_X8_weightAt tw_3_6 tw_3_7 tw_3_5 (by decide) (ge_3 rfl) rfl rfl rfl rfl rfl rfl dX3_changeCapacity_29) rfl rfl rfl (fun H locs M => ?_)
      refine lv_iload_n hx hb dX3_changeCapacity_32 rfl (lv_at hl 2 rfl) ?_
      refine lv_icmp_le (tgt := 41) hx hb dX3_changeCapacity_33 (by decide) (fun c9 => ?_) (fun c9 => ?_)
      · have hf := it_p c9 hf
        refine lv_aload_n hx hb dX3_changeCapacity_41 rfl (lv_at hl 0 rfl) ?_
        refine gf_X3_3 (i := 1) S M (by decide) rfl tw_1_142 dX3_changeCapacity_42 ?_
        refine lv_iload_n hx hb dX3_changeCapacity_45 rfl (lv_at hl 1 rfl) ?_
        refine lv_iload_n hx hb dX3_changeCapacity_46 rfl (lv_at hl 2 rfl) ?_
        obtain ⟨r11, σ12, h10, hf⟩ := bd2_x hf
        refine g_callR (st1 := [.int r11]) (cells' := 0) (slots' := 0) M (g_invV (index := 97) S M C0 hl (c_X11_resize l G H.size lo dd σ a1 a2  h10) k_X11_resize tw_3_10 tw_3_11 tw_3_9 (by decide) (ge_5 rfl) rfl rfl rfl rfl rfl rfl dX3_changeCapacity_47) rfl rfl rfl (fun H locs M => ?_)
        cases hf
        exact g_iret S M hr hlk (by decide) (by decide) dX3_changeCapacity_50 rfl
      · have hf := it_n c9 hf
        refine lv_bipush (v := (-4)) hx hb dX3_changeCapacity_36 (by decide) ?_
        refine lv_goto (tgt := 50) hx hb dX3_changeCapacity_38 (by decide) ?_
        cases hf
        exact g_iret S M hr hlk (by decide) (by decide) dX3_changeCapacity_50 rfl
    · have hf := it_p c6 hf
      refine lv_bipush (v := (-3)) hx hb dX3_changeCapacity_21 (by decide) ?_
      cases hf
      exact g_iret S M hr hlk (by decide) (by decide) dX3_changeCapacity_23 rfl
  · have hf := it_p c3 hf
    refine lv_bipush (v := (-2)) hx hb dX3_changeCapacity_8 (by decide) ?_
    cases hf
    exact g_iret S M hr hlk (by decide) (by decide) dX3_changeCapacity_10 rfl
theorem k_X12_setCapacity : gMV yX12_setCapacity cX12_setCapacity 3 (some .int) 2 := ⟨tw_3_0, tw_1_1, by decide⟩
set_option maxHeartbeats 400000 in
set_option maxRecDepth 100000 in
theorem c_X12_setCapacity (l : Launch) (hfl : l.stackTraces = false) (G : gT) (sz : Nat) (lo : Int64) (dd : UInt64) (σ : gM) (a1 : Int32) (a2 : Int32) {o : (Int32 × gM) ⊕ (Nat × gM)} (hf : f_X12_setCapacity σ a1 a2 = some o) : gCT l yX12_setCapacity cX12_setCapacity 3 (some .int) { frames := 9, cells := 1, slots := 6, locals := 145 } 1 6 G sz [.ref (G.1 0), .int a1, .int a2] lo dd σ (got2 mkI o lo dd) := by
  refine gCT_of (by decide) (Nat.le_of_ble_eq_true rfl) (fun p e s m args below meth c ls S hr hlk hnx hsz C0 hl H locs M => ?_)
  subst hsz
  have hx := S.1
  have hb := S.2.1
  unfold f_X12_setCapacity at hf
  refine lv_aload_n hx hb dX12_setCapacity_0 rfl (lv_at hl 0 rfl) ?_
  refine gf_X12_2 (i := 0) S M (by decide) rfl tw_2_9 dX12_setCapacity_1 ?_
  refine lv_aload_n hx hb dX12_setCapacity_4 rfl (lv_at hl 0 rfl) ?_
  refine gf_X12_0 (i := 0) S M (by decide) rfl tw_2_7 dX12_setCapacity_5 ?_
  obtain ⟨σ2, h1, hf⟩ := bd_x hf
  refine g_callR (st1 := []) (cells' := 0) (slots' := 0) M (g_invV (index := 58) S M C0 hl (c_X7_prepare l G H.size lo dd σ   h1) k_X7_prepare tw_2_40 tw_2_41 tw_2_39 (by decide) (ge_6 rfl) rfl rfl rfl rfl rfl rfl dX12_setCapacity_8) rfl rfl rfl (fun H locs M => ?_)
  refine lv_aload_n hx hb dX12_setCapacity_11 rfl (lv_at hl 0 rfl) ?_
  refine lv_aload_n hx hb dX12_setCapacity_12 rfl (lv_at hl 0 rfl) ?_
  refine gf_X12_0 (i := 0) S M (by decide) rfl tw_2_7 dX12_setCapacity_13 ?_
  refine lv_iload_n hx hb dX12_setCapacity_16 rfl (lv_at hl 1 rfl) ?_
  refine lv_iload_n hx hb dX12_setCapacity_17 rfl (lv_at hl 2 rfl) ?_
  obtain ⟨r4, σ5, h3, hf⟩ := bd2_x hf
  refine g_callR (st1 := [.int r4, .ref (G.1 0)]) (cells' := 0) (slots' := 0) M (g_invV (index := 76) S M C0 hl (c_X3_changeCapacity l G H.size lo dd σ2 a1 a2  h3) k_X3_changeCapacity tw_3_2 tw_3_3 tw_3_1 (by decide) (ge_1 rfl) rfl rfl rfl rfl rfl rfl dX12_setCapacity_18) rfl rfl rfl (fun H locs M => ?_)
  rcases bt2_x hf with ⟨r7, σ8, h6, hf⟩ | ⟨n9, σ8, h6, hf⟩
  · refine g_callR (st1 := [.int r7]) (cells' := 1) (slots' := 6) M (g_invV (index := 66) S M C0 hl (c_X12_recorded l hfl G H.size lo dd σ5 r4  h6) k_X12_recorded tw_2_89 tw_0_0 tw_2_87 (by decide) (ge_0 rfl) rfl rfl rfl rfl rfl rfl dX12_setCapacity_21) rfl rfl rfl (fun H locs M => ?_)
    cases hf
    exact g_iret S M hr hlk (by decide) (by decide) dX12_setCapacity_24 rfl
  · cases hf
    refine g_runX (cells' := 1) (slots' := 6) M (g_invV (index := 66) S M C0 hl (c_X12_recorded l hfl G H.size lo dd σ5 r4  h6) k_X12_recorded tw_2_89 tw_0_0 tw_2_87 (by decide) (ge_0 rfl) rfl rfl rfl rfl rfl rfl dX12_setCapacity_21) rfl rfl (fun ce q H locs M hq hv hcl => ?_)
    exact g_out M hnx hlk hq hv hcl (by decide) (by decide) rfl
theorem k_X8_size : gMV yX8_size cX8_size 1 (some .int) 0 := ⟨tw_3_24, tw_1_4, by decide⟩
set_option maxHeartbeats 400000 in
set_option maxRecDepth 100000 in
theorem c_X8_size (l : Launch) (G : gT) (sz : Nat) (lo : Int64) (dd : UInt64) (σ : gM) {o : Int32} (hf : f_X8_size σ = some o) : gCT l yX8_size cX8_size 1 (some .int) { frames := 0, cells := 0, slots := 0, locals := 0 } 0 0 G sz [.ref (G.1 7)] lo dd σ (.inl (mkI o, σ, lo, dd)) := by
  refine gCT_of (by decide) (Nat.le_of_ble_eq_true rfl) (fun p e s m args below meth c ls S hr hlk hnx hsz C0 hl H locs M => ?_)
  subst hsz
  have hx := S.1
  have hb := S.2.1
  unfold f_X8_size at hf
  refine lv_aload_n hx hb dX8_size_0 rfl (lv_at hl 0 rfl) ?_
  refine gf_X8_5 (i := 7) S M (by decide) rfl tw_1_84 dX8_size_1 ?_
  cases hf
  exact g_iret S M hr hlk (by decide) (by decide) dX8_size_4 rfl
theorem k_X8_whereIs : gMV yX8_whereIs cX8_whereIs 2 (some .int) 1 := ⟨tw_3_28, tw_1_4, by decide⟩
set_option maxHeartbeats 400000 in
set_option maxRecDepth 100000 in
theorem c_X8_whereIs (l : Launch) (G : gT) (sz : Nat) (lo : Int64) (dd : UInt64) (σ : gM) (a1 : Int32) {o : Int32} (hf : f_X8_whereIs σ a1 = some o) : gCT l yX8_whereIs cX8_whereIs 2 (some .int) { frames := 0, cells := 0, slots := 0, locals := 0 } 0 0 G sz [.ref (G.1 7), .int a1] lo dd σ (.inl (mkI o, σ, lo, dd)) := by
  refine gCT_of (by decide) (Nat.le_of_ble_eq_true rfl) (fun p e s m args below meth c ls S hr hlk hnx hsz C0 hl H locs M => ?_)
  subst hsz
  have hx := S.1
  have hb := S.2.1
  unfold f_X8_whereIs at hf
  refine lv_aload_n hx hb dX8_whereIs_0 rfl (lv_at hl 0 rfl) ?_
  refine gf_X8_3 (i := 7) S M (by decide) rfl tw_1_82 dX8_whereIs_1 ?_
  refine lv_iload_n hx hb dX8_whereIs_4 rfl (lv_at hl 1 rfl) ?_
  obtain ⟨h1, hf⟩ := gi_x hf
  refine gk_iald (i := 11) (k := a1.toNatClampNeg) S M (by decide) (gaa_12 rfl) h1 rfl dX8_whereIs_5 ?_
  cases hf
  exact g_iret S M hr hlk (by decide) (by decide) dX8_whereIs_6 rfl
theorem k_X8_weightOf : gMV yX8_weightOf cX8_weightOf 2 (some .int) 1 := ⟨tw_3_32, tw_1_4, by decide⟩
set_option maxHeartbeats 400000 in
set_option maxRecDepth 100000 in
theorem c_X8_weightOf (l : Launch) (G : gT) (sz : Nat) (lo : Int64) (dd : UInt64) (σ : gM) (a1 : Int32) {o : Int32} (hf : f_X8_weightOf σ a1 = some o) : gCT l yX8_weightOf cX8_weightOf 2 (some .int) { frames := 0, cells := 0, slots := 0, locals := 0 } 0 0 G sz [.ref (G.1 7), .int a1] lo dd σ (.inl (mkI o, σ, lo, dd)) := by
  refine gCT_of (by decide) (Nat.le_of_ble_eq_true rfl) (fun p e s m args below meth c ls S hr hlk hnx hsz C0 hl H locs M => ?_)
  subst hsz
  have hx := S.1
  have hb := S.2.1
  unfold f_X8_weightOf at hf
  refine lv_aload_n hx hb dX8_weightOf_0 rfl (lv_at hl 0 rfl) ?_
  refine gf_X8_0 (i := 7) S M (by decide) rfl tw_1_79 dX8_weightOf_1 ?_
  refine lv_iload_n hx hb dX8_weightOf_4 rfl (lv_at hl 1 rfl) ?_
  obtain ⟨h1, hf⟩ := gi_x hf
  refine gk_iald (i := 8) (k := a1.toNatClampNeg) S M (by decide) (gaa_12 rfl) h1 rfl dX8_weightOf_5 ?_
  cases hf
  exact g_iret S M hr hlk (by decide) (by decide) dX8_weightOf_6 rfl
theorem k_X11_capacityOf : gMV yX11_capacityOf cX11_capacityOf 2 (some .int) 1 := ⟨tw_3_40, tw_1_6, by decide⟩
set_option maxHeartbeats 400000 in
set_option maxRecDepth 100000 in
theorem c_X11_capacityOf (l : Launch) (G : gT) (sz : Nat) (lo : Int64) (dd : UInt64) (σ : gM) (a1 : Int32) {o : Int32} (hf : f_X11_capacityOf σ a1 = some o) : gCT l yX11_capacityOf cX11_capacityOf 2 (some .int) { frames := 0, cells := 0, slots := 0, locals := 0 } 0 0 G sz [.ref (G.1 16), .int a1] lo dd σ (.inl (mkI o, σ, lo, dd)) := by
  refine gCT_of (by decide) (Nat.le_of_ble_eq_true rfl) (fun p e s m args below meth c ls S hr hlk hnx hsz C0 hl H locs M => ?_)
  subst hsz
  have hx := S.1
  have hb := S.2.1
  unfold f_X11_capacityOf at hf
  refine lv_aload_n hx hb dX11_capacityOf_0 rfl (lv_at hl 0 rfl) ?_
  refine gf_X11_1 (i := 16) S M (by decide) rfl tw_1_124 dX11_capacityOf_1 ?_
  refine lv_iload_n hx hb dX11_capacityOf_4 rfl (lv_at hl 1 rfl) ?_
  obtain ⟨h1, hf⟩ := gi_x hf
  refine gk_iald (i := 18) (k := a1.toNatClampNeg) S M (by decide) (gaa_3 rfl) h1 rfl dX11_capacityOf_5 ?_
  cases hf
  exact g_iret S M hr hlk (by decide) (by decide) dX11_capacityOf_6 rfl
theorem k_X3_roomIn : gMV yX3_roomIn cX3_roomIn 2 (some .int) 1 := ⟨tw_3_36, tw_1_2, by decide⟩
set_option maxHeartbeats 400000 in
set_option maxRecDepth 100000 in
theorem c_X3_roomIn (l : Launch) (G : gT) (sz : Nat) (lo : Int64) (dd : UInt64) (σ : gM) (a1 : Int32) {o : Int32} (hf : f_X3_roomIn σ a1 = some o) : gCT l yX3_roomIn cX3_roomIn 2 (some .int) { frames := 1, cells := 0, slots := 0, locals := 23 } 0 0 G sz [.ref (G.1 1), .int a1] lo dd σ (.inl (mkI o, σ, lo, dd)) := by
  refine gCT_of (by decide) (Nat.le_of_ble_eq_true rfl) (fun p e s m args below meth c ls S hr hlk hnx hsz C0 hl H locs M => ?_)
  subst hsz
  have hx := S.1
  have hb := S.2.1
  unfold f_X3_roomIn at hf
  refine lv_aload_n hx hb dX3_roomIn_0 rfl (lv_at hl 0 rfl) ?_
  refine gf_X3_3 (i := 1) S M (by decide) rfl tw_1_142 dX3_roomIn_1 ?_
  refine lv_iload_n hx hb dX3_roomIn_4 rfl (lv_at hl 1 rfl) ?_
  obtain ⟨r2, h1, hf⟩ := bd_x hf
  refine g_callR (st1 := [.int r2]) (cells' := 0) (slots' := 0) M (g_invV (index := 59) S M C0 hl (c_X11_capacityOf l G H.size lo dd σ a1  h1) k_X11_capacityOf tw_3_38 tw_3_39 tw_3_37 (by decide) (ge_5 rfl) rfl rfl rfl rfl rfl rfl dX3_roomIn_5) rfl rfl rfl (fun H locs M => ?_)
  refine lv_aload_n hx hb dX3_roomIn_8 rfl (lv_at hl 0 rfl) ?_
  refine gf_X3_1 (i := 1) S M (by decide) rfl tw_1_135 dX3_roomIn_9 ?_
  refine lv_iload_n hx hb dX3_roomIn_12 rfl (lv_at hl 1 rfl) ?_
  obtain ⟨r4, h3, hf⟩ := bd_x hf
  refine g_callR (st1 := [.int r4, .int r2]) (cells' := 0) (slots' := 0) M (g_invV (index := 62) S M C0 hl (c_X8_weightAt l G H.size lo dd σ a1  h3) k_X8_weightAt tw_3_6 tw_3_7 tw_3_5 (by decide) (ge_3 rfl) rfl rfl rfl rfl rfl rfl dX3_roomIn_13) rfl rfl rfl (fun H locs M => ?_)
  refine lv_isub hx hb dX3_roomIn_16 ?_
  cases hf
  exact g_iret S M hr hlk (by decide) (by decide) dX3_roomIn_17 rfl
theorem k_X8_hazardOf : gMV yX8_hazardOf cX8_hazardOf 2 (some .int) 1 := ⟨tw_3_48, tw_1_4, by decide⟩
set_option maxHeartbeats 400000 in
set_option maxRecDepth 100000 in
theorem c_X8_hazardOf (l : Launch) (G : gT) (sz : Nat) (lo : Int64) (dd : UInt64) (σ : gM) (a1 : Int32) {o : Int32} (hf : f_X8_hazardOf σ a1 = some o) : gCT l yX8_hazardOf cX8_hazardOf 2 (some .int) { frames := 0, cells := 0, slots := 0, locals := 0 } 0 0 G sz [.ref (G.1 7), .int a1] lo dd σ (.inl (mkI o, σ, lo, dd)) := by
  refine gCT_of (by decide) (Nat.le_of_ble_eq_true rfl) (fun p e s m args below meth c ls S hr hlk hnx hsz C0 hl H locs M => ?_)
  subst hsz
  have hx := S.1
  have hb := S.2.1
  unfold f_X8_hazardOf at hf
  refine lv_aload_n hx hb dX8_hazardOf_0 rfl (lv_at hl 0 rfl) ?_
  refine gf_X8_1 (i := 7) S M (by decide) rfl tw_1_80 dX8_hazardOf_1 ?_
  refine lv_iload_n hx hb dX8_hazardOf_4 rfl (lv_at hl 1 rfl) ?_
  obtain ⟨h1, hf⟩ := gi_x hf
  refine gk_iald (i := 9) (k := a1.toNatClampNeg) S M (by decide) (gaa_12 rfl) h1 rfl dX8_hazardOf_5 ?_
  cases hf
  exact g_iret S M hr hlk (by decide) (by decide) dX8_hazardOf_6 rfl
theorem k_X6_isPreferred : gMV yX6_isPreferred cX6_isPreferred 3 (some .boolean) 2 := ⟨tw_3_56, tw_1_5, by decide⟩
set_option maxHeartbeats 400000 in
set_option maxRecDepth 100000 in
theorem c_X6_isPreferred (l : Launch) (G : gT) (sz : Nat) (lo : Int64) (dd : UInt64) (σ : gM) (a1 : Int32) (a2 : Int32) {o : Int32} (hf : f_X6_isPreferred σ a1 a2 = some o) : gCT l yX6_isPreferred cX6_isPreferred 3 (some .boolean) { frames := 0, cells := 0, slots := 0, locals := 0 } 0 0 G sz [.ref (G.1 13), .int a1, .int a2] lo dd σ (.inl (mkI o, σ, lo, dd)) := by
  refine gCT_of (by decide) (Nat.le_of_ble_eq_true rfl) (fun p e s m args below meth c ls S hr hlk hnx hsz C0 hl H locs M => ?_)
  subst hsz
  have hx := S.1
  have hb := S.2.1
  unfold f_X6_isPreferred at hf
  refine lv_aload_n hx hb dX6_isPreferred_0 rfl (lv_at hl 0 rfl) ?_
  refine gf_X6_0 (i := 13) S M (by decide) rfl tw_1_104 dX6_isPreferred_1 ?_
  refine lv_iload_n hx hb dX6_isPreferred_4 rfl (lv_at hl 1 rfl) ?_
  obtain ⟨h1, hf⟩ := gi_x hf
  refine gk_iald (i := 14) (k := a1.toNatClampNeg) S M (by decide) (gaa_8 rfl) h1 rfl dX6_isPreferred_5 ?_
  refine lv_aload_n hx hb dX6_isPreferred_6 rfl (lv_at hl 0 rfl) ?_
  refine gf_X6_0 (i := 13) S M (by decide) rfl tw_1_104 dX6_isPreferred_7 ?_
  refine lv_iload_n hx hb dX6_isPreferred_10 rfl (lv_at hl 2 rfl) ?_
  obtain ⟨h2, hf⟩ := gi_x hf
  refine gk_iald (i := 14) (k := a2.toNatClampNeg) S M (by decide) (gaa_8 rfl) h2 rfl dX6_isPreferred_11 ?_
  refine lv_icmp_eq (tgt := 36) hx hb dX6_isPreferred_12 (by decide) (fun c3 => ?_) (fun c3 => ?_)
  · have hf := it_p c3 hf
    refine lv_aload_n hx hb dX6_isPreferred_36 rfl (lv_at hl 0 rfl) ?_
    refine gf_X6_1 (i := 13) S M (by decide) rfl tw_1_105 dX6_isPreferred_37 ?_
    refine lv_iload_n hx hb dX6_isPreferred_40 rfl (lv_at hl 1 rfl) ?_
    obtain ⟨h4, hf⟩ := gi_x hf
    refine gk_iald (i := 15) (k := a1.toNatClampNeg) S M (by decide) (gaa_8 rfl) h4 rfl dX6_isPreferred_41 ?_
    refine lv_aload_n hx hb dX6_isPreferred_42 rfl (lv_at hl 0 rfl) ?_
    refine gf_X6_1 (i := 13) S M (by decide) rfl tw_1_105 dX6_isPreferred_43 ?_
    refine lv_iload_n hx hb dX6_isPreferred_46 rfl (lv_at hl 2 rfl) ?_
    obtain ⟨h5, hf⟩ := gi_x hf
    refine gk_iald (i := 15) (k := a2.toNatClampNeg) S M (by decide) (gaa_8 rfl) h5 rfl dX6_isPreferred_47 ?_
    refine lv_icmp_ge (tgt := 55) hx hb dX6_isPreferred_48 (by decide) (fun c6 => ?_) (fun c6 => ?_)
    · have hf := it_p c6 hf
      refine lv_iconst (v := 0) hx hb dX6_isPreferred_55 (by decide) ?_
      cases hf
      exact g_zret S M hr hlk (by decide) (by decide) (by decide) dX6_isPreferred_56 rfl
    · have hf := it_n c6 hf
      refine lv_iconst (v := 1) hx hb dX6_isPreferred_51 (by decide) ?_
      refine lv_goto (tgt := 56) hx hb dX6_isPreferred_52 (by decide) ?_
      cases hf
      exact g_zret S M hr hlk (by decide) (by decide) (by decide) dX6_isPreferred_56 rfl
  · have hf := it_n c3 hf
    refine lv_aload_n hx hb dX6_isPreferred_15 rfl (lv_at hl 0 rfl) ?_
    refine gf_X6_0 (i := 13) S M (by decide) rfl tw_1_104 dX6_isPreferred_16 ?_
    refine lv_iload_n hx hb dX6_isPreferred_19 rfl (lv_at hl 1 rfl) ?_
    obtain ⟨h7, hf⟩ := gi_x hf
    refine gk_iald (i := 14) (k := a1.toNatClampNeg) S M (by decide) (gaa_8 rfl) h7 rfl dX6_isPreferred_20 ?_
    refine lv_aload_n hx hb dX6_isPreferred_21 rfl (lv_at hl 0 rfl) ?_
    refine gf_X6_0 (i := 13) S M (by decide) rfl tw_1_104 dX6_isPreferred_22 ?_
    refine lv_iload_n hx hb dX6_isPreferred_25 rfl (lv_at hl 2 rfl) ?_
    obtain ⟨h8, hf⟩ := gi_x hf
    refine gk_iald (i := 14) (k := a2.toNatClampNeg) S M (by decide) (gaa_8 rfl) h8 rfl dX6_isPreferred_26 ?_
    refine lv_icmp_ge (tgt := 34) hx hb dX6_isPreferred_27 (by decide) (fun c9 => ?_) (fun c9 => ?_)
    · have hf := it_p c9 hf
      refine lv_iconst (v := 0) hx hb dX6_isPreferred_34 (by decide) ?_
      cases hf
      exact g_zret S M hr hlk (by decide) (by decide) (by decide) dX6_isPreferred_35 rfl
    · have hf := it_n c9 hf
      refine lv_iconst (v := 1) hx hb dX6_isPreferred_30 (by decide) ?_
      refine lv_goto (tgt := 35) hx hb dX6_isPreferred_31 (by decide) ?_
      cases hf
      exact g_zret S M hr hlk (by decide) (by decide) (by decide) dX6_isPreferred_35 rfl
theorem k_X6_bestAgainst : gMV yX6_bestAgainst cX6_bestAgainst 4 (some .int) 1 := ⟨tw_3_52, tw_1_5, by decide⟩
set_option maxHeartbeats 400000 in
set_option maxRecDepth 100000 in
theorem w_X6_bestAgainst_L4 {p : Program} {l : Launch} {e : Env} {s : State} {m : MethodId} {args : Array Value} {below : List Frame} {meth : Method} {c : Code} {Q : State → Prop} {G : gT} {lo : Int64} {dd : UInt64} (S : CallFix p m c cX6_bestAgainst 4 s args gTs RX6) (C0 : gCST G (gAA G s.heap.size) s) (p1 : Int32) (σ : gM) : ∀ (n : Nat) (v2 : Int32) (v3 : Int32) (res : Int32), f_X6_bestAgainst_L4 p1 σ n v2 v3 = some res → ∀ (H : Heap) (locs : List Loc) (ls : Array Slot), gMS G (gAA G s.heap.size) lo dd σ s H locs → lv_has ls 4 [(0, .ref (G.1 13)), (1, .int p1), (2, .int v2), (3, .int v3)] → (k44 : ∀ (u2 : Int32), res = u2 → ∀ (H : Heap) (locs : List Loc) (ls : Array Slot), gMS G (gAA G s.heap.size) lo dd σ s H locs → lv_has ls 4 [(2, .int u2)] → W p l e ({ frames := 1, cells := 0, slots := 0, locals := 22 } : Room) s m args below meth c H locs 0 0 Q (F0 m 44 ls [])) → W p l e ({ frames := 1, cells := 0, slots := 0, locals := 22 } : Room) s m args below meth c H locs 0 0 Q (F0 m 4 ls []) := by
  have hx := S.1
  have hb := S.2.1
  intro n
  induction n with
  | zero =>
    intro v2 v3 res hf
    cases hf
  | succ n ih =>
    intro v2 v3 res hf H locs ls M hl k44
    rw [f_X6_bestAgainst_L4] at hf
    refine lv_iload_n hx hb dX6_bestAgainst_4 rfl (lv_at hl 3 rfl) ?_
    refine lv_aload_n hx hb dX6_bestAgainst_5 rfl (lv_at hl 0 rfl) ?_
    refine gf_X6_2 (i := 13) S M (by decide) rfl tw_1_106 dX6_bestAgainst_6 ?_
    refine lv_icmp_ge (tgt := 44) hx hb dX6_bestAgainst_9 (by decide) (fun c1 => ?_) (fun c1 => ?_)
    · have hf := it_p c1 hf
      cases hf
      exact k44 _ rfl _ _ _ M (lv_sub hl [2] rfl)
    · have hf := it_n c1 hf
      refine lv_aload_n hx hb dX6_bestAgainst_12 rfl (lv_at hl 0 rfl) ?_
      refine gf_X6_0 (i := 13) S M (by decide) rfl tw_1_104 dX6_bestAgainst_13 ?_
      refine lv_iload_n hx hb dX6_bestAgainst_16 rfl (lv_at hl 3 rfl) ?_
      obtain ⟨h2, hf⟩ := gi_x hf
      refine gk_iald (i := 14) (k := v3.toNatClampNeg) S M (by decide) (gaa_8 rfl) h2 rfl dX6_bestAgainst_17 ?_
      refine lv_iload_n hx hb dX6_bestAgainst_18 rfl (lv_at hl 1 rfl) ?_
      refine lv_icmp_lt (tgt := 38) hx hb dX6_bestAgainst_19 (by decide) (fun c3 => ?_) (fun c3 => ?_)
      · have hf := it_p c3 hf
        obtain ⟨x4, ex4, hf⟩ := nm_x hf
        refine lv_iinc (v := x4) (lv' := [(3, .int x4), (0, .ref (G.1 13)), (1, .int p1), (2, .int v2)]) hx hb dX6_bestAgainst_38 hl (k := 3) rfl (by rw [ex4]; rfl) (by decide) rfl (fun ls hl => ?_)
        refine lv_goto (tgt := 4) hx hb dX6_bestAgainst_41 (by decide) ?_
        exact ih _ _ _ hf _ _ _ M (lv_sub hl [1, 2, 3, 0] rfl) k44
      · have hf := it_n c3 hf
        refine lv_iload_n hx hb dX6_bestAgainst_22 rfl (lv_at hl 2 rfl) ?_
        refine lv_iconst (v := (-1)) hx hb dX6_bestAgainst_23 (by decide) ?_
        refine lv_icmp_eq (tgt := 36) hx hb dX6_bestAgainst_24 (by decide) (fun c5 => ?_) (fun c5 => ?_)
        · have hf := it_p c5 hf
          refine lv_iload_n hx hb dX6_bestAgainst_36 rfl (lv_at hl 3 rfl) ?_
          refine lv_istore_n (lv' := [(2, .int v3), (0, .ref (G.1 13)), (1, .int p1), (3, .int v3)]) hx hb dX6_bestAgainst_37 rfl hl (by decide) rfl (fun ls hl => ?_)
          obtain ⟨x6, ex6, hf⟩ := nm_x hf
          refine lv_iinc (v := x6) (lv' := [(3, .int x6), (2, .int v3), (0, .ref (G.1 13)), (1, .int p1)]) hx hb dX6_bestAgainst_38 hl (k := 3) rfl (by rw [ex6]; rfl) (by decide) rfl (fun ls hl => ?_)
          refine lv_goto (tgt := 4) hx hb dX6_bestAgainst_41 (by decide) ?_
          exact ih _ _ _ hf _ _ _ M (lv_sub hl [2, 3, 1, 0] rfl) k44
        · have hf := it_n c5 hf
          refine lv_aload_n hx hb dX6_bestAgainst_27 rfl (lv_at hl 0 rfl) ?_
          refine lv_iload_n hx hb dX6_bestAgainst_28 rfl (lv_at hl 3 rfl) ?_
          refine lv_iload_n hx hb dX6_bestAgainst_29 rfl (lv_at hl 2 rfl) ?_
          obtain ⟨r8, h7, hf⟩ := bd_x hf
          refine g_callR (st1 := [.int r8]) (cells' := 0) (slots' := 0) M (g_invV (index := 31) S M C0 hl (c_X6_isPreferred l G H.size lo dd σ v3 v2  h7) k_X6_isPreferred tw_3_55 tw_0_2 tw_3_53 (by decide) (ge_4 rfl) rfl rfl rfl rfl rfl rfl dX6_bestAgainst_30) rfl rfl rfl (fun H locs M => ?_)
          refine lv_if_eq (tgt := 38) hx hb dX6_bestAgainst_33 (by decide) (fun c9 => ?_) (fun c9 => ?_)
          · have hf := it_p c9 hf
            obtain ⟨x10, ex10, hf⟩ := nm_x hf
            refine lv_iinc (v := x10) (lv' := [(3, .int x10), (0, .ref (G.1 13)), (1, .int p1), (2, .int v2)]) hx hb dX6_bestAgainst_38 hl (k := 3) rfl (by rw [ex10]; rfl) (by decide) rfl (fun ls hl => ?_)
            refine lv_goto (tgt := 4) hx hb dX6_bestAgainst_41 (by decide) ?_
            exact ih _ _ _ hf _ _ _ M (lv_sub hl [1, 2, 3, 0] rfl) k44
          · have hf := it_n c9 hf
            refine lv_iload_n hx hb dX6_bestAgainst_36 rfl (lv_at hl 3 rfl) ?_
            refine lv_istore_n (lv' := [(2, .int v3), (0, .ref (G.1 13)), (1, .int p1), (3, .int v3)]) hx hb dX6_bestAgainst_37 rfl hl (by decide) rfl (fun ls hl => ?_)
            obtain ⟨x11, ex11, hf⟩ := nm_x hf
            refine lv_iinc (v := x11) (lv' := [(3, .int x11), (2, .int v3), (0, .ref (G.1 13)), (1, .int p1)]) hx hb dX6_bestAgainst_38 hl (k := 3) rfl (by rw [ex11]; rfl) (by decide) rfl (fun ls hl => ?_)
            refine lv_goto (tgt := 4) hx hb dX6_bestAgainst_41 (by decide) ?_
            exact ih _ _ _ hf _ _ _ M (lv_sub hl [2, 3, 1, 0] rfl) k44
set_option maxHeartbeats 400000 in
set_option maxRecDepth 100000 in
theorem c_X6_bestAgainst (l : Launch) (G : gT) (sz : Nat) (lo : Int64) (dd : UInt64) (σ : gM) (a1 : Int32) {o : Int32} (hf : f_X6_bestAgainst σ a1 = some o) : gCT l yX6_bestAgainst cX6_bestAgainst 4 (some .int) { frames := 1, cells := 0, slots := 0, locals := 22 } 0 0 G sz [.ref (G.1 13), .int a1] lo dd σ (.inl (mkI o, σ, lo, dd)) := by
  refine gCT_of (by decide) (Nat.le_of_ble_eq_true rfl) (fun p e s m args below meth c ls S hr hlk hnx hsz C0 hl H locs M => ?_)
  subst hsz
  have hx := S.1
  have hb := S.2.1
  unfold f_X6_bestAgainst at hf
  refine lv_iconst (v := (-1)) hx hb dX6_bestAgainst_0 (by decide) ?_
  refine lv_istore_n (lv' := [(2, .int (-1)), (0, .ref (G.1 13)), (1, .int a1)]) hx hb dX6_bestAgainst_1 rfl hl (by decide) rfl (fun ls hl => ?_)
  refine lv_iconst (v := 0) hx hb dX6_bestAgainst_2 (by decide) ?_
  refine lv_istore_n (lv' := [(3, .int 0), (2, .int (-1)), (0, .ref (G.1 13)), (1, .int a1)]) hx hb dX6_bestAgainst_3 rfl hl (by decide) rfl (fun ls hl => ?_)
  obtain ⟨y13, h12, hf⟩ := bd_x hf
  refine w_X6_bestAgainst_L4 S C0 a1 σ gFU (-1) 0 _ h12 _ _ _ M (lv_sub hl [2, 3, 1, 0] rfl) (fun _ eq H locs ls M hl => ?_)
  cases eq
  refine lv_iload_n hx hb dX6_bestAgainst_44 rfl (lv_at hl 0 rfl) ?_
  cases hf
  exact g_iret S M hr hlk (by decide) (by decide) dX6_bestAgainst_45 rfl
theorem k_X3_isSafe : gMV yX3_isSafe cX3_isSafe 3 (some .boolean) 1 := ⟨tw_3_44, tw_1_2, by decide⟩
set_option maxHeartbeats 400000 in
set_option maxRecDepth 100000 in
theorem c_X3_isSafe (l : Launch) (G : gT) (sz : Nat) (lo : Int64) (dd : UInt64) (σ : gM) (a1 : Int32) {o : Int32} (hf : f_X3_isSafe σ a1 = some o) : gCT l yX3_isSafe cX3_isSafe 3 (some .boolean) { frames := 2, cells := 0, slots := 0, locals := 45 } 0 0 G sz [.ref (G.1 1), .int a1] lo dd σ (.inl (mkI o, σ, lo, dd)) := by
  refine gCT_of (by decide) (Nat.le_of_ble_eq_true rfl) (fun p e s m args below meth c ls S hr hlk hnx hsz C0 hl H locs M => ?_)
  subst hsz
  have hx := S.1
  have hb := S.2.1
  unfold f_X3_isSafe at hf
  refine lv_aload_n hx hb dX3_isSafe_0 rfl (lv_at hl 0 rfl) ?_
  refine gf_X3_1 (i := 1) S M (by decide) rfl tw_1_135 dX3_isSafe_1 ?_
  refine lv_iload_n hx hb dX3_isSafe_4 rfl (lv_at hl 1 rfl) ?_
  obtain ⟨r2, h1, hf⟩ := bd_x hf
  refine g_callR (st1 := [.int r2]) (cells' := 0) (slots' := 0) M (g_invV (index := 52) S M C0 hl (c_X8_hazardOf l G H.size lo dd σ a1  h1) k_X8_hazardOf tw_3_46 tw_3_47 tw_3_45 (by decide) (ge_3 rfl) rfl rfl rfl rfl rfl rfl dX3_isSafe_5) rfl rfl rfl (fun H locs M => ?_)
  refine lv_istore_n (lv' := [(2, .int r2), (0, .ref (G.1 1)), (1, .int a1)]) hx hb dX3_isSafe_8 rfl hl (by decide) rfl (fun ls hl => ?_)
  refine lv_iload_n hx hb dX3_isSafe_9 rfl (lv_at hl 0 rfl) ?_
  refine lv_if_eq (tgt := 25) hx hb dX3_isSafe_10 (by decide) (fun c3 => ?_) (fun c3 => ?_)
  · have hf := it_p c3 hf
    refine lv_iconst (v := 1) hx hb dX3_isSafe_25 (by decide) ?_
    refine lv_goto (tgt := 30) hx hb dX3_isSafe_26 (by decide) ?_
    cases hf
    exact g_zret S M hr hlk (by decide) (by decide) (by decide) dX3_isSafe_30 rfl
  · have hf := it_n c3 hf
    refine lv_aload_n hx hb dX3_isSafe_13 rfl (lv_at hl 1 rfl) ?_
    refine gf_X3_2 (i := 1) S M (by decide) rfl tw_1_139 dX3_isSafe_14 ?_
    refine lv_iload_n hx hb dX3_isSafe_17 rfl (lv_at hl 0 rfl) ?_
    obtain ⟨r5, h4, hf⟩ := bd_x hf
    refine g_callR (st1 := [.int r5]) (cells' := 0) (slots' := 0) M (g_invV (index := 56) S M C0 hl (c_X6_bestAgainst l G H.size lo dd σ r2  h4) k_X6_bestAgainst tw_3_50 tw_3_51 tw_3_49 (by decide) (ge_4 rfl) rfl rfl rfl rfl rfl rfl dX3_isSafe_18) rfl rfl rfl (fun H locs M => ?_)
    refine lv_iconst (v := (-1)) hx hb dX3_isSafe_21 (by decide) ?_
    refine lv_icmp_eq (tgt := 29) hx hb dX3_isSafe_22 (by decide) (fun c6 => ?_) (fun c6 => ?_)
    · have hf := it_p c6 hf
      refine lv_iconst (v := 0) hx hb dX3_isSafe_29 (by decide) ?_
      cases hf
      exact g_zret S M hr hlk (by decide) (by decide) (by decide) dX3_isSafe_30 rfl
    · have hf := it_n c6 hf
      refine lv_iconst (v := 1) hx hb dX3_isSafe_25 (by decide) ?_
      refine lv_goto (tgt := 30) hx hb dX3_isSafe_26 (by decide) ?_
      cases hf
      exact g_zret S M hr hlk (by decide) (by decide) (by decide) dX3_isSafe_30 rfl
theorem k_X6_remove : gMV yX6_remove cX6_remove 3 none 1 := ⟨tw_3_65, tw_1_5, by decide⟩
set_option maxHeartbeats 400000 in
set_option maxRecDepth 100000 in
theorem w_X6_remove_L12 {p : Program} {l : Launch} {e : Env} {s : State} {m : MethodId} {args : Array Value} {below : List Frame} {meth : Method} {c : Code} {Q : State → Prop} {G : gT} {lo : Int64} {dd : UInt64} (S : CallFix p m c cX6_remove 3 s args gTs RX6) (C0 : gCST G (gAA G s.heap.size) s) : ∀ (n : Nat) (v2 : Int32) (σ : gM) (res : gM), f_X6_remove_L12 n v2 σ = some res → ∀ (H : Heap) (locs : List Loc) (ls : Array Slot), gMS G (gAA G s.heap.size) lo dd σ s H locs → lv_has ls 3 [(0, .ref (G.1 13)), (2, .int v2)] → (k54 : ∀ (τ : gM), res = τ → ∀ (H : Heap) (locs : List Loc) (ls : Array Slot), gMS G (gAA G s.heap.size) lo dd τ s H locs → lv_has ls 3 [] → W p l e ({ frames := 0, cells := 0, slots := 0, locals := 0 } : Room) s m args below meth c H locs 0 0 Q (F0 m 54 ls [])) → W p l e ({ frames := 0, cells := 0, slots := 0, locals := 0 } : Room) s m args below meth c H locs 0 0 Q (F0 m 12 ls []) := by
  have hx := S.1
  have hb := S.2.1
  intro n
  induction n with
  | zero =>
    intro v2 σ res hf
    cases hf
  | succ n ih =>
    intro v2 σ res hf H locs ls M hl k54
    rw [f_X6_remove_L12] at hf
    refine lv_iload_n hx hb dX6_remove_12 rfl (lv_at hl 1 rfl) ?_
    refine lv_aload_n hx hb dX6_remove_13 rfl (lv_at hl 0 rfl) ?_
    refine gf_X6_2 (i := 13) S M (by decide) rfl tw_1_106 dX6_remove_14 ?_
    refine lv_icmp_ge (tgt := 54) hx hb dX6_remove_17 (by decide) (fun c2 => ?_) (fun c2 => ?_)
    · have hf := it_p c2 hf
      cases hf
      exact k54 _ rfl _ _ _ M (lv_sub hl [] rfl)
    · have hf := it_n c2 hf
      refine lv_aload_n hx hb dX6_remove_20 rfl (lv_at hl 0 rfl) ?_
      refine gf_X6_0 (i := 13) S M (by decide) rfl tw_1_104 dX6_remove_21 ?_
      refine lv_iload_n hx hb dX6_remove_24 rfl (lv_at hl 1 rfl) ?_
      refine lv_aload_n hx hb dX6_remove_25 rfl (lv_at hl 0 rfl) ?_
      refine gf_X6_0 (i := 13) S M (by decide) rfl tw_1_104 dX6_remove_26 ?_
      refine lv_iload_n hx hb dX6_remove_29 rfl (lv_at hl 1 rfl) ?_
      refine lv_iconst (v := 1) hx hb dX6_remove_30 (by decide) ?_
      refine lv_iadd hx hb dX6_remove_31 ?_
      obtain ⟨h3, hf⟩ := gi_x hf
      refine gk_iald (i := 14) (k := (v2 + 1).toNatClampNeg) S M (by decide) (gaa_8 rfl) h3 rfl dX6_remove_32 ?_
      obtain ⟨h4, hf⟩ := gi_x hf
      obtain ⟨σ5, eσ5, hf⟩ := nm_x hf
      refine gk_iast (i := 14) (k := v2.toNatClampNeg) S M (by decide) (fun _ => (gaa_8 rfl)) h4 rfl dX6_remove_33 (fun H locs M => ?_)
      rw [← eσ5] at M
      refine lv_aload_n hx hb dX6_remove_34 rfl (lv_at hl 0 rfl) ?_
      refine gf_X6_1 (i := 13) S M (by decide) rfl tw_1_105 dX6_remove_35 ?_
      refine lv_iload_n hx hb dX6_remove_38 rfl (lv_at hl 1 rfl) ?_
      refine lv_aload_n hx hb dX6_remove_39 rfl (lv_at hl 0 rfl) ?_
      refine gf_X6_1 (i := 13) S M (by decide) rfl tw_1_105 dX6_remove_40 ?_
      refine lv_iload_n hx hb dX6_remove_43 rfl (lv_at hl 1 rfl) ?_
      refine lv_iconst (v := 1) hx hb dX6_remove_44 (by decide) ?_
      refine lv_iadd hx hb dX6_remove_45 ?_
      obtain ⟨h6, hf⟩ := gi_x hf
      refine gk_iald (i := 15) (k := (v2 + 1).toNatClampNeg) S M (by decide) (gaa_8 rfl) h6 rfl dX6_remove_46 ?_
      obtain ⟨h7, hf⟩ := gi_x hf
      obtain ⟨σ8, eσ8, hf⟩ := nm_x hf
      refine gk_iast (i := 15) (k := v2.toNatClampNeg) S M (by decide) (fun _ => (gaa_8 rfl)) h7 rfl dX6_remove_47 (fun H locs M => ?_)
      rw [← eσ8] at M
      obtain ⟨x9, ex9, hf⟩ := nm_x hf
      refine lv_iinc (v := x9) (lv' := [(2, .int x9), (0, .ref (G.1 13))]) hx hb dX6_remove_48 hl (k := 1) rfl (by rw [ex9]; rfl) (by decide) rfl (fun ls hl => ?_)
      refine lv_goto (tgt := 12) hx hb dX6_remove_51 (by decide) ?_
      exact ih _ _ _ hf _ _ _ M (lv_sub hl [1, 0] rfl) k54
set_option maxHeartbeats 400000 in
set_option maxRecDepth 100000 in
theorem c_X6_remove (l : Launch) (G : gT) (sz : Nat) (lo : Int64) (dd : UInt64) (σ : gM) (a1 : Int32) {o : gM} (hf : f_X6_remove σ a1 = some o) : gCT l yX6_remove cX6_remove 3 none { frames := 0, cells := 0, slots := 0, locals := 0 } 0 0 G sz [.ref (G.1 13), .int a1] lo dd σ (.inl (none, o, lo, dd)) := by
  refine gCT_of (by decide) (Nat.le_of_ble_eq_true rfl) (fun p e s m args below meth c ls S hr hlk hnx hsz C0 hl H locs M => ?_)
  subst hsz
  have hx := S.1
  have hb := S.2.1
  unfold f_X6_remove at hf
  refine lv_aload_n hx hb dX6_remove_0 rfl (lv_at hl 0 rfl) ?_
  refine lv_dup hx hb dX6_remove_1 rfl ?_
  refine gf_X6_2 (i := 13) S M (by decide) rfl tw_1_106 dX6_remove_2 ?_
  refine lv_iconst (v := 1) hx hb dX6_remove_5 (by decide) ?_
  refine lv_isub hx hb dX6_remove_6 ?_
  obtain ⟨σ1, eσ1, hf⟩ := nm_x hf
  refine gp_X6_2 (i := 13) S M (by decide) rfl tw_1_106 dX6_remove_7 (fun H locs M => ?_)
  rw [← eσ1] at M
  refine lv_iload_n hx hb dX6_remove_10 rfl (lv_at hl 1 rfl) ?_
  refine lv_istore_n (lv' := [(2, .int a1), (0, .ref (G.1 13)), (1, .int a1)]) hx hb dX6_remove_11 rfl hl (by decide) rfl (fun ls hl => ?_)
  obtain ⟨σ11, h10, hf⟩ := bd_x hf
  refine w_X6_remove_L12 S C0 gFU a1 σ1 _ h10 _ _ _ M (lv_sub hl [1, 0] rfl) (fun _ eq H locs ls M hl => ?_)
  cases eq
  cases hf
  exact g_vret S M hr hlk (by decide) (by decide) dX6_remove_54 rfl
theorem k_X6_useAgainst : gMV yX6_useAgainst cX6_useAgainst 3 none 1 := ⟨tw_3_60, tw_1_5, by decide⟩
set_option maxHeartbeats 400000 in
set_option maxRecDepth 100000 in
theorem c_X6_useAgainst (l : Launch) (G : gT) (sz : Nat) (lo : Int64) (dd : UInt64) (σ : gM) (a1 : Int32) {o : gM} (hf : f_X6_useAgainst σ a1 = some o) : gCT l yX6_useAgainst cX6_useAgainst 3 none { frames := 2, cells := 0, slots := 0, locals := 45 } 0 0 G sz [.ref (G.1 13), .int a1] lo dd σ (.inl (none, o, lo, dd)) := by
  refine gCT_of (by decide) (Nat.le_of_ble_eq_true rfl) (fun p e s m args below meth c ls S hr hlk hnx hsz C0 hl H locs M => ?_)
  subst hsz
  have hx := S.1
  have hb := S.2.1
  unfold f_X6_useAgainst at hf
  refine lv_iload_n hx hb dX6_useAgainst_0 rfl (lv_at hl 1 rfl) ?_
  refine lv_if_ne (tgt := 5) hx hb dX6_useAgainst_1 (by decide) (fun c1 => ?_) (fun c1 => ?_)
  · have hf := it_n c1 hf
    refine lv_aload_n hx hb dX6_useAgainst_5 rfl (lv_at hl 0 rfl) ?_
    refine lv_iload_n hx hb dX6_useAgainst_6 rfl (lv_at hl 1 rfl) ?_
    obtain ⟨r3, h2, hf⟩ := bd_x hf
    refine g_callR (st1 := [.int r3]) (cells' := 0) (slots' := 0) M (g_invV (index := 35) S M C0 hl (c_X6_bestAgainst l G H.size lo dd σ a1  h2) k_X6_bestAgainst tw_3_50 tw_3_51 tw_3_61 (by decide) (ge_4 rfl) rfl rfl rfl rfl rfl rfl dX6_useAgainst_7) rfl rfl rfl (fun H locs M => ?_)
    refine lv_istore_n (lv' := [(2, .int r3), (0, .ref (G.1 13)), (1, .int a1)]) hx hb dX6_useAgainst_10 rfl hl (by decide) rfl (fun ls hl => ?_)
    refine lv_iload_n hx hb dX6_useAgainst_11 rfl (lv_at hl 0 rfl) ?_
    refine lv_iconst (v := (-1)) hx hb dX6_useAgainst_12 (by decide) ?_
    refine lv_icmp_ne (tgt := 17) hx hb dX6_useAgainst_13 (by decide) (fun c4 => ?_) (fun c4 => ?_)
    · have hf := it_n c4 hf
      refine lv_aload_n hx hb dX6_useAgainst_17 rfl (lv_at hl 1 rfl) ?_
      refine gf_X6_1 (i := 13) S M (by decide) rfl tw_1_105 dX6_useAgainst_18 ?_
      refine lv_iload_n hx hb dX6_useAgainst_21 rfl (lv_at hl 0 rfl) ?_
      refine lv_dup2_11 hx hb dX6_useAgainst_22 rfl rfl ?_
      obtain ⟨h5, hf⟩ := gi_x hf
      refine gk_iald (i := 15) (k := r3.toNatClampNeg) S M (by decide) (gaa_8 rfl) h5 rfl dX6_useAgainst_23 ?_
      refine lv_iconst (v := 1) hx hb dX6_useAgainst_24 (by decide) ?_
      refine lv_isub hx hb dX6_useAgainst_25 ?_
      obtain ⟨h6, hf⟩ := gi_x hf
      obtain ⟨σ7, eσ7, hf⟩ := nm_x hf
      refine gk_iast (i := 15) (k := r3.toNatClampNeg) S M (by decide) (fun _ => (gaa_8 rfl)) h6 rfl dX6_useAgainst_26 (fun H locs M => ?_)
      rw [← eσ7] at M
      refine lv_aload_n hx hb dX6_useAgainst_27 rfl (lv_at hl 1 rfl) ?_
      refine gf_X6_1 (i := 13) S M (by decide) rfl tw_1_105 dX6_useAgainst_28 ?_
      refine lv_iload_n hx hb dX6_useAgainst_31 rfl (lv_at hl 0 rfl) ?_
      obtain ⟨h8, hf⟩ := gi_x hf
      refine gk_iald (i := 15) (k := r3.toNatClampNeg) S M (by decide) (gaa_8 rfl) h8 rfl dX6_useAgainst_32 ?_
      refine lv_if_ne (tgt := 51) hx hb dX6_useAgainst_33 (by decide) (fun c9 => ?_) (fun c9 => ?_)
      · have hf := it_n c9 hf
        cases hf
        exact g_vret S M hr hlk (by decide) (by decide) dX6_useAgainst_51 rfl
      · have hf := it_p c9 hf
        refine lv_aload_n hx hb dX6_useAgainst_36 rfl (lv_at hl 1 rfl) ?_
        refine lv_iload_n hx hb dX6_useAgainst_37 rfl (lv_at hl 0 rfl) ?_
        obtain ⟨σ11, h10, hf⟩ := bd_x hf
        refine g_callR (st1 := []) (cells' := 0) (slots' := 0) M (g_invV (index := 39) S M C0 hl (c_X6_remove l G H.size lo dd σ7 r3  h10) k_X6_remove tw_3_64 tw_0_3 tw_3_62 (by decide) (ge_4 rfl) rfl rfl rfl rfl rfl rfl dX6_useAgainst_38) rfl rfl rfl (fun H locs M => ?_)
        refine lv_aload_n hx hb dX6_useAgainst_41 rfl (lv_at hl 1 rfl) ?_
        refine lv_dup hx hb dX6_useAgainst_42 rfl ?_
        refine gf_X6_3 (i := 13) S M (by decide) rfl tw_1_107 dX6_useAgainst_43 ?_
        refine lv_iconst (v := 1) hx hb dX6_useAgainst_46 (by decide) ?_
        refine lv_iadd hx hb dX6_useAgainst_47 ?_
        obtain ⟨σ12, eσ12, hf⟩ := nm_x hf
        refine gp_X6_3 (i := 13) S M (by decide) rfl tw_1_107 dX6_useAgainst_48 (fun H locs M => ?_)
        rw [← eσ12] at M
        cases hf
        exact g_vret S M hr hlk (by decide) (by decide) dX6_useAgainst_51 rfl
    · have hf := it_p c4 hf
      cases hf
      exact g_vret S M hr hlk (by decide) (by decide) dX6_useAgainst_16 rfl
  · have hf := it_p c1 hf
    cases hf
    exact g_vret S M hr hlk (by decide) (by decide) dX6_useAgainst_4 rfl
theorem k_X8_move : gMV yX8_move cX8_move 3 none 2 := ⟨tw_3_69, tw_1_4, by decide⟩
set_option maxHeartbeats 400000 in
set_option maxRecDepth 100000 in
theorem c_X8_move (l : Launch) (G : gT) (sz : Nat) (lo : Int64) (dd : UInt64) (σ : gM) (a1 : Int32) (a2 : Int32) {o : gM} (hf : f_X8_move σ a1 a2 = some o) : gCT l yX8_move cX8_move 3 none { frames := 0, cells := 0, slots := 0, locals := 0 } 0 0 G sz [.ref (G.1 7), .int a1, .int a2] lo dd σ (.inl (none, o, lo, dd)) := by
  refine gCT_of (by decide) (Nat.le_of_ble_eq_true rfl) (fun p e s m args below meth c ls S hr hlk hnx hsz C0 hl H locs M => ?_)
  subst hsz
  have hx := S.1
  have hb := S.2.1
  unfold f_X8_move at hf
  refine lv_aload_n hx hb dX8_move_0 rfl (lv_at hl 0 rfl) ?_
  refine gf_X8_3 (i := 7) S M (by decide) rfl tw_1_82 dX8_move_1 ?_
  refine lv_iload_n hx hb dX8_move_4 rfl (lv_at hl 1 rfl) ?_
  refine lv_iload_n hx hb dX8_move_5 rfl (lv_at hl 2 rfl) ?_
  obtain ⟨h1, hf⟩ := gi_x hf
  obtain ⟨σ2, eσ2, hf⟩ := nm_x hf
  refine gk_iast (i := 11) (k := a1.toNatClampNeg) S M (by decide) (fun _ => (gaa_12 rfl)) h1 rfl dX8_move_6 (fun H locs M => ?_)
  rw [← eσ2] at M
  cases hf
  exact g_vret S M hr hlk (by decide) (by decide) dX8_move_7 rfl
theorem k_X3_putIn : gMV yX3_putIn cX3_putIn 3 (some .int) 2 := ⟨tw_3_20, tw_1_2, by decide⟩
set_option maxHeartbeats 400000 in
set_option maxRecDepth 100000 in
theorem c_X3_putIn (l : Launch) (G : gT) (sz : Nat) (lo : Int64) (dd : UInt64) (σ : gM) (a1 : Int32) (a2 : Int32) {r : Int32} {o : gM} (hf : f_X3_putIn σ a1 a2 = some (r, o)) : gCT l yX3_putIn cX3_putIn 3 (some .int) { frames := 3, cells := 0, slots := 0, locals := 67 } 0 0 G sz [.ref (G.1 1), .int a1, .int a2] lo dd σ (.inl (mkI r, o, lo, dd)) := by
  refine gCT_of (by decide) (Nat.le_of_ble_eq_true rfl) (fun p e s m args below meth c ls S hr hlk hnx hsz C0 hl H locs M => ?_)
  subst hsz
  have hx := S.1
  have hb := S.2.1
  unfold f_X3_putIn at hf
  refine lv_iload_n hx hb dX3_putIn_0 rfl (lv_at hl 1 rfl) ?_
  refine lv_aload_n hx hb dX3_putIn_1 rfl (lv_at hl 0 rfl) ?_
  refine gf_X3_1 (i := 1) S M (by decide) rfl tw_1_135 dX3_putIn_2 ?_
  obtain ⟨r2, h1, hf⟩ := bd_x hf
  refine g_callR (st1 := [.int r2, .int a1]) (cells' := 0) (slots' := 0) M (g_invV (index := 100) S M C0 hl (c_X8_size l G H.size lo dd σ   h1) k_X8_size tw_3_22 tw_3_23 tw_3_21 (by decide) (ge_3 rfl) rfl rfl rfl rfl rfl rfl dX3_putIn_5) rfl rfl rfl (fun H locs M => ?_)
  obtain ⟨r4, h3, hf⟩ := bd_x hf
  refine g_callR (st1 := [.int r4]) (cells' := 0) (slots' := 0) M (g_invSN (index := 72) (host := "ParcelDepot") S M C0 hl (c_X12_isIndex l G H.size lo dd σ a1 r2  h3) k_X12_isIndex tw_2_74 (by decide +kernel) rfl rfl rfl rfl dX3_putIn_8) rfl rfl rfl (fun H locs M => ?_)
  refine lv_if_eq (tgt := 22) hx hb dX3_putIn_11 (by decide) (fun c5 => ?_) (fun c5 => ?_)
  · have hf := it_p c5 hf
    refine lv_bipush (v := (-2)) hx hb dX3_putIn_22 (by decide) ?_
    cases hf
    exact g_iret S M hr hlk (by decide) (by decide) dX3_putIn_24 rfl
  · have hf := it_n c5 hf
    refine lv_iload_n hx hb dX3_putIn_14 rfl (lv_at hl 2 rfl) ?_
    refine lv_iconst (v := 3) hx hb dX3_putIn_15 (by decide) ?_
    obtain ⟨r7, h6, hf⟩ := bd_x hf
    refine g_callR (st1 := [.int r7]) (cells' := 0) (slots' := 0) M (g_invSN (index := 72) (host := "ParcelDepot") S M C0 hl (c_X12_isIndex l G H.size lo dd σ a2 3  h6) k_X12_isIndex tw_2_74 (by decide +kernel) rfl rfl rfl rfl dX3_putIn_16) rfl rfl rfl (fun H locs M => ?_)
    refine lv_if_ne (tgt := 25) hx hb dX3_putIn_19 (by decide) (fun c8 => ?_) (fun c8 => ?_)
    · have hf := it_n c8 hf
      refine lv_aload_n hx hb dX3_putIn_25 rfl (lv_at hl 0 rfl) ?_
      refine gf_X3_1 (i := 1) S M (by decide) rfl tw_1_135 dX3_putIn_26 ?_
      refine lv_iload_n hx hb dX3_putIn_29 rfl (lv_at hl 1 rfl) ?_
      obtain ⟨r10, h9, hf⟩ := bd_x hf
      refine g_callR (st1 := [.int r10]) (cells' := 0) (slots' := 0) M (g_invV (index := 104) S M C0 hl (c_X8_whereIs l G H.size lo dd σ a1  h9) k_X8_whereIs tw_3_26 tw_3_27 tw_3_25 (by decide) (ge_3 rfl) rfl rfl rfl rfl rfl rfl dX3_putIn_30) rfl rfl rfl (fun H locs M => ?_)
      refine lv_iconst (v := (-1)) hx hb dX3_putIn_33 (by decide) ?_
      refine lv_icmp_eq (tgt := 40) hx hb dX3_putIn_34 (by decide) (fun c11 => ?_) (fun c11 => ?_)
      · have hf := it_p c11 hf
        refine lv_aload_n hx hb dX3_putIn_40 rfl (lv_at hl 0 rfl) ?_
        refine gf_X3_1 (i := 1) S M (by decide) rfl tw_1_135 dX3_putIn_41 ?_
        refine lv_iload_n hx hb dX3_putIn_44 rfl (lv_at hl 1 rfl) ?_
        obtain ⟨r13, h12, hf⟩ := bd_x hf
        refine g_callR (st1 := [.int r13]) (cells' := 0) (slots' := 0) M (g_invV (index := 107) S M C0 hl (c_X8_weightOf l G H.size lo dd σ a1  h12) k_X8_weightOf tw_3_30 tw_3_31 tw_3_29 (by decide) (ge_3 rfl) rfl rfl rfl rfl rfl rfl dX3_putIn_45) rfl rfl rfl (fun H locs M => ?_)
        refine lv_aload_n hx hb dX3_putIn_48 rfl (lv_at hl 0 rfl) ?_
        refine lv_iload_n hx hb dX3_putIn_49 rfl (lv_at hl 2 rfl) ?_
        obtain ⟨r15, h14, hf⟩ := bd_x hf
        refine g_callR (st1 := [.int r15, .int r13]) (cells' := 0) (slots' := 0) M (g_invV (index := 110) S M C0 hl (c_X3_roomIn l G H.size lo dd σ a2  h14) k_X3_roomIn tw_3_34 tw_3_35 tw_3_33 (by decide) (ge_1 rfl) rfl rfl rfl rfl rfl rfl dX3_putIn_50) rfl rfl rfl (fun H locs M => ?_)
        refine lv_icmp_le (tgt := 59) hx hb dX3_putIn_53 (by decide) (fun c16 => ?_) (fun c16 => ?_)
        · have hf := it_p c16 hf
          refine lv_aload_n hx hb dX3_putIn_59 rfl (lv_at hl 0 rfl) ?_
          refine lv_iload_n hx hb dX3_putIn_60 rfl (lv_at hl 1 rfl) ?_
          obtain ⟨r18, h17, hf⟩ := bd_x hf
          refine g_callR (st1 := [.int r18]) (cells' := 0) (slots' := 0) M (g_invV (index := 113) S M C0 hl (c_X3_isSafe l G H.size lo dd σ a1  h17) k_X3_isSafe tw_3_42 tw_3_43 tw_3_41 (by decide) (ge_1 rfl) rfl rfl rfl rfl rfl rfl dX3_putIn_61) rfl rfl rfl (fun H locs M => ?_)
          refine lv_if_ne (tgt := 70) hx hb dX3_putIn_64 (by decide) (fun c19 => ?_) (fun c19 => ?_)
          · have hf := it_n c19 hf
            refine lv_aload_n hx hb dX3_putIn_70 rfl (lv_at hl 0 rfl) ?_
            refine gf_X3_2 (i := 1) S M (by decide) rfl tw_1_139 dX3_putIn_71 ?_
            refine lv_aload_n hx hb dX3_putIn_74 rfl (lv_at hl 0 rfl) ?_
            refine gf_X3_1 (i := 1) S M (by decide) rfl tw_1_135 dX3_putIn_75 ?_
            refine lv_iload_n hx hb dX3_putIn_78 rfl (lv_at hl 1 rfl) ?_
            obtain ⟨r21, h20, hf⟩ := bd_x hf
            refine g_callR (st1 := [.int r21, .ref (G.1 13)]) (cells' := 0) (slots' := 0) M (g_invV (index := 52) S M C0 hl (c_X8_hazardOf l G H.size lo dd σ a1  h20) k_X8_hazardOf tw_3_46 tw_3_47 tw_3_45 (by decide) (ge_3 rfl) rfl rfl rfl rfl rfl rfl dX3_putIn_79) rfl rfl rfl (fun H locs M => ?_)
            obtain ⟨σ23, h22, hf⟩ := bd_x hf
            refine g_callR (st1 := []) (cells' := 0) (slots' := 0) M (g_invV (index := 117) S M C0 hl (c_X6_useAgainst l G H.size lo dd σ r21  h22) k_X6_useAgainst tw_3_58 tw_3_59 tw_3_57 (by decide) (ge_4 rfl) rfl rfl rfl rfl rfl rfl dX3_putIn_82) rfl rfl rfl (fun H locs M => ?_)
            refine lv_aload_n hx hb dX3_putIn_85 rfl (lv_at hl 0 rfl) ?_
            refine gf_X3_1 (i := 1) S M (by decide) rfl tw_1_135 dX3_putIn_86 ?_
            refine lv_iload_n hx hb dX3_putIn_89 rfl (lv_at hl 1 rfl) ?_
            refine lv_iload_n hx hb dX3_putIn_90 rfl (lv_at hl 2 rfl) ?_
            obtain ⟨σ25, h24, hf⟩ := bd_x hf
            refine g_callR (st1 := []) (cells' := 0) (slots' := 0) M (g_invV (index := 121) S M C0 hl (c_X8_move l G H.size lo dd σ23 a1 a2  h24) k_X8_move tw_3_67 tw_3_68 tw_3_66 (by decide) (ge_3 rfl) rfl rfl rfl rfl rfl rfl dX3_putIn_91) rfl rfl rfl (fun H locs M => ?_)
            refine lv_aload_n hx hb dX3_putIn_94 rfl (lv_at hl 0 rfl) ?_
            refine gf_X3_1 (i := 1) S M (by decide) rfl tw_1_135 dX3_putIn_95 ?_
            refine lv_iload_n hx hb dX3_putIn_98 rfl (lv_at hl 2 rfl) ?_
            obtain ⟨r27, h26, hf⟩ := bd_x hf
            refine g_callR (st1 := [.int r27]) (cells' := 0) (slots' := 0) M (g_invV (index := 62) S M C0 hl (c_X8_weightAt l G H.size lo dd σ25 a2  h26) k_X8_weightAt tw_3_6 tw_3_7 tw_3_5 (by decide) (ge_3 rfl) rfl rfl rfl rfl rfl rfl dX3_putIn_99) rfl rfl rfl (fun H locs M => ?_)
            cases hf
            exact g_iret S M hr hlk (by decide) (by decide) dX3_putIn_102 rfl
          · have hf := it_p c19 hf
            refine lv_bipush (v := (-6)) hx hb dX3_putIn_67 (by decide) ?_
            cases hf
            exact g_iret S M hr hlk (by decide) (by decide) dX3_putIn_69 rfl
        · have hf := it_n c16 hf
          refine lv_bipush (v := (-5)) hx hb dX3_putIn_56 (by decide) ?_
          cases hf
          exact g_iret S M hr hlk (by decide) (by decide) dX3_putIn_58 rfl
      · have hf := it_n c11 hf
        refine lv_bipush (v := (-4)) hx hb dX3_putIn_37 (by decide) ?_
        cases hf
        exact g_iret S M hr hlk (by decide) (by decide) dX3_putIn_39 rfl
    · have hf := it_p c8 hf
      refine lv_bipush (v := (-2)) hx hb dX3_putIn_22 (by decide) ?_
      cases hf
      exact g_iret S M hr hlk (by decide) (by decide) dX3_putIn_24 rfl
theorem k_X12_put : gMV yX12_put cX12_put 3 (some .int) 2 := ⟨tw_3_16, tw_1_1, by decide⟩
set_option maxHeartbeats 400000 in
set_option maxRecDepth 100000 in
theorem c_X12_put (l : Launch) (hfl : l.stackTraces = false) (G : gT) (sz : Nat) (lo : Int64) (dd : UInt64) (σ : gM) (a1 : Int32) (a2 : Int32) {o : (Int32 × gM) ⊕ (Nat × gM)} (hf : f_X12_put σ a1 a2 = some o) : gCT l yX12_put cX12_put 3 (some .int) { frames := 9, cells := 1, slots := 6, locals := 145 } 1 6 G sz [.ref (G.1 0), .int a1, .int a2] lo dd σ (got2 mkI o lo dd) := by
  refine gCT_of (by decide) (Nat.le_of_ble_eq_true rfl) (fun p e s m args below meth c ls S hr hlk hnx hsz C0 hl H locs M => ?_)
  subst hsz
  have hx := S.1
  have hb := S.2.1
  unfold f_X12_put at hf
  refine lv_aload_n hx hb dX12_put_0 rfl (lv_at hl 0 rfl) ?_
  refine gf_X12_2 (i := 0) S M (by decide) rfl tw_2_9 dX12_put_1 ?_
  refine lv_aload_n hx hb dX12_put_4 rfl (lv_at hl 0 rfl) ?_
  refine gf_X12_0 (i := 0) S M (by decide) rfl tw_2_7 dX12_put_5 ?_
  obtain ⟨σ2, h1, hf⟩ := bd_x hf
  refine g_callR (st1 := []) (cells' := 0) (slots' := 0) M (g_invV (index := 58) S M C0 hl (c_X7_prepare l G H.size lo dd σ   h1) k_X7_prepare tw_2_40 tw_2_41 tw_2_39 (by decide) (ge_6 rfl) rfl rfl rfl rfl rfl rfl dX12_put_8) rfl rfl rfl (fun H locs M => ?_)
  refine lv_aload_n hx hb dX12_put_11 rfl (lv_at hl 0 rfl) ?_
  refine lv_aload_n hx hb dX12_put_12 rfl (lv_at hl 0 rfl) ?_
  refine gf_X12_0 (i := 0) S M (by decide) rfl tw_2_7 dX12_put_13 ?_
  refine lv_iload_n hx hb dX12_put_16 rfl (lv_at hl 1 rfl) ?_
  refine lv_iload_n hx hb dX12_put_17 rfl (lv_at hl 2 rfl) ?_
  obtain ⟨r4, σ5, h3, hf⟩ := bd2_x hf
  refine g_callR (st1 := [.int r4, .ref (G.1 0)]) (cells' := 0) (slots' := 0) M (g_invV (index := 80) S M C0 hl (c_X3_putIn l G H.size lo dd σ2 a1 a2  h3) k_X3_putIn tw_3_18 tw_3_19 tw_3_17 (by decide) (ge_1 rfl) rfl rfl rfl rfl rfl rfl dX12_put_18) rfl rfl rfl (fun H locs M => ?_)
  rcases bt2_x hf with ⟨r7, σ8, h6, hf⟩ | ⟨n9, σ8, h6, hf⟩
  · refine g_callR (st1 := [.int r7]) (cells' := 1) (slots' := 6) M (g_invV (index := 66) S M C0 hl (c_X12_recorded l hfl G H.size lo dd σ5 r4  h6) k_X12_recorded tw_2_89 tw_0_0 tw_2_87 (by decide) (ge_0 rfl) rfl rfl rfl rfl rfl rfl dX12_put_21) rfl rfl rfl (fun H locs M => ?_)
    cases hf
    exact g_iret S M hr hlk (by decide) (by decide) dX12_put_24 rfl
  · cases hf
    refine g_runX (cells' := 1) (slots' := 6) M (g_invV (index := 66) S M C0 hl (c_X12_recorded l hfl G H.size lo dd σ5 r4  h6) k_X12_recorded tw_2_89 tw_0_0 tw_2_87 (by decide) (ge_0 rfl) rfl rfl rfl rfl rfl rfl dX12_put_21) rfl rfl (fun ce q H locs M hq hv hcl => ?_)
    exact g_out M hnx hlk hq hv hcl (by decide) (by decide) rfl
theorem k_X3_pullOut : gMV yX3_pullOut cX3_pullOut 3 (some .int) 1 := ⟨tw_3_77, tw_1_2, by decide⟩
set_option maxHeartbeats 400000 in
set_option maxRecDepth 100000 in
theorem c_X3_pullOut (l : Launch) (G : gT) (sz : Nat) (lo : Int64) (dd : UInt64) (σ : gM) (a1 : Int32) {r : Int32} {o : gM} (hf : f_X3_pullOut σ a1 = some (r, o)) : gCT l yX3_pullOut cX3_pullOut 3 (some .int) { frames := 3, cells := 0, slots := 0, locals := 67 } 0 0 G sz [.ref (G.1 1), .int a1] lo dd σ (.inl (mkI r, o, lo, dd)) := by
  refine gCT_of (by decide) (Nat.le_of_ble_eq_true rfl) (fun p e s m args below meth c ls S hr hlk hnx hsz C0 hl H locs M => ?_)
  subst hsz
  have hx := S.1
  have hb := S.2.1
  unfold f_X3_pullOut at hf
  refine lv_iload_n hx hb dX3_pullOut_0 rfl (lv_at hl 1 rfl) ?_
  refine lv_aload_n hx hb dX3_pullOut_1 rfl (lv_at hl 0 rfl) ?_
  refine gf_X3_1 (i := 1) S M (by decide) rfl tw_1_135 dX3_pullOut_2 ?_
  obtain ⟨r2, h1, hf⟩ := bd_x hf
  refine g_callR (st1 := [.int r2, .int a1]) (cells' := 0) (slots' := 0) M (g_invV (index := 100) S M C0 hl (c_X8_size l G H.size lo dd σ   h1) k_X8_size tw_3_22 tw_3_23 tw_3_21 (by decide) (ge_3 rfl) rfl rfl rfl rfl rfl rfl dX3_pullOut_5) rfl rfl rfl (fun H locs M => ?_)
  obtain ⟨r4, h3, hf⟩ := bd_x hf
  refine g_callR (st1 := [.int r4]) (cells' := 0) (slots' := 0) M (g_invSN (index := 72) (host := "ParcelDepot") S M C0 hl (c_X12_isIndex l G H.size lo dd σ a1 r2  h3) k_X12_isIndex tw_2_74 (by decide +kernel) rfl rfl rfl rfl dX3_pullOut_8) rfl rfl rfl (fun H locs M => ?_)
  refine lv_if_ne (tgt := 17) hx hb dX3_pullOut_11 (by decide) (fun c5 => ?_) (fun c5 => ?_)
  · have hf := it_n c5 hf
    refine lv_aload_n hx hb dX3_pullOut_17 rfl (lv_at hl 0 rfl) ?_
    refine gf_X3_1 (i := 1) S M (by decide) rfl tw_1_135 dX3_pullOut_18 ?_
    refine lv_iload_n hx hb dX3_pullOut_21 rfl (lv_at hl 1 rfl) ?_
    obtain ⟨r7, h6, hf⟩ := bd_x hf
    refine g_callR (st1 := [.int r7]) (cells' := 0) (slots' := 0) M (g_invV (index := 104) S M C0 hl (c_X8_whereIs l G H.size lo dd σ a1  h6) k_X8_whereIs tw_3_26 tw_3_27 tw_3_25 (by decide) (ge_3 rfl) rfl rfl rfl rfl rfl rfl dX3_pullOut_22) rfl rfl rfl (fun H locs M => ?_)
    refine lv_istore_n (lv' := [(2, .int r7), (0, .ref (G.1 1)), (1, .int a1)]) hx hb dX3_pullOut_25 rfl hl (by decide) rfl (fun ls hl => ?_)
    refine lv_iload_n hx hb dX3_pullOut_26 rfl (lv_at hl 0 rfl) ?_
    refine lv_iconst (v := 3) hx hb dX3_pullOut_27 (by decide) ?_
    obtain ⟨r9, h8, hf⟩ := bd_x hf
    refine g_callR (st1 := [.int r9]) (cells' := 0) (slots' := 0) M (g_invSN (index := 72) (host := "ParcelDepot") S M C0 hl (c_X12_isIndex l G H.size lo dd σ r7 3  h8) k_X12_isIndex tw_2_74 (by decide +kernel) rfl rfl rfl rfl dX3_pullOut_28) rfl rfl rfl (fun H locs M => ?_)
    refine lv_if_ne (tgt := 37) hx hb dX3_pullOut_31 (by decide) (fun c10 => ?_) (fun c10 => ?_)
    · have hf := it_n c10 hf
      refine lv_aload_n hx hb dX3_pullOut_37 rfl (lv_at hl 1 rfl) ?_
      refine lv_iload_n hx hb dX3_pullOut_38 rfl (lv_at hl 2 rfl) ?_
      obtain ⟨r12, h11, hf⟩ := bd_x hf
      refine g_callR (st1 := [.int r12]) (cells' := 0) (slots' := 0) M (g_invV (index := 113) S M C0 hl (c_X3_isSafe l G H.size lo dd σ a1  h11) k_X3_isSafe tw_3_42 tw_3_43 tw_3_41 (by decide) (ge_1 rfl) rfl rfl rfl rfl rfl rfl dX3_pullOut_39) rfl rfl rfl (fun H locs M => ?_)
      refine lv_if_ne (tgt := 48) hx hb dX3_pullOut_42 (by decide) (fun c13 => ?_) (fun c13 => ?_)
      · have hf := it_n c13 hf
        refine lv_aload_n hx hb dX3_pullOut_48 rfl (lv_at hl 1 rfl) ?_
        refine gf_X3_2 (i := 1) S M (by decide) rfl tw_1_139 dX3_pullOut_49 ?_
        refine lv_aload_n hx hb dX3_pullOut_52 rfl (lv_at hl 1 rfl) ?_
        refine gf_X3_1 (i := 1) S M (by decide) rfl tw_1_135 dX3_pullOut_53 ?_
        refine lv_iload_n hx hb dX3_pullOut_56 rfl (lv_at hl 2 rfl) ?_
        obtain ⟨r15, h14, hf⟩ := bd_x hf
        refine g_callR (st1 := [.int r15, .ref (G.1 13)]) (cells' := 0) (slots' := 0) M (g_invV (index := 52) S M C0 hl (c_X8_hazardOf l G H.size lo dd σ a1  h14) k_X8_hazardOf tw_3_46 tw_3_47 tw_3_45 (by decide) (ge_3 rfl) rfl rfl rfl rfl rfl rfl dX3_pullOut_57) rfl rfl rfl (fun H locs M => ?_)
        obtain ⟨σ17, h16, hf⟩ := bd_x hf
        refine g_callR (st1 := []) (cells' := 0) (slots' := 0) M (g_invV (index := 117) S M C0 hl (c_X6_useAgainst l G H.size lo dd σ r15  h16) k_X6_useAgainst tw_3_58 tw_3_59 tw_3_57 (by decide) (ge_4 rfl) rfl rfl rfl rfl rfl rfl dX3_pullOut_60) rfl rfl rfl (fun H locs M => ?_)
        refine lv_aload_n hx hb dX3_pullOut_63 rfl (lv_at hl 1 rfl) ?_
        refine gf_X3_1 (i := 1) S M (by decide) rfl tw_1_135 dX3_pullOut_64 ?_
        refine lv_iload_n hx hb dX3_pullOut_67 rfl (lv_at hl 2 rfl) ?_
        refine lv_iconst (v := (-1)) hx hb dX3_pullOut_68 (by decide) ?_
        obtain ⟨σ19, h18, hf⟩ := bd_x hf
        refine g_callR (st1 := []) (cells' := 0) (slots' := 0) M (g_invV (index := 121) S M C0 hl (c_X8_move l G H.size lo dd σ17 a1 (-1)  h18) k_X8_move tw_3_67 tw_3_68 tw_3_66 (by decide) (ge_3 rfl) rfl rfl rfl rfl rfl rfl dX3_pullOut_69) rfl rfl rfl (fun H locs M => ?_)
        refine lv_iload_n hx hb dX3_pullOut_72 rfl (lv_at hl 0 rfl) ?_
        cases hf
        exact g_iret S M hr hlk (by decide) (by decide) dX3_pullOut_73 rfl
      · have hf := it_p c13 hf
        refine lv_bipush (v := (-6)) hx hb dX3_pullOut_45 (by decide) ?_
        cases hf
        exact g_iret S M hr hlk (by decide) (by decide) dX3_pullOut_47 rfl
    · have hf := it_p c10 hf
      refine lv_bipush (v := (-4)) hx hb dX3_pullOut_34 (by decide) ?_
      cases hf
      exact g_iret S M hr hlk (by decide) (by decide) dX3_pullOut_36 rfl
  · have hf := it_p c5 hf
    refine lv_bipush (v := (-2)) hx hb dX3_pullOut_14 (by decide) ?_
    cases hf
    exact g_iret S M hr hlk (by decide) (by decide) dX3_pullOut_16 rfl
theorem k_X12_takeOut : gMV yX12_takeOut cX12_takeOut 2 (some .int) 1 := ⟨tw_3_73, tw_1_1, by decide⟩
set_option maxHeartbeats 400000 in
set_option maxRecDepth 100000 in
theorem c_X12_takeOut (l : Launch) (hfl : l.stackTraces = false) (G : gT) (sz : Nat) (lo : Int64) (dd : UInt64) (σ : gM) (a1 : Int32) {o : (Int32 × gM) ⊕ (Nat × gM)} (hf : f_X12_takeOut σ a1 = some o) : gCT l yX12_takeOut cX12_takeOut 2 (some .int) { frames := 9, cells := 1, slots := 6, locals := 145 } 1 6 G sz [.ref (G.1 0), .int a1] lo dd σ (got2 mkI o lo dd) := by
  refine gCT_of (by decide) (Nat.le_of_ble_eq_true rfl) (fun p e s m args below meth c ls S hr hlk hnx hsz C0 hl H locs M => ?_)
  subst hsz
  have hx := S.1
  have hb := S.2.1
  unfold f_X12_takeOut at hf
  refine lv_aload_n hx hb dX12_takeOut_0 rfl (lv_at hl 0 rfl) ?_
  refine gf_X12_2 (i := 0) S M (by decide) rfl tw_2_9 dX12_takeOut_1 ?_
  refine lv_aload_n hx hb dX12_takeOut_4 rfl (lv_at hl 0 rfl) ?_
  refine gf_X12_0 (i := 0) S M (by decide) rfl tw_2_7 dX12_takeOut_5 ?_
  obtain ⟨σ2, h1, hf⟩ := bd_x hf
  refine g_callR (st1 := []) (cells' := 0) (slots' := 0) M (g_invV (index := 58) S M C0 hl (c_X7_prepare l G H.size lo dd σ   h1) k_X7_prepare tw_2_40 tw_2_41 tw_2_39 (by decide) (ge_6 rfl) rfl rfl rfl rfl rfl rfl dX12_takeOut_8) rfl rfl rfl (fun H locs M => ?_)
  refine lv_aload_n hx hb dX12_takeOut_11 rfl (lv_at hl 0 rfl) ?_
  refine lv_aload_n hx hb dX12_takeOut_12 rfl (lv_at hl 0 rfl) ?_
  refine gf_X12_0 (i := 0) S M (by decide) rfl tw_2_7 dX12_takeOut_13 ?_
  refine lv_iload_n hx hb dX12_takeOut_16 rfl (lv_at hl 1 rfl) ?_
  obtain ⟨r4, σ5, h3, hf⟩ := bd2_x hf
  refine g_callR (st1 := [.int r4, .ref (G.1 0)]) (cells' := 0) (slots' := 0) M (g_invV (index := 83) S M C0 hl (c_X3_pullOut l G H.size lo dd σ2 a1  h3) k_X3_pullOut tw_3_75 tw_3_76 tw_3_74 (by decide) (ge_1 rfl) rfl rfl rfl rfl rfl rfl dX12_takeOut_17) rfl rfl rfl (fun H locs M => ?_)
  rcases bt2_x hf with ⟨r7, σ8, h6, hf⟩ | ⟨n9, σ8, h6, hf⟩
  · refine g_callR (st1 := [.int r7]) (cells' := 1) (slots' := 6) M (g_invV (index := 66) S M C0 hl (c_X12_recorded l hfl G H.size lo dd σ5 r4  h6) k_X12_recorded tw_2_89 tw_0_0 tw_2_87 (by decide) (ge_0 rfl) rfl rfl rfl rfl rfl rfl dX12_takeOut_20) rfl rfl rfl (fun H locs M => ?_)
    cases hf
    exact g_iret S M hr hlk (by decide) (by decide) dX12_takeOut_23 rfl
  · cases hf
    refine g_runX (cells' := 1) (slots' := 6) M (g_invV (index := 66) S M C0 hl (c_X12_recorded l hfl G H.size lo dd σ5 r4  h6) k_X12_recorded tw_2_89 tw_0_0 tw_2_87 (by decide) (ge_0 rfl) rfl rfl rfl rfl rfl rfl dX12_takeOut_20) rfl rfl (fun ce q H locs M hq hv hcl => ?_)
    exact g_out M hnx hlk hq hv hcl (by decide) (by decide) rfl
theorem k_X11_placeOf : gMV yX11_placeOf cX11_placeOf 2 (some .int) 1 := ⟨tw_3_89, tw_1_6, by decide⟩
set_option maxHeartbeats 400000 in
set_option maxRecDepth 100000 in
theorem c_X11_placeOf (l : Launch) (G : gT) (sz : Nat) (lo : Int64) (dd : UInt64) (σ : gM) (a1 : Int32) {o : Int32} (hf : f_X11_placeOf σ a1 = some o) : gCT l yX11_placeOf cX11_placeOf 2 (some .int) { frames := 0, cells := 0, slots := 0, locals := 0 } 0 0 G sz [.ref (G.1 16), .int a1] lo dd σ (.inl (mkI o, σ, lo, dd)) := by
  refine gCT_of (by decide) (Nat.le_of_ble_eq_true rfl) (fun p e s m args below meth c ls S hr hlk hnx hsz C0 hl H locs M => ?_)
  subst hsz
  have hx := S.1
  have hb := S.2.1
  unfold f_X11_placeOf at hf
  refine lv_aload_n hx hb dX11_placeOf_0 rfl (lv_at hl 0 rfl) ?_
  refine gf_X11_0 (i := 16) S M (by decide) rfl tw_1_123 dX11_placeOf_1 ?_
  refine lv_iload_n hx hb dX11_placeOf_4 rfl (lv_at hl 1 rfl) ?_
  obtain ⟨h1, hf⟩ := gi_x hf
  refine gk_iald (i := 17) (k := a1.toNatClampNeg) S M (by decide) (gaa_3 rfl) h1 rfl dX11_placeOf_5 ?_
  cases hf
  exact g_iret S M hr hlk (by decide) (by decide) dX11_placeOf_6 rfl
theorem k_X9_nearestOpen : gMV yX9_nearestOpen cX9_nearestOpen 3 (some .int) 0 := ⟨tw_3_101, tw_1_3, by decide⟩
set_option maxHeartbeats 400000 in
set_option maxRecDepth 100000 in
theorem w_X9_nearestOpen_L4 {p : Program} {l : Launch} {e : Env} {s : State} {m : MethodId} {args : Array Value} {below : List Frame} {meth : Method} {c : Code} {Q : State → Prop} {G : gT} {lo : Int64} {dd : UInt64} (S : CallFix p m c cX9_nearestOpen 3 s args gTs RX9) (C0 : gCST G (gAA G s.heap.size) s) (σ : gM) : ∀ (n : Nat) (v1 : Int32) (v2 : Int32) (res : Int32), f_X9_nearestOpen_L4 σ n v1 v2 = some res → ∀ (H : Heap) (locs : List Loc) (ls : Array Slot), gMS G (gAA G s.heap.size) lo dd σ s H locs → lv_has ls 3 [(0, .ref (G.1 2)), (1, .int v1), (2, .int v2)] → (k57 : ∀ (u1 : Int32), res = u1 → ∀ (H : Heap) (locs : List Loc) (ls : Array Slot), gMS G (gAA G s.heap.size) lo dd σ s H locs → lv_has ls 3 [(1, .int u1)] → W p l e ({ frames := 0, cells := 0, slots := 0, locals := 0 } : Room) s m args below meth c H locs 0 0 Q (F0 m 57 ls [])) → W p l e ({ frames := 0, cells := 0, slots := 0, locals := 0 } : Room) s m args below meth c H locs 0 0 Q (F0 m 4 ls []) := by
  have hx := S.1
  have hb := S.2.1
  intro n
  induction n with
  | zero =>
    intro v1 v2 res hf
    cases hf
  | succ n ih =>
    intro v1 v2 res hf H locs ls M hl k57
    rw [f_X9_nearestOpen_L4] at hf
    refine lv_iload_n hx hb dX9_nearestOpen_4 rfl (lv_at hl 2 rfl) ?_
    refine lv_bipush (v := 6) hx hb dX9_nearestOpen_5 (by decide) ?_
    refine lv_icmp_ge (tgt := 57) hx hb dX9_nearestOpen_7 (by decide) (fun c1 => ?_) (fun c1 => ?_)
    · have hf := it_p c1 hf
      cases hf
      exact k57 _ rfl _ _ _ M (lv_sub hl [1] rfl)
    · have hf := it_n c1 hf
      refine lv_aload_n hx hb dX9_nearestOpen_10 rfl (lv_at hl 0 rfl) ?_
      refine gf_X9_1 (i := 2) S M (by decide) rfl tw_1_56 dX9_nearestOpen_11 ?_
      refine lv_iload_n hx hb dX9_nearestOpen_14 rfl (lv_at hl 2 rfl) ?_
      obtain ⟨h2, hf⟩ := gi_x hf
      refine gk_iald (i := 4) (k := v2.toNatClampNeg) S M (by decide) (gaa_6 rfl) h2 rfl dX9_nearestOpen_15 ?_
      refine lv_iconst (v := (-1)) hx hb dX9_nearestOpen_16 (by decide) ?_
      refine lv_icmp_eq (tgt := 51) hx hb dX9_nearestOpen_17 (by decide) (fun c3 => ?_) (fun c3 => ?_)
      · have hf := it_p c3 hf
        obtain ⟨x4, ex4, hf⟩ := nm_x hf
        refine lv_iinc (v := x4) (lv' := [(2, .int x4), (0, .ref (G.1 2)), (1, .int v1)]) hx hb dX9_nearestOpen_51 hl (k := 2) rfl (by rw [ex4]; rfl) (by decide) rfl (fun ls hl => ?_)
        refine lv_goto (tgt := 4) hx hb dX9_nearestOpen_54 (by decide) ?_
        exact ih _ _ _ hf _ _ _ M (lv_sub hl [1, 2, 0] rfl) k57
      · have hf := it_n c3 hf
        refine lv_aload_n hx hb dX9_nearestOpen_20 rfl (lv_at hl 0 rfl) ?_
        refine gf_X9_2 (i := 2) S M (by decide) rfl tw_1_57 dX9_nearestOpen_21 ?_
        refine lv_iload_n hx hb dX9_nearestOpen_24 rfl (lv_at hl 2 rfl) ?_
        obtain ⟨h5, hf⟩ := gi_x hf
        refine gk_zald (i := 5) (k := v2.toNatClampNeg) S M (by decide) (gza_6 rfl) h5 rfl dX9_nearestOpen_25 ?_
        refine lv_if_ne (tgt := 51) hx hb dX9_nearestOpen_26 (by decide) (fun c6 => ?_) (fun c6 => ?_)
        · have hf := it_n c6 hf
          obtain ⟨x7, ex7, hf⟩ := nm_x hf
          refine lv_iinc (v := x7) (lv' := [(2, .int x7), (0, .ref (G.1 2)), (1, .int v1)]) hx hb dX9_nearestOpen_51 hl (k := 2) rfl (by rw [ex7]; rfl) (by decide) rfl (fun ls hl => ?_)
          refine lv_goto (tgt := 4) hx hb dX9_nearestOpen_54 (by decide) ?_
          exact ih _ _ _ hf _ _ _ M (lv_sub hl [1, 2, 0] rfl) k57
        · have hf := it_p c6 hf
          refine lv_iload_n hx hb dX9_nearestOpen_29 rfl (lv_at hl 1 rfl) ?_
          refine lv_iconst (v := (-1)) hx hb dX9_nearestOpen_30 (by decide) ?_
          refine lv_icmp_eq (tgt := 49) hx hb dX9_nearestOpen_31 (by decide) (fun c8 => ?_) (fun c8 => ?_)
          · have hf := it_p c8 hf
            refine lv_iload_n hx hb dX9_nearestOpen_49 rfl (lv_at hl 2 rfl) ?_
            refine lv_istore_n (lv' := [(1, .int v2), (0, .ref (G.1 2)), (2, .int v2)]) hx hb dX9_nearestOpen_50 rfl hl (by decide) rfl (fun ls hl => ?_)
            obtain ⟨x9, ex9, hf⟩ := nm_x hf
            refine lv_iinc (v := x9) (lv' := [(2, .int x9), (1, .int v2), (0, .ref (G.1 2))]) hx hb dX9_nearestOpen_51 hl (k := 2) rfl (by rw [ex9]; rfl) (by decide) rfl (fun ls hl => ?_)
            refine lv_goto (tgt := 4) hx hb dX9_nearestOpen_54 (by decide) ?_
            exact ih _ _ _ hf _ _ _ M (lv_sub hl [2, 1, 0] rfl) k57
          · have hf := it_n c8 hf
            refine lv_aload_n hx hb dX9_nearestOpen_34 rfl (lv_at hl 0 rfl) ?_
            refine gf_X9_1 (i := 2) S M (by decide) rfl tw_1_56 dX9_nearestOpen_35 ?_
            refine lv_iload_n hx hb dX9_nearestOpen_38 rfl (lv_at hl 2 rfl) ?_
            obtain ⟨h10, hf⟩ := gi_x hf
            refine gk_iald (i := 4) (k := v2.toNatClampNeg) S M (by decide) (gaa_6 rfl) h10 rfl dX9_nearestOpen_39 ?_
            refine lv_aload_n hx hb dX9_nearestOpen_40 rfl (lv_at hl 0 rfl) ?_
            refine gf_X9_1 (i := 2) S M (by decide) rfl tw_1_56 dX9_nearestOpen_41 ?_
            refine lv_iload_n hx hb dX9_nearestOpen_44 rfl (lv_at hl 1 rfl) ?_
            obtain ⟨h11, hf⟩ := gi_x hf
            refine gk_iald (i := 4) (k := v1.toNatClampNeg) S M (by decide) (gaa_6 rfl) h11 rfl dX9_nearestOpen_45 ?_
            refine lv_icmp_ge (tgt := 51) hx hb dX9_nearestOpen_46 (by decide) (fun c12 => ?_) (fun c12 => ?_)
            · have hf := it_p c12 hf
              obtain ⟨x13, ex13, hf⟩ := nm_x hf
              refine lv_iinc (v := x13) (lv' := [(2, .int x13), (0, .ref (G.1 2)), (1, .int v1)]) hx hb dX9_nearestOpen_51 hl (k := 2) rfl (by rw [ex13]; rfl) (by decide) rfl (fun ls hl => ?_)
              refine lv_goto (tgt := 4) hx hb dX9_nearestOpen_54 (by decide) ?_
              exact ih _ _ _ hf _ _ _ M (lv_sub hl [1, 2, 0] rfl) k57
            · have hf := it_n c12 hf
              refine lv_iload_n hx hb dX9_nearestOpen_49 rfl (lv_at hl 2 rfl) ?_
              refine lv_istore_n (lv' := [(1, .int v2), (0, .ref (G.1 2)), (2, .int v2)]) hx hb dX9_nearestOpen_50 rfl hl (by decide) rfl (fun ls hl => ?_)
              obtain ⟨x14, ex14, hf⟩ := nm_x hf
              refine lv_iinc (v := x14) (lv' := [(2, .int x14), (1, .int v2), (0, .ref (G.1 2))]) hx hb dX9_nearestOpen_51 hl (k := 2) rfl (by rw [ex14]; rfl) (by decide) rfl (fun ls hl => ?_)
              refine lv_goto (tgt := 4) hx hb dX9_nearestOpen_54 (by decide) ?_
              exact ih _ _ _ hf _ _ _ M (lv_sub hl [2, 1, 0] rfl) k57
set_option maxHeartbeats 400000 in
set_option maxRecDepth 100000 in
theorem c_X9_nearestOpen (l : Launch) (G : gT) (sz : Nat) (lo : Int64) (dd : UInt64) (σ : gM) {o : Int32} (hf : f_X9_nearestOpen σ = some o) : gCT l yX9_nearestOpen cX9_nearestOpen 3 (some .int) { frames := 0, cells := 0, slots := 0, locals := 0 } 0 0 G sz [.ref (G.1 2)] lo dd σ (.inl (mkI o, σ, lo, dd)) := by
  refine gCT_of (by decide) (Nat.le_of_ble_eq_true rfl) (fun p e s m args below meth c ls S hr hlk hnx hsz C0 hl H locs M => ?_)
  subst hsz
  have hx := S.1
  have hb := S.2.1
  unfold f_X9_nearestOpen at hf
  refine lv_iconst (v := (-1)) hx hb dX9_nearestOpen_0 (by decide) ?_
  refine lv_istore_n (lv' := [(1, .int (-1)), (0, .ref (G.1 2))]) hx hb dX9_nearestOpen_1 rfl hl (by decide) rfl (fun ls hl => ?_)
  refine lv_iconst (v := 0) hx hb dX9_nearestOpen_2 (by decide) ?_
  refine lv_istore_n (lv' := [(2, .int 0), (1, .int (-1)), (0, .ref (G.1 2))]) hx hb dX9_nearestOpen_3 rfl hl (by decide) rfl (fun ls hl => ?_)
  obtain ⟨y16, h15, hf⟩ := bd_x hf
  refine w_X9_nearestOpen_L4 S C0 σ gFU (-1) 0 _ h15 _ _ _ M (lv_sub hl [2, 1, 0] rfl) (fun _ eq H locs ls M hl => ?_)
  cases eq
  refine lv_iload_n hx hb dX9_nearestOpen_57 rfl (lv_at hl 0 rfl) ?_
  cases hf
  exact g_iret S M hr hlk (by decide) (by decide) dX9_nearestOpen_58 rfl
