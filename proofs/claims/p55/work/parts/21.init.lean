theorem nM_at {G : gT} {a n : Nat} {s : State} {T : List (Nat × va_E)} {H : Heap} {locs : List Loc} (M : nM G a s n T H locs) (i : Nat) (hi : i < 219) (h1 : a ≤ G.1 i) (h2 : G.1 i < n) (h3 : ∀ x ∈ T, x.1 ≠ i) {e : va_E} (he : gent G i 0 0 (σ0 i) (gkd i) = e) : va_at (gtD G) vwCl (G.1 i, e) H := by
  have h := M.2.2.2.2.2.1 i hi h1 h2 h3
  unfold nF at h
  rw [he] at h
  exact h
theorem n_cm0 {kc : Nat} (h : kc < 10) : σ0 (207 + kc) = fun _ => 0 := by
  unfold σ0
  rw [if_neg (by omega), if_neg (by omega)]
/-- an array of references is the one that is asked for, when their first N are -/
theorem n_qx (cA : ClassId) (N : Nat) (f g : Nat → Option Nat) (h : ∀ j, j < N → f j = g j) : vp_cell cA (N, .inr (.inr (.inr (.inr f)))) = vp_cell cA (N, .inr (.inr (.inr (.inr g)))) := by
  rw [vp_cell_q, vp_cell_q]
  unfold arrV
  congr 1
  exact congrArg _ (funext fun j => by show va_rf (f j.val) = va_rf (g j.val); rw [h j.val j.isLt])
theorem n_finq {G : gT} {a n : Nat} {s : State} {T : List (Nat × va_E)} {H : Heap} {locs : List Loc} {j N : Nat} {cA : ClassId} {f g : Nat → Option Nat} (M : nM G a s n ((j, .inl (cA, N, .inr (.inr (.inr (.inr f))))) :: T) H locs) (he : gent G j 0 0 (σ0 j) (gkd j) = .inl (cA, N, .inr (.inr (.inr (.inr g))))) (h : ∀ i, i < N → f i = g i) : nM G a s n T H locs := by
  refine nM.fin (e := .inl (cA, N, .inr (.inr (.inr (.inr g))))) ?_ he
  obtain ⟨h1, h2, h3, h4, h5, h6, h7, h8⟩ := M
  refine ⟨h1, h2, h3, h4, h5, fun i hi ha hlt hx => h6 i hi ha hlt (fun x hx2 => ?_), fun x hx => ?_, h8⟩
  · rcases List.mem_cons.mp hx2 with rfl | h9
    · exact (hx (j, .inl (cA, N, .inr (.inr (.inr (.inr g))))) List.mem_cons_self : j ≠ i)
    · exact hx x (List.mem_cons_of_mem _ h9)
  · rcases List.mem_cons.mp hx with rfl | h9
    · obtain ⟨g1, g2, g3, g4⟩ := h7 _ List.mem_cons_self
      refine ⟨g1, g2, g3, ?_⟩
      show H[G.1 j]? = some (vp_cell _ _)
      rw [← n_qx cA N f g h]
      exact g4
    · exact h7 x (List.mem_cons_of_mem _ h9)
theorem k_X9_init : gMV yX9_init cX9_init 1 none 0 := ⟨tw_1_53, tw_1_3, by decide⟩
set_option maxHeartbeats 1000000 in
set_option maxRecDepth 100000 in
theorem c_X9_init (l : Launch) {b0 : Nat} (G : gT) (hG : nG b0 G) (k : Nat) (hk : k < 11) : nCT l yX9_init cX9_init 1 { frames := 1, cells := 4, slots := 84, locals := 12 } 4 84 G (1 + 18 * k + 1) (.inr (10, [.null, .null, .null, .null, .int 0])) (G.1 (1 + 18 * k) + 6) := by
  refine nCT_of hG (by omega) (by decide) (by decide) (fun p e s m args below meth c ls S hr hlk hin hC hK hl H locs M => ?_)
  have hx := S.1
  have hb := S.2.1
  have en : G.1 (1 + 18 * k + 1) + 1 = G.1 (1 + 18 * k) + 2 := by rw [nG_ds hG hk (by decide)]
  rw [en] at M
  refine lv_aload_n hx hb dX9_init_0 rfl (lv_at hl 0 rfl) ?_
  refine n_obj S hl tw_1_54 tw_1_41 tw_1_42 rfl rfl dX9_init_1 ?_
  refine lv_aload_n hx hb dX9_init_4 rfl (lv_at hl 0 rfl) ?_
  refine lv_bipush (v := 36) hx hb dX9_init_5 (by decide) ?_
  refine n_newa (atype := .int) S hK hG M tw_1_71 0 rfl (a0 := (36, .inl (fun _ => 0))) (fun _ => rfl) (by decide) (by decide) (by decide) (1 + 18 * k + 2) (by omega) (nG_ds hG hk (by decide)) (Nat.le_of_ble_eq_true rfl) (Nat.le_of_ble_eq_true rfl) (cells' := 1) (slots' := 36) rfl rfl dX9_init_7 (fun H M => ?_)
  have M := M.fin (by rw [gaa_36 (gkd_ds hk (by decide)), σ0_ds hk (by decide)])
  refine n_put S hK hG M hin inX9 tyX9 tyX9_ok nmX9 rfl 0 (by decide) tw_1_55 rfl rfl (v := .ref (G.1 (1 + 18 * k + 2))) rfl rfl (Nat.le_of_ble_eq_true rfl) dX9_init_9 (fun H locs M => ?_)
  have M : nM G _ s _ ((1 + 18 * k + 1, .inr (10, [.ref (G.1 (1 + 18 * k + 2)), .null, .null, .null, .int 0])) :: _) H locs := M
  refine lv_aload_n hx hb dX9_init_12 rfl (lv_at hl 0 rfl) ?_
  refine lv_bipush (v := 6) hx hb dX9_init_13 (by decide) ?_
  refine n_newa (atype := .int) S hK hG M tw_1_71 0 rfl (a0 := (6, .inl (fun _ => 0))) (fun _ => rfl) (by decide) (by decide) (by decide) (1 + 18 * k + 3) (by omega) (nG_ds hG hk (by decide)) (Nat.le_of_ble_eq_true rfl) (Nat.le_of_ble_eq_true rfl) (cells' := 2) (slots' := 42) rfl rfl dX9_init_15 (fun H M => ?_)
  have M := M.fin (by rw [gaa_6 (gkd_ds hk (by decide)), σ0_ds hk (by decide)])
  refine n_put S hK hG M hin inX9 tyX9 tyX9_ok nmX9 rfl 1 (by decide) tw_1_56 rfl rfl (v := .ref (G.1 (1 + 18 * k + 3))) rfl rfl (Nat.le_of_ble_eq_true rfl) dX9_init_17 (fun H locs M => ?_)
  have M : nM G _ s _ ((1 + 18 * k + 1, .inr (10, [.ref (G.1 (1 + 18 * k + 2)), .ref (G.1 (1 + 18 * k + 3)), .null, .null, .int 0])) :: _) H locs := M
  refine lv_aload_n hx hb dX9_init_20 rfl (lv_at hl 0 rfl) ?_
  refine lv_bipush (v := 6) hx hb dX9_init_21 (by decide) ?_
  refine n_newa (atype := .boolean) S hK hG M tw_1_72 1 rfl (a0 := (6, .inl (fun _ => 0))) (fun _ => rfl) (by decide) (by decide) (by decide) (1 + 18 * k + 4) (by omega) (nG_ds hG hk (by decide)) (Nat.le_of_ble_eq_true rfl) (Nat.le_of_ble_eq_true rfl) (cells' := 3) (slots' := 48) rfl rfl dX9_init_23 (fun H M => ?_)
  have M := M.fin (by rw [gza_6 (gkd_ds hk (by decide)), σ0_ds hk (by decide)])
  refine n_put S hK hG M hin inX9 tyX9 tyX9_ok nmX9 rfl 2 (by decide) tw_1_57 rfl rfl (v := .ref (G.1 (1 + 18 * k + 4))) rfl rfl (Nat.le_of_ble_eq_true rfl) dX9_init_25 (fun H locs M => ?_)
  have M : nM G _ s _ ((1 + 18 * k + 1, .inr (10, [.ref (G.1 (1 + 18 * k + 2)), .ref (G.1 (1 + 18 * k + 3)), .ref (G.1 (1 + 18 * k + 4)), .null, .int 0])) :: _) H locs := M
  refine lv_aload_n hx hb dX9_init_28 rfl (lv_at hl 0 rfl) ?_
  refine lv_bipush (v := 36) hx hb dX9_init_29 (by decide) ?_
  refine n_newa (atype := .int) S hK hG M tw_1_71 0 rfl (a0 := (36, .inl (fun _ => 0))) (fun _ => rfl) (by decide) (by decide) (by decide) (1 + 18 * k + 5) (by omega) (nG_ds hG hk (by decide)) (Nat.le_of_ble_eq_true rfl) (Nat.le_of_ble_eq_true rfl) (cells' := 4) (slots' := 84) rfl rfl dX9_init_31 (fun H M => ?_)
  have M := M.fin (by rw [gaa_36 (gkd_ds hk (by decide)), σ0_ds hk (by decide)])
  refine n_put S hK hG M hin inX9 tyX9 tyX9_ok nmX9 rfl 3 (by decide) tw_1_58 rfl rfl (v := .ref (G.1 (1 + 18 * k + 5))) rfl rfl (Nat.le_of_ble_eq_true rfl) dX9_init_33 (fun H locs M => ?_)
  have M : nM G _ s _ ((1 + 18 * k + 1, .inr (10, [.ref (G.1 (1 + 18 * k + 2)), .ref (G.1 (1 + 18 * k + 3)), .ref (G.1 (1 + 18 * k + 4)), .ref (G.1 (1 + 18 * k + 5)), .int 0])) :: _) H locs := M
  refine lv_aload_n hx hb dX9_init_36 rfl (lv_at hl 0 rfl) ?_
  refine lv_iconst (v := 0) hx hb dX9_init_37 (by decide) ?_
  refine n_put S hK hG M hin inX9 tyX9 tyX9_ok nmX9 rfl 4 (by decide) tw_1_59 rfl rfl (v := .int 0) rfl rfl (Nat.le_of_ble_eq_true rfl) dX9_init_38 (fun H locs M => ?_)
  have M : nM G _ s _ ((1 + 18 * k + 1, .inr (10, [.ref (G.1 (1 + 18 * k + 2)), .ref (G.1 (1 + 18 * k + 3)), .ref (G.1 (1 + 18 * k + 4)), .ref (G.1 (1 + 18 * k + 5)), .int 0])) :: _) H locs := M
  have M := M.fin (by rw [ge_2 (gkd_ds hk (by decide)), σ0_ds hk (by decide)])
  exact n_ret S hr hlk M (by decide) (by decide) dX9_init_41
theorem k_X8_init : gMV yX8_init cX8_init 1 none 0 := ⟨tw_1_77, tw_1_4, by decide⟩
set_option maxHeartbeats 1000000 in
set_option maxRecDepth 100000 in
theorem c_X8_init (l : Launch) {b0 : Nat} (G : gT) (hG : nG b0 G) (k : Nat) (hk : k < 11) : nCT l yX8_init cX8_init 1 { frames := 1, cells := 5, slots := 60, locals := 12 } 5 60 G (1 + 18 * k + 6) (.inr (9, [.null, .null, .null, .null, .null, .int 0])) (G.1 (1 + 18 * k) + 12) := by
  refine nCT_of hG (by omega) (by decide) (by decide) (fun p e s m args below meth c ls S hr hlk hin hC hK hl H locs M => ?_)
  have hx := S.1
  have hb := S.2.1
  have en : G.1 (1 + 18 * k + 6) + 1 = G.1 (1 + 18 * k) + 7 := by rw [nG_ds hG hk (by decide)]
  rw [en] at M
  refine lv_aload_n hx hb dX8_init_0 rfl (lv_at hl 0 rfl) ?_
  refine n_obj S hl tw_1_78 tw_1_41 tw_1_42 rfl rfl dX8_init_1 ?_
  refine lv_aload_n hx hb dX8_init_4 rfl (lv_at hl 0 rfl) ?_
  refine lv_bipush (v := 12) hx hb dX8_init_5 (by decide) ?_
  refine n_newa (atype := .int) S hK hG M tw_1_71 0 rfl (a0 := (12, .inl (fun _ => 0))) (fun _ => rfl) (by decide) (by decide) (by decide) (1 + 18 * k + 7) (by omega) (nG_ds hG hk (by decide)) (Nat.le_of_ble_eq_true rfl) (Nat.le_of_ble_eq_true rfl) (cells' := 1) (slots' := 12) rfl rfl dX8_init_7 (fun H M => ?_)
  have M := M.fin (by rw [gaa_12 (gkd_ds hk (by decide)), σ0_ds hk (by decide)])
  refine n_put S hK hG M hin inX8 tyX8 tyX8_ok nmX8 rfl 0 (by decide) tw_1_79 rfl rfl (v := .ref (G.1 (1 + 18 * k + 7))) rfl rfl (Nat.le_of_ble_eq_true rfl) dX8_init_9 (fun H locs M => ?_)
  have M : nM G _ s _ ((1 + 18 * k + 6, .inr (9, [.ref (G.1 (1 + 18 * k + 7)), .null, .null, .null, .null, .int 0])) :: _) H locs := M
  refine lv_aload_n hx hb dX8_init_12 rfl (lv_at hl 0 rfl) ?_
  refine lv_bipush (v := 12) hx hb dX8_init_13 (by decide) ?_
  refine n_newa (atype := .int) S hK hG M tw_1_71 0 rfl (a0 := (12, .inl (fun _ => 0))) (fun _ => rfl) (by decide) (by decide) (by decide) (1 + 18 * k + 8) (by omega) (nG_ds hG hk (by decide)) (Nat.le_of_ble_eq_true rfl) (Nat.le_of_ble_eq_true rfl) (cells' := 2) (slots' := 24) rfl rfl dX8_init_15 (fun H M => ?_)
  have M := M.fin (by rw [gaa_12 (gkd_ds hk (by decide)), σ0_ds hk (by decide)])
  refine n_put S hK hG M hin inX8 tyX8 tyX8_ok nmX8 rfl 1 (by decide) tw_1_80 rfl rfl (v := .ref (G.1 (1 + 18 * k + 8))) rfl rfl (Nat.le_of_ble_eq_true rfl) dX8_init_17 (fun H locs M => ?_)
  have M : nM G _ s _ ((1 + 18 * k + 6, .inr (9, [.ref (G.1 (1 + 18 * k + 7)), .ref (G.1 (1 + 18 * k + 8)), .null, .null, .null, .int 0])) :: _) H locs := M
  refine lv_aload_n hx hb dX8_init_20 rfl (lv_at hl 0 rfl) ?_
  refine lv_bipush (v := 12) hx hb dX8_init_21 (by decide) ?_
  refine n_newa (atype := .int) S hK hG M tw_1_71 0 rfl (a0 := (12, .inl (fun _ => 0))) (fun _ => rfl) (by decide) (by decide) (by decide) (1 + 18 * k + 9) (by omega) (nG_ds hG hk (by decide)) (Nat.le_of_ble_eq_true rfl) (Nat.le_of_ble_eq_true rfl) (cells' := 3) (slots' := 36) rfl rfl dX8_init_23 (fun H M => ?_)
  have M := M.fin (by rw [gaa_12 (gkd_ds hk (by decide)), σ0_ds hk (by decide)])
  refine n_put S hK hG M hin inX8 tyX8 tyX8_ok nmX8 rfl 2 (by decide) tw_1_81 rfl rfl (v := .ref (G.1 (1 + 18 * k + 9))) rfl rfl (Nat.le_of_ble_eq_true rfl) dX8_init_25 (fun H locs M => ?_)
  have M : nM G _ s _ ((1 + 18 * k + 6, .inr (9, [.ref (G.1 (1 + 18 * k + 7)), .ref (G.1 (1 + 18 * k + 8)), .ref (G.1 (1 + 18 * k + 9)), .null, .null, .int 0])) :: _) H locs := M
  refine lv_aload_n hx hb dX8_init_28 rfl (lv_at hl 0 rfl) ?_
  refine lv_bipush (v := 12) hx hb dX8_init_29 (by decide) ?_
  refine n_newa (atype := .int) S hK hG M tw_1_71 0 rfl (a0 := (12, .inl (fun _ => 0))) (fun _ => rfl) (by decide) (by decide) (by decide) (1 + 18 * k + 10) (by omega) (nG_ds hG hk (by decide)) (Nat.le_of_ble_eq_true rfl) (Nat.le_of_ble_eq_true rfl) (cells' := 4) (slots' := 48) rfl rfl dX8_init_31 (fun H M => ?_)
  have M := M.fin (by rw [gaa_12 (gkd_ds hk (by decide)), σ0_ds hk (by decide)])
  refine n_put S hK hG M hin inX8 tyX8 tyX8_ok nmX8 rfl 3 (by decide) tw_1_82 rfl rfl (v := .ref (G.1 (1 + 18 * k + 10))) rfl rfl (Nat.le_of_ble_eq_true rfl) dX8_init_33 (fun H locs M => ?_)
  have M : nM G _ s _ ((1 + 18 * k + 6, .inr (9, [.ref (G.1 (1 + 18 * k + 7)), .ref (G.1 (1 + 18 * k + 8)), .ref (G.1 (1 + 18 * k + 9)), .ref (G.1 (1 + 18 * k + 10)), .null, .int 0])) :: _) H locs := M
  refine lv_aload_n hx hb dX8_init_36 rfl (lv_at hl 0 rfl) ?_
  refine lv_bipush (v := 12) hx hb dX8_init_37 (by decide) ?_
  refine n_newa (atype := .int) S hK hG M tw_1_71 0 rfl (a0 := (12, .inl (fun _ => 0))) (fun _ => rfl) (by decide) (by decide) (by decide) (1 + 18 * k + 11) (by omega) (nG_ds hG hk (by decide)) (Nat.le_of_ble_eq_true rfl) (Nat.le_of_ble_eq_true rfl) (cells' := 5) (slots' := 60) rfl rfl dX8_init_39 (fun H M => ?_)
  have M := M.fin (by rw [gaa_12 (gkd_ds hk (by decide)), σ0_ds hk (by decide)])
  refine n_put S hK hG M hin inX8 tyX8 tyX8_ok nmX8 rfl 4 (by decide) tw_1_83 rfl rfl (v := .ref (G.1 (1 + 18 * k + 11))) rfl rfl (Nat.le_of_ble_eq_true rfl) dX8_init_41 (fun H locs M => ?_)
  have M : nM G _ s _ ((1 + 18 * k + 6, .inr (9, [.ref (G.1 (1 + 18 * k + 7)), .ref (G.1 (1 + 18 * k + 8)), .ref (G.1 (1 + 18 * k + 9)), .ref (G.1 (1 + 18 * k + 10)), .ref (G.1 (1 + 18 * k + 11)), .int 0])) :: _) H locs := M
  refine lv_aload_n hx hb dX8_init_44 rfl (lv_at hl 0 rfl) ?_
  refine lv_iconst (v := 0) hx hb dX8_init_45 (by decide) ?_
  refine n_put S hK hG M hin inX8 tyX8 tyX8_ok nmX8 rfl 5 (by decide) tw_1_84 rfl rfl (v := .int 0) rfl rfl (Nat.le_of_ble_eq_true rfl) dX8_init_46 (fun H locs M => ?_)
  have M : nM G _ s _ ((1 + 18 * k + 6, .inr (9, [.ref (G.1 (1 + 18 * k + 7)), .ref (G.1 (1 + 18 * k + 8)), .ref (G.1 (1 + 18 * k + 9)), .ref (G.1 (1 + 18 * k + 10)), .ref (G.1 (1 + 18 * k + 11)), .int 0])) :: _) H locs := M
  have M := M.fin (by rw [ge_3 (gkd_ds hk (by decide)), σ0_ds hk (by decide)])
  exact n_ret S hr hlk M (by decide) (by decide) dX8_init_49
theorem k_X6_init : gMV yX6_init cX6_init 1 none 0 := ⟨tw_1_102, tw_1_5, by decide⟩
set_option maxHeartbeats 1000000 in
set_option maxRecDepth 100000 in
theorem c_X6_init (l : Launch) {b0 : Nat} (G : gT) (hG : nG b0 G) (k : Nat) (hk : k < 11) : nCT l yX6_init cX6_init 1 { frames := 1, cells := 2, slots := 16, locals := 12 } 2 16 G (1 + 18 * k + 12) (.inr (7, [.null, .null, .int 0, .int 0])) (G.1 (1 + 18 * k) + 15) := by
  refine nCT_of hG (by omega) (by decide) (by decide) (fun p e s m args below meth c ls S hr hlk hin hC hK hl H locs M => ?_)
  have hx := S.1
  have hb := S.2.1
  have en : G.1 (1 + 18 * k + 12) + 1 = G.1 (1 + 18 * k) + 13 := by rw [nG_ds hG hk (by decide)]
  rw [en] at M
  refine lv_aload_n hx hb dX6_init_0 rfl (lv_at hl 0 rfl) ?_
  refine n_obj S hl tw_1_103 tw_1_41 tw_1_42 rfl rfl dX6_init_1 ?_
  refine lv_aload_n hx hb dX6_init_4 rfl (lv_at hl 0 rfl) ?_
  refine lv_bipush (v := 8) hx hb dX6_init_5 (by decide) ?_
  refine n_newa (atype := .int) S hK hG M tw_1_71 0 rfl (a0 := (8, .inl (fun _ => 0))) (fun _ => rfl) (by decide) (by decide) (by decide) (1 + 18 * k + 13) (by omega) (nG_ds hG hk (by decide)) (Nat.le_of_ble_eq_true rfl) (Nat.le_of_ble_eq_true rfl) (cells' := 1) (slots' := 8) rfl rfl dX6_init_7 (fun H M => ?_)
  have M := M.fin (by rw [gaa_8 (gkd_ds hk (by decide)), σ0_ds hk (by decide)])
  refine n_put S hK hG M hin inX6 tyX6 tyX6_ok nmX6 rfl 0 (by decide) tw_1_104 rfl rfl (v := .ref (G.1 (1 + 18 * k + 13))) rfl rfl (Nat.le_of_ble_eq_true rfl) dX6_init_9 (fun H locs M => ?_)
  have M : nM G _ s _ ((1 + 18 * k + 12, .inr (7, [.ref (G.1 (1 + 18 * k + 13)), .null, .int 0, .int 0])) :: _) H locs := M
  refine lv_aload_n hx hb dX6_init_12 rfl (lv_at hl 0 rfl) ?_
  refine lv_bipush (v := 8) hx hb dX6_init_13 (by decide) ?_
  refine n_newa (atype := .int) S hK hG M tw_1_71 0 rfl (a0 := (8, .inl (fun _ => 0))) (fun _ => rfl) (by decide) (by decide) (by decide) (1 + 18 * k + 14) (by omega) (nG_ds hG hk (by decide)) (Nat.le_of_ble_eq_true rfl) (Nat.le_of_ble_eq_true rfl) (cells' := 2) (slots' := 16) rfl rfl dX6_init_15 (fun H M => ?_)
  have M := M.fin (by rw [gaa_8 (gkd_ds hk (by decide)), σ0_ds hk (by decide)])
  refine n_put S hK hG M hin inX6 tyX6 tyX6_ok nmX6 rfl 1 (by decide) tw_1_105 rfl rfl (v := .ref (G.1 (1 + 18 * k + 14))) rfl rfl (Nat.le_of_ble_eq_true rfl) dX6_init_17 (fun H locs M => ?_)
  have M : nM G _ s _ ((1 + 18 * k + 12, .inr (7, [.ref (G.1 (1 + 18 * k + 13)), .ref (G.1 (1 + 18 * k + 14)), .int 0, .int 0])) :: _) H locs := M
  refine lv_aload_n hx hb dX6_init_20 rfl (lv_at hl 0 rfl) ?_
  refine lv_iconst (v := 0) hx hb dX6_init_21 (by decide) ?_
  refine n_put S hK hG M hin inX6 tyX6 tyX6_ok nmX6 rfl 2 (by decide) tw_1_106 rfl rfl (v := .int 0) rfl rfl (Nat.le_of_ble_eq_true rfl) dX6_init_22 (fun H locs M => ?_)
  have M : nM G _ s _ ((1 + 18 * k + 12, .inr (7, [.ref (G.1 (1 + 18 * k + 13)), .ref (G.1 (1 + 18 * k + 14)), .int 0, .int 0])) :: _) H locs := M
  refine lv_aload_n hx hb dX6_init_25 rfl (lv_at hl 0 rfl) ?_
  refine lv_iconst (v := 0) hx hb dX6_init_26 (by decide) ?_
  refine n_put S hK hG M hin inX6 tyX6 tyX6_ok nmX6 rfl 3 (by decide) tw_1_107 rfl rfl (v := .int 0) rfl rfl (Nat.le_of_ble_eq_true rfl) dX6_init_27 (fun H locs M => ?_)
  have M : nM G _ s _ ((1 + 18 * k + 12, .inr (7, [.ref (G.1 (1 + 18 * k + 13)), .ref (G.1 (1 + 18 * k + 14)), .int 0, .int 0])) :: _) H locs := M
  have M := M.fin (by rw [ge_4 (gkd_ds hk (by decide)), σ0_ds hk (by decide)])
  exact n_ret S hr hlk M (by decide) (by decide) dX6_init_30
theorem k_X11_init : gMV yX11_init cX11_init 2 none 0 := ⟨tw_1_121, tw_1_6, by decide⟩
set_option maxHeartbeats 1000000 in
set_option maxRecDepth 100000 in
theorem c_X11_init (l : Launch) {b0 : Nat} (G : gT) (hG : nG b0 G) (k : Nat) (hk : k < 11) : nCT l yX11_init cX11_init 2 { frames := 1, cells := 2, slots := 6, locals := 12 } 2 6 G (1 + 18 * k + 15) (.inr (12, [.null, .null, .int 0])) (G.1 (1 + 18 * k) + 18) := by
  refine nCT_of hG (by omega) (by decide) (by decide) (fun p e s m args below meth c ls S hr hlk hin hC hK hl H locs M => ?_)
  have hx := S.1
  have hb := S.2.1
  have en : G.1 (1 + 18 * k + 15) + 1 = G.1 (1 + 18 * k) + 16 := by rw [nG_ds hG hk (by decide)]
  rw [en] at M
  refine lv_aload_n hx hb dX11_init_0 rfl (lv_at hl 0 rfl) ?_
  refine n_obj S hl tw_1_122 tw_1_41 tw_1_42 rfl rfl dX11_init_1 ?_
  refine lv_aload_n hx hb dX11_init_4 rfl (lv_at hl 0 rfl) ?_
  refine lv_iconst (v := 3) hx hb dX11_init_5 (by decide) ?_
  refine n_newa (atype := .int) S hK hG M tw_1_71 0 rfl (a0 := (3, .inl (fun _ => 0))) (fun _ => rfl) (by decide) (by decide) (by decide) (1 + 18 * k + 16) (by omega) (nG_ds hG hk (by decide)) (Nat.le_of_ble_eq_true rfl) (Nat.le_of_ble_eq_true rfl) (cells' := 1) (slots' := 3) rfl rfl dX11_init_6 (fun H M => ?_)
  have M := M.fin (by rw [gaa_3 (gkd_ds hk (by decide)), σ0_ds hk (by decide)])
  refine n_put S hK hG M hin inX11 tyX11 tyX11_ok nmX11 rfl 0 (by decide) tw_1_123 rfl rfl (v := .ref (G.1 (1 + 18 * k + 16))) rfl rfl (Nat.le_of_ble_eq_true rfl) dX11_init_8 (fun H locs M => ?_)
  have M : nM G _ s _ ((1 + 18 * k + 15, .inr (12, [.ref (G.1 (1 + 18 * k + 16)), .null, .int 0])) :: _) H locs := M
  refine lv_aload_n hx hb dX11_init_11 rfl (lv_at hl 0 rfl) ?_
  refine lv_iconst (v := 3) hx hb dX11_init_12 (by decide) ?_
  refine n_newa (atype := .int) S hK hG M tw_1_71 0 rfl (a0 := (3, .inl (fun _ => 0))) (fun _ => rfl) (by decide) (by decide) (by decide) (1 + 18 * k + 17) (by omega) (nG_ds hG hk (by decide)) (Nat.le_of_ble_eq_true rfl) (Nat.le_of_ble_eq_true rfl) (cells' := 2) (slots' := 6) rfl rfl dX11_init_13 (fun H M => ?_)
  have M := nM.swap M
  refine n_put S hK hG M hin inX11 tyX11 tyX11_ok nmX11 rfl 1 (by decide) tw_1_124 rfl rfl (v := .ref (G.1 (1 + 18 * k + 17))) rfl rfl (Nat.le_of_ble_eq_true rfl) dX11_init_15 (fun H locs M => ?_)
  have M : nM G _ s _ ((1 + 18 * k + 15, .inr (12, [.ref (G.1 (1 + 18 * k + 16)), .ref (G.1 (1 + 18 * k + 17)), .int 0])) :: _) H locs := M
  refine lv_aload_n hx hb dX11_init_18 rfl (lv_at hl 0 rfl) ?_
  refine lv_iconst (v := 0) hx hb dX11_init_19 (by decide) ?_
  refine n_put S hK hG M hin inX11 tyX11 tyX11_ok nmX11 rfl 2 (by decide) tw_1_125 rfl rfl (v := .int 0) rfl rfl (Nat.le_of_ble_eq_true rfl) dX11_init_20 (fun H locs M => ?_)
  have M : nM G _ s _ ((1 + 18 * k + 15, .inr (12, [.ref (G.1 (1 + 18 * k + 16)), .ref (G.1 (1 + 18 * k + 17)), .int 0])) :: _) H locs := M
  refine lv_iconst (v := 0) hx hb dX11_init_23 (by decide) ?_
  refine lv_istore_n (lv' := [(1, .int 0), (0, .ref (G.1 (1 + 18 * k + 15)))]) hx hb dX11_init_24 rfl hl (by decide) rfl (fun ls hl => ?_)
  refine lv_iload_n hx hb dX11_init_25 rfl (lv_at hl 0 rfl) ?_
  refine lv_iconst (v := 3) hx hb dX11_init_26 (by decide) ?_
  refine lv_icmp_ge (tgt := 44) hx hb dX11_init_27 (by decide) (fun c1 => absurd c1 (by decide)) (fun c1 => ?_)
  refine lv_aload_n hx hb dX11_init_30 rfl (lv_at hl 1 rfl) ?_
  have M := nM.swap M
  refine n_getr S hK M inX11 rfl 1 (by decide) tw_1_124 rfl rfl dX11_init_31 ?_
  refine lv_iload_n hx hb dX11_init_34 rfl (lv_at hl 0 rfl) ?_
  refine lv_bipush (v := 30) hx hb dX11_init_35 (by decide) ?_
  refine n_iast S hK hG M (by unfold vp_in; decide) (k := 0) (by decide) dX11_init_37 (fun H locs M => ?_)
  refine lv_iinc (v := 1) (lv' := [(1, .int 1), (0, .ref (G.1 (1 + 18 * k + 15)))]) hx hb dX11_init_38 hl (k := 0) rfl (by decide) (by decide) rfl (fun ls hl => ?_)
  refine lv_goto (tgt := 25) hx hb dX11_init_41 (by decide) ?_
  refine lv_iload_n hx hb dX11_init_25 rfl (lv_at hl 0 rfl) ?_
  refine lv_iconst (v := 3) hx hb dX11_init_26 (by decide) ?_
  refine lv_icmp_ge (tgt := 44) hx hb dX11_init_27 (by decide) (fun c1 => absurd c1 (by decide)) (fun c1 => ?_)
  refine lv_aload_n hx hb dX11_init_30 rfl (lv_at hl 1 rfl) ?_
  refine n_getr S hK M inX11 rfl 1 (by decide) tw_1_124 rfl rfl dX11_init_31 ?_
  refine lv_iload_n hx hb dX11_init_34 rfl (lv_at hl 0 rfl) ?_
  refine lv_bipush (v := 30) hx hb dX11_init_35 (by decide) ?_
  refine n_iast S hK hG M (by unfold vp_in; decide) (k := 1) (by decide) dX11_init_37 (fun H locs M => ?_)
  refine lv_iinc (v := 2) (lv' := [(1, .int 2), (0, .ref (G.1 (1 + 18 * k + 15)))]) hx hb dX11_init_38 hl (k := 0) rfl (by decide) (by decide) rfl (fun ls hl => ?_)
  refine lv_goto (tgt := 25) hx hb dX11_init_41 (by decide) ?_
  refine lv_iload_n hx hb dX11_init_25 rfl (lv_at hl 0 rfl) ?_
  refine lv_iconst (v := 3) hx hb dX11_init_26 (by decide) ?_
  refine lv_icmp_ge (tgt := 44) hx hb dX11_init_27 (by decide) (fun c1 => absurd c1 (by decide)) (fun c1 => ?_)
  refine lv_aload_n hx hb dX11_init_30 rfl (lv_at hl 1 rfl) ?_
  refine n_getr S hK M inX11 rfl 1 (by decide) tw_1_124 rfl rfl dX11_init_31 ?_
  refine lv_iload_n hx hb dX11_init_34 rfl (lv_at hl 0 rfl) ?_
  refine lv_bipush (v := 30) hx hb dX11_init_35 (by decide) ?_
  refine n_iast S hK hG M (by unfold vp_in; decide) (k := 2) (by decide) dX11_init_37 (fun H locs M => ?_)
  refine lv_iinc (v := 3) (lv' := [(1, .int 3), (0, .ref (G.1 (1 + 18 * k + 15)))]) hx hb dX11_init_38 hl (k := 0) rfl (by decide) (by decide) rfl (fun ls hl => ?_)
  refine lv_goto (tgt := 25) hx hb dX11_init_41 (by decide) ?_
  refine lv_iload_n hx hb dX11_init_25 rfl (lv_at hl 0 rfl) ?_
  refine lv_iconst (v := 3) hx hb dX11_init_26 (by decide) ?_
  refine lv_icmp_ge (tgt := 44) hx hb dX11_init_27 (by decide) (fun c1 => ?_) (fun c1 => absurd c1 (by decide))
  have M := M.fin (by rw [gaa_3 (gkd_ds hk (by decide)), σ0_cap hk]; rfl)
  have M := M.fin (by rw [ge_5 (gkd_ds hk (by decide)), σ0_ds hk (by decide)])
  exact n_ret S hr hlk M (by decide) (by decide) dX11_init_44
theorem k_X3_init : gMV yX3_init cX3_init 1 none 0 := ⟨tw_1_47, tw_1_2, by decide⟩
set_option maxHeartbeats 1000000 in
set_option maxRecDepth 100000 in
theorem c_X3_init (l : Launch) {b0 : Nat} (G : gT) (hG : nG b0 G) (k : Nat) (hk : k < 11) : nCT l yX3_init cX3_init 1 { frames := 2, cells := 17, slots := 184, locals := 33 } 17 184 G (1 + 18 * k) (.inr (5, [.null, .null, .null, .null])) (G.1 (1 + 18 * k) + 18) := by
  refine nCT_of hG (by omega) (by decide) (by decide) (fun p e s m args below meth c ls S hr hlk hin hC hK hl H locs M => ?_)
  have hx := S.1
  have hb := S.2.1
  have en : G.1 (1 + 18 * k) + 1 = G.1 (1 + 18 * k) + 1 := rfl
  rw [en] at M
  refine lv_aload_n hx hb dX3_init_0 rfl (lv_at hl 0 rfl) ?_
  refine n_obj S hl tw_1_48 tw_1_41 tw_1_42 rfl rfl dX3_init_1 ?_
  refine lv_aload_n hx hb dX3_init_4 rfl (lv_at hl 0 rfl) ?_
  refine n_new S hK hG M inX9 tyX9 tyX9_ok tw_1_49 tw_1_50 tw_1_3 (ci := 10) (fs := [.null, .null, .null, .null, .int 0]) rfl (fun j hj => by rcases (show j = 0 ∨ j = 1 ∨ j = 2 ∨ j = 3 ∨ j = 4 by omega) with rfl | rfl | rfl | rfl | rfl <;> rfl) (1 + 18 * k + 1) (by omega) (nG_ds hG hk (by decide)) (Nat.le_of_ble_eq_true rfl) (Nat.le_of_ble_eq_true rfl) (cells' := 1) (slots' := 5) rfl rfl dX3_init_5 (fun H M => ?_)
  refine lv_dup hx hb dX3_init_8 rfl ?_
  refine n_initN (host := "ParcelDepot") S hC hK hG hl M (c_X9_init l G hG k hk) (by rw [nG_ds hG hk (by decide)]) k_X9_init tw_1_52 (by decide +kernel) rfl rfl rfl (cells' := 5) (slots' := 89) rfl rfl dX3_init_9 (fun H locs M => ?_)
  have M : nM G _ s (G.1 (1 + 18 * k) + 6) _ H locs := M
  refine n_put S hK hG M hin inX3 tyX3 tyX3_ok nmX3 rfl 0 (by decide) tw_1_133 rfl rfl (v := .ref (G.1 (1 + 18 * k + 1))) rfl rfl (Nat.le_of_ble_eq_true rfl) dX3_init_12 (fun H locs M => ?_)
  have M : nM G _ s _ ((1 + 18 * k, .inr (5, [.ref (G.1 (1 + 18 * k + 1)), .null, .null, .null])) :: _) H locs := M
  refine lv_aload_n hx hb dX3_init_15 rfl (lv_at hl 0 rfl) ?_
  refine n_new S hK hG M inX8 tyX8 tyX8_ok tw_1_73 tw_1_74 tw_1_4 (ci := 9) (fs := [.null, .null, .null, .null, .null, .int 0]) rfl (fun j hj => by rcases (show j = 0 ∨ j = 1 ∨ j = 2 ∨ j = 3 ∨ j = 4 ∨ j = 5 by omega) with rfl | rfl | rfl | rfl | rfl | rfl <;> rfl) (1 + 18 * k + 6) (by omega) (nG_ds hG hk (by decide)) (Nat.le_of_ble_eq_true rfl) (Nat.le_of_ble_eq_true rfl) (cells' := 6) (slots' := 95) rfl rfl dX3_init_16 (fun H M => ?_)
  refine lv_dup hx hb dX3_init_19 rfl ?_
  refine n_initN (host := "ParcelDepot") S hC hK hG hl M (c_X8_init l G hG k hk) (by rw [nG_ds hG hk (by decide)]) k_X8_init tw_1_76 (by decide +kernel) rfl rfl rfl (cells' := 11) (slots' := 155) rfl rfl dX3_init_20 (fun H locs M => ?_)
  have M : nM G _ s (G.1 (1 + 18 * k) + 12) _ H locs := M
  refine n_put S hK hG M hin inX3 tyX3 tyX3_ok nmX3 rfl 1 (by decide) tw_1_135 rfl rfl (v := .ref (G.1 (1 + 18 * k + 6))) rfl rfl (Nat.le_of_ble_eq_true rfl) dX3_init_23 (fun H locs M => ?_)
  have M : nM G _ s _ ((1 + 18 * k, .inr (5, [.ref (G.1 (1 + 18 * k + 1)), .ref (G.1 (1 + 18 * k + 6)), .null, .null])) :: _) H locs := M
  refine lv_aload_n hx hb dX3_init_26 rfl (lv_at hl 0 rfl) ?_
  refine n_new S hK hG M inX6 tyX6 tyX6_ok tw_1_98 tw_1_99 tw_1_5 (ci := 7) (fs := [.null, .null, .int 0, .int 0]) rfl (fun j hj => by rcases (show j = 0 ∨ j = 1 ∨ j = 2 ∨ j = 3 by omega) with rfl | rfl | rfl | rfl <;> rfl) (1 + 18 * k + 12) (by omega) (nG_ds hG hk (by decide)) (Nat.le_of_ble_eq_true rfl) (Nat.le_of_ble_eq_true rfl) (cells' := 12) (slots' := 159) rfl rfl dX3_init_27 (fun H M => ?_)
  refine lv_dup hx hb dX3_init_30 rfl ?_
  refine n_initN (host := "ParcelDepot") S hC hK hG hl M (c_X6_init l G hG k hk) (by rw [nG_ds hG hk (by decide)]) k_X6_init tw_1_101 (by decide +kernel) rfl rfl rfl (cells' := 14) (slots' := 175) rfl rfl dX3_init_31 (fun H locs M => ?_)
  have M : nM G _ s (G.1 (1 + 18 * k) + 15) _ H locs := M
  refine n_put S hK hG M hin inX3 tyX3 tyX3_ok nmX3 rfl 2 (by decide) tw_1_139 rfl rfl (v := .ref (G.1 (1 + 18 * k + 12))) rfl rfl (Nat.le_of_ble_eq_true rfl) dX3_init_34 (fun H locs M => ?_)
  have M : nM G _ s _ ((1 + 18 * k, .inr (5, [.ref (G.1 (1 + 18 * k + 1)), .ref (G.1 (1 + 18 * k + 6)), .ref (G.1 (1 + 18 * k + 12)), .null])) :: _) H locs := M
  refine lv_aload_n hx hb dX3_init_37 rfl (lv_at hl 0 rfl) ?_
  refine n_new S hK hG M inX11 tyX11 tyX11_ok tw_1_117 tw_1_118 tw_1_6 (ci := 12) (fs := [.null, .null, .int 0]) rfl (fun j hj => by rcases (show j = 0 ∨ j = 1 ∨ j = 2 by omega) with rfl | rfl | rfl <;> rfl) (1 + 18 * k + 15) (by omega) (nG_ds hG hk (by decide)) (Nat.le_of_ble_eq_true rfl) (Nat.le_of_ble_eq_true rfl) (cells' := 15) (slots' := 178) rfl rfl dX3_init_38 (fun H M => ?_)
  refine lv_dup hx hb dX3_init_41 rfl ?_
  refine n_initS S hC hK hG hl M (c_X11_init l G hG k hk) (by rw [nG_ds hG hk (by decide)]) k_X11_init tw_1_120 tw_1_119 rfl rfl rfl (cells' := 17) (slots' := 184) rfl rfl dX3_init_42 (fun H locs M => ?_)
  have M : nM G _ s (G.1 (1 + 18 * k) + 18) _ H locs := M
  refine n_put S hK hG M hin inX3 tyX3 tyX3_ok nmX3 rfl 3 (by decide) tw_1_142 rfl rfl (v := .ref (G.1 (1 + 18 * k + 15))) rfl rfl (Nat.le_of_ble_eq_true rfl) dX3_init_45 (fun H locs M => ?_)
  have M : nM G _ s _ ((1 + 18 * k, .inr (5, [.ref (G.1 (1 + 18 * k + 1)), .ref (G.1 (1 + 18 * k + 6)), .ref (G.1 (1 + 18 * k + 12)), .ref (G.1 (1 + 18 * k + 15))])) :: _) H locs := M
  have M := M.fin (ge_1 (i := 1 + 18 * k) (gkd_ds (j := 0) hk (by decide)))
  exact n_ret S hr hlk M (by decide) (by decide) dX3_init_48
theorem k_X7_init : gMV yX7_init cX7_init 2 none 0 := ⟨tw_1_158, tw_1_7, by decide⟩
set_option maxHeartbeats 1000000 in
set_option maxRecDepth 100000 in
theorem c_X7_init (l : Launch) {b0 : Nat} (G : gT) (hG : nG b0 G) : nCT l yX7_init cX7_init 2 { frames := 3, cells := 163, slots := 1701, locals := 53 } 163 1701 G (199) (.inr (8, [.null, .int 0, .int 0])) (b0 + 201) := by
  refine nCT_of hG (by decide) (by decide) (by decide) (fun p e s m args below meth c ls S hr hlk hin hC hK hl H locs M => ?_)
  have hx := S.1
  have hb := S.2.1
  have en : G.1 (199) + 1 = b0 + 38 := by rw [hG _ (by decide)]; rfl
  rw [en] at M
  refine lv_aload_n hx hb dX7_init_0 rfl (lv_at hl 0 rfl) ?_
  refine n_obj S hl tw_1_159 tw_1_41 tw_1_42 rfl rfl dX7_init_1 ?_
  refine lv_aload_n hx hb dX7_init_4 rfl (lv_at hl 0 rfl) ?_
  refine lv_bipush (v := 9) hx hb dX7_init_5 (by decide) ?_
  refine n_newq S hK hG M tw_1_160 hC.2.2.1 3 rfl (N' := 9) (by decide) (by decide) (by decide) (200) (by decide) (hG _ (by decide)) (Nat.le_of_ble_eq_true rfl) (Nat.le_of_ble_eq_true rfl) (cells' := 1) (slots' := 9) rfl rfl dX7_init_7 (fun H M => ?_)
  have M := nM.swap M
  refine n_put S hK hG M hin inX7 tyX7 tyX7_ok nmX7 rfl 0 (by decide) tw_1_163 rfl rfl (v := .ref (G.1 (200))) rfl rfl (Nat.le_of_ble_eq_true rfl) dX7_init_10 (fun H locs M => ?_)
  have M : nM G _ s _ ((199, .inr (8, [.ref (G.1 (200)), .int 0, .int 0])) :: _) H locs := M
  refine lv_aload_n hx hb dX7_init_13 rfl (lv_at hl 0 rfl) ?_
  refine lv_iconst (v := 0) hx hb dX7_init_14 (by decide) ?_
  refine n_put S hK hG M hin inX7 tyX7 tyX7_ok nmX7 rfl 1 (by decide) tw_1_164 rfl rfl (v := .int 0) rfl rfl (Nat.le_of_ble_eq_true rfl) dX7_init_15 (fun H locs M => ?_)
  have M : nM G _ s _ ((199, .inr (8, [.ref (G.1 (200)), .int 0, .int 0])) :: _) H locs := M
  refine lv_aload_n hx hb dX7_init_18 rfl (lv_at hl 0 rfl) ?_
  refine lv_iconst (v := 0) hx hb dX7_init_19 (by decide) ?_
  refine n_put S hK hG M hin inX7 tyX7 tyX7_ok nmX7 rfl 2 (by decide) tw_1_165 rfl rfl (v := .int 0) rfl rfl (Nat.le_of_ble_eq_true rfl) dX7_init_20 (fun H locs M => ?_)
  have M : nM G _ s _ ((199, .inr (8, [.ref (G.1 (200)), .int 0, .int 0])) :: _) H locs := M
  refine lv_iconst (v := 0) hx hb dX7_init_23 (by decide) ?_
  refine lv_istore_n (lv' := [(1, .int 0), (0, .ref (G.1 (199)))]) hx hb dX7_init_24 rfl hl (by decide) rfl (fun ls hl => ?_)
  refine lv_iload_n hx hb dX7_init_25 rfl (lv_at hl 0 rfl) ?_
  refine lv_bipush (v := 9) hx hb dX7_init_26 (by decide) ?_
  refine lv_icmp_ge (tgt := 50) hx hb dX7_init_28 (by decide) (fun c1 => absurd c1 (by decide)) (fun c1 => ?_)
  refine lv_aload_n hx hb dX7_init_31 rfl (lv_at hl 1 rfl) ?_
  have M := nM.swap M
  refine n_getr S hK M inX7 rfl 0 (by decide) tw_1_163 rfl rfl dX7_init_32 ?_
  refine lv_iload_n hx hb dX7_init_35 rfl (lv_at hl 0 rfl) ?_
  refine n_new S hK hG M inX3 tyX3 tyX3_ok tw_1_160 tw_1_44 tw_1_2 (ci := 5) (fs := [.null, .null, .null, .null]) rfl (fun j hj => by rcases (show j = 0 ∨ j = 1 ∨ j = 2 ∨ j = 3 by omega) with rfl | rfl | rfl | rfl <;> rfl) (37) (by decide) (hG _ (by decide)) (Nat.le_of_ble_eq_true rfl) (Nat.le_of_ble_eq_true rfl) (cells' := 2) (slots' := 13) rfl rfl dX7_init_36 (fun H M => ?_)
  refine lv_dup hx hb dX7_init_39 rfl ?_
  refine n_initN (host := "ParcelDepot") S hC hK hG hl M (c_X3_init l G hG 2 (by decide)) (by rw [hG _ (by decide)]; rfl) k_X3_init tw_1_46 (by decide +kernel) rfl rfl rfl (cells' := 19) (slots' := 197) rfl rfl dX7_init_40 (fun H locs M => ?_)
  rw [hG (1 + 18 * 2) (by decide)] at M
  have M : nM G _ s (b0 + 57) _ H locs := M
  have hv : va_at (gtD G) vwCl (G.1 37, .inr (5, _)) H := nM_at M 37 (by decide) (by rw [hG _ (by decide), hG _ (by decide)]; exact Nat.add_le_add_left (by decide) _) (by rw [hG _ (by decide)]; exact Nat.add_lt_add_left (by decide) _) (by intro x hx; simp only [List.mem_cons, List.not_mem_nil, or_false] at hx; rcases hx with rfl | rfl; exact (by decide : (200 : Nat) ≠ 37); exact (by decide : (199 : Nat) ≠ 37)) (ge_1 rfl)
  refine n_aast S hK hG M (t := 3) rfl hv rfl (by unfold vp_in; decide) (k := 0) (by decide) dX7_init_43 (fun H locs M => ?_)
  refine lv_iinc (v := 1) (lv' := [(1, .int 1), (0, .ref (G.1 (199)))]) hx hb dX7_init_44 hl (k := 0) rfl (by decide) (by decide) rfl (fun ls hl => ?_)
  refine lv_goto (tgt := 25) hx hb dX7_init_47 (by decide) ?_
  refine lv_iload_n hx hb dX7_init_25 rfl (lv_at hl 0 rfl) ?_
  refine lv_bipush (v := 9) hx hb dX7_init_26 (by decide) ?_
  refine lv_icmp_ge (tgt := 50) hx hb dX7_init_28 (by decide) (fun c1 => absurd c1 (by decide)) (fun c1 => ?_)
  refine lv_aload_n hx hb dX7_init_31 rfl (lv_at hl 1 rfl) ?_
  refine n_getr S hK M inX7 rfl 0 (by decide) tw_1_163 rfl rfl dX7_init_32 ?_
  refine lv_iload_n hx hb dX7_init_35 rfl (lv_at hl 0 rfl) ?_
  refine n_new S hK hG M inX3 tyX3 tyX3_ok tw_1_160 tw_1_44 tw_1_2 (ci := 5) (fs := [.null, .null, .null, .null]) rfl (fun j hj => by rcases (show j = 0 ∨ j = 1 ∨ j = 2 ∨ j = 3 by omega) with rfl | rfl | rfl | rfl <;> rfl) (55) (by decide) (hG _ (by decide)) (Nat.le_of_ble_eq_true rfl) (Nat.le_of_ble_eq_true rfl) (cells' := 20) (slots' := 201) rfl rfl dX7_init_36 (fun H M => ?_)
  refine lv_dup hx hb dX7_init_39 rfl ?_
  refine n_initN (host := "ParcelDepot") S hC hK hG hl M (c_X3_init l G hG 3 (by decide)) (by rw [hG _ (by decide)]; rfl) k_X3_init tw_1_46 (by decide +kernel) rfl rfl rfl (cells' := 37) (slots' := 385) rfl rfl dX7_init_40 (fun H locs M => ?_)
  rw [hG (1 + 18 * 3) (by decide)] at M
  have M : nM G _ s (b0 + 75) _ H locs := M
  have hv : va_at (gtD G) vwCl (G.1 55, .inr (5, _)) H := nM_at M 55 (by decide) (by rw [hG _ (by decide), hG _ (by decide)]; exact Nat.add_le_add_left (by decide) _) (by rw [hG _ (by decide)]; exact Nat.add_lt_add_left (by decide) _) (by intro x hx; simp only [List.mem_cons, List.not_mem_nil, or_false] at hx; rcases hx with rfl | rfl; exact (by decide : (200 : Nat) ≠ 55); exact (by decide : (199 : Nat) ≠ 55)) (ge_1 rfl)
  refine n_aast S hK hG M (t := 3) rfl hv rfl (by unfold vp_in; decide) (k := 1) (by decide) dX7_init_43 (fun H locs M => ?_)
  refine lv_iinc (v := 2) (lv' := [(1, .int 2), (0, .ref (G.1 (199)))]) hx hb dX7_init_44 hl (k := 0) rfl (by decide) (by decide) rfl (fun ls hl => ?_)
  refine lv_goto (tgt := 25) hx hb dX7_init_47 (by decide) ?_
  refine lv_iload_n hx hb dX7_init_25 rfl (lv_at hl 0 rfl) ?_
  refine lv_bipush (v := 9) hx hb dX7_init_26 (by decide) ?_
  refine lv_icmp_ge (tgt := 50) hx hb dX7_init_28 (by decide) (fun c1 => absurd c1 (by decide)) (fun c1 => ?_)
  refine lv_aload_n hx hb dX7_init_31 rfl (lv_at hl 1 rfl) ?_
  refine n_getr S hK M inX7 rfl 0 (by decide) tw_1_163 rfl rfl dX7_init_32 ?_
  refine lv_iload_n hx hb dX7_init_35 rfl (lv_at hl 0 rfl) ?_
  refine n_new S hK hG M inX3 tyX3 tyX3_ok tw_1_160 tw_1_44 tw_1_2 (ci := 5) (fs := [.null, .null, .null, .null]) rfl (fun j hj => by rcases (show j = 0 ∨ j = 1 ∨ j = 2 ∨ j = 3 by omega) with rfl | rfl | rfl | rfl <;> rfl) (73) (by decide) (hG _ (by decide)) (Nat.le_of_ble_eq_true rfl) (Nat.le_of_ble_eq_true rfl) (cells' := 38) (slots' := 389) rfl rfl dX7_init_36 (fun H M => ?_)
  refine lv_dup hx hb dX7_init_39 rfl ?_
  refine n_initN (host := "ParcelDepot") S hC hK hG hl M (c_X3_init l G hG 4 (by decide)) (by rw [hG _ (by decide)]; rfl) k_X3_init tw_1_46 (by decide +kernel) rfl rfl rfl (cells' := 55) (slots' := 573) rfl rfl dX7_init_40 (fun H locs M => ?_)
  rw [hG (1 + 18 * 4) (by decide)] at M
  have M : nM G _ s (b0 + 93) _ H locs := M
  have hv : va_at (gtD G) vwCl (G.1 73, .inr (5, _)) H := nM_at M 73 (by decide) (by rw [hG _ (by decide), hG _ (by decide)]; exact Nat.add_le_add_left (by decide) _) (by rw [hG _ (by decide)]; exact Nat.add_lt_add_left (by decide) _) (by intro x hx; simp only [List.mem_cons, List.not_mem_nil, or_false] at hx; rcases hx with rfl | rfl; exact (by decide : (200 : Nat) ≠ 73); exact (by decide : (199 : Nat) ≠ 73)) (ge_1 rfl)
  refine n_aast S hK hG M (t := 3) rfl hv rfl (by unfold vp_in; decide) (k := 2) (by decide) dX7_init_43 (fun H locs M => ?_)
  refine lv_iinc (v := 3) (lv' := [(1, .int 3), (0, .ref (G.1 (199)))]) hx hb dX7_init_44 hl (k := 0) rfl (by decide) (by decide) rfl (fun ls hl => ?_)
  refine lv_goto (tgt := 25) hx hb dX7_init_47 (by decide) ?_
  refine lv_iload_n hx hb dX7_init_25 rfl (lv_at hl 0 rfl) ?_
  refine lv_bipush (v := 9) hx hb dX7_init_26 (by decide) ?_
  refine lv_icmp_ge (tgt := 50) hx hb dX7_init_28 (by decide) (fun c1 => absurd c1 (by decide)) (fun c1 => ?_)
  refine lv_aload_n hx hb dX7_init_31 rfl (lv_at hl 1 rfl) ?_
  refine n_getr S hK M inX7 rfl 0 (by decide) tw_1_163 rfl rfl dX7_init_32 ?_
  refine lv_iload_n hx hb dX7_init_35 rfl (lv_at hl 0 rfl) ?_
  refine n_new S hK hG M inX3 tyX3 tyX3_ok tw_1_160 tw_1_44 tw_1_2 (ci := 5) (fs := [.null, .null, .null, .null]) rfl (fun j hj => by rcases (show j = 0 ∨ j = 1 ∨ j = 2 ∨ j = 3 by omega) with rfl | rfl | rfl | rfl <;> rfl) (91) (by decide) (hG _ (by decide)) (Nat.le_of_ble_eq_true rfl) (Nat.le_of_ble_eq_true rfl) (cells' := 56) (slots' := 577) rfl rfl dX7_init_36 (fun H M => ?_)
  refine lv_dup hx hb dX7_init_39 rfl ?_
  refine n_initN (host := "ParcelDepot") S hC hK hG hl M (c_X3_init l G hG 5 (by decide)) (by rw [hG _ (by decide)]; rfl) k_X3_init tw_1_46 (by decide +kernel) rfl rfl rfl (cells' := 73) (slots' := 761) rfl rfl dX7_init_40 (fun H locs M => ?_)
  rw [hG (1 + 18 * 5) (by decide)] at M
  have M : nM G _ s (b0 + 111) _ H locs := M
  have hv : va_at (gtD G) vwCl (G.1 91, .inr (5, _)) H := nM_at M 91 (by decide) (by rw [hG _ (by decide), hG _ (by decide)]; exact Nat.add_le_add_left (by decide) _) (by rw [hG _ (by decide)]; exact Nat.add_lt_add_left (by decide) _) (by intro x hx; simp only [List.mem_cons, List.not_mem_nil, or_false] at hx; rcases hx with rfl | rfl; exact (by decide : (200 : Nat) ≠ 91); exact (by decide : (199 : Nat) ≠ 91)) (ge_1 rfl)
  refine n_aast S hK hG M (t := 3) rfl hv rfl (by unfold vp_in; decide) (k := 3) (by decide) dX7_init_43 (fun H locs M => ?_)
  refine lv_iinc (v := 4) (lv' := [(1, .int 4), (0, .ref (G.1 (199)))]) hx hb dX7_init_44 hl (k := 0) rfl (by decide) (by decide) rfl (fun ls hl => ?_)
  refine lv_goto (tgt := 25) hx hb dX7_init_47 (by decide) ?_
  refine lv_iload_n hx hb dX7_init_25 rfl (lv_at hl 0 rfl) ?_
  refine lv_bipush (v := 9) hx hb dX7_init_26 (by decide) ?_
  refine lv_icmp_ge (tgt := 50) hx hb dX7_init_28 (by decide) (fun c1 => absurd c1 (by decide)) (fun c1 => ?_)
  refine lv_aload_n hx hb dX7_init_31 rfl (lv_at hl 1 rfl) ?_
  refine n_getr S hK M inX7 rfl 0 (by decide) tw_1_163 rfl rfl dX7_init_32 ?_
  refine lv_iload_n hx hb dX7_init_35 rfl (lv_at hl 0 rfl) ?_
  refine n_new S hK hG M inX3 tyX3 tyX3_ok tw_1_160 tw_1_44 tw_1_2 (ci := 5) (fs := [.null, .null, .null, .null]) rfl (fun j hj => by rcases (show j = 0 ∨ j = 1 ∨ j = 2 ∨ j = 3 by omega) with rfl | rfl | rfl | rfl <;> rfl) (109) (by decide) (hG _ (by decide)) (Nat.le_of_ble_eq_true rfl) (Nat.le_of_ble_eq_true rfl) (cells' := 74) (slots' := 765) rfl rfl dX7_init_36 (fun H M => ?_)
  refine lv_dup hx hb dX7_init_39 rfl ?_
  refine n_initN (host := "ParcelDepot") S hC hK hG hl M (c_X3_init l G hG 6 (by decide)) (by rw [hG _ (by decide)]; rfl) k_X3_init tw_1_46 (by decide +kernel) rfl rfl rfl (cells' := 91) (slots' := 949) rfl rfl dX7_init_40 (fun H locs M => ?_)
  rw [hG (1 + 18 * 6) (by decide)] at M
  have M : nM G _ s (b0 + 129) _ H locs := M
  have hv : va_at (gtD G) vwCl (G.1 109, .inr (5, _)) H := nM_at M 109 (by decide) (by rw [hG _ (by decide), hG _ (by decide)]; exact Nat.add_le_add_left (by decide) _) (by rw [hG _ (by decide)]; exact Nat.add_lt_add_left (by decide) _) (by intro x hx; simp only [List.mem_cons, List.not_mem_nil, or_false] at hx; rcases hx with rfl | rfl; exact (by decide : (200 : Nat) ≠ 109); exact (by decide : (199 : Nat) ≠ 109)) (ge_1 rfl)
  refine n_aast S hK hG M (t := 3) rfl hv rfl (by unfold vp_in; decide) (k := 4) (by decide) dX7_init_43 (fun H locs M => ?_)
  refine lv_iinc (v := 5) (lv' := [(1, .int 5), (0, .ref (G.1 (199)))]) hx hb dX7_init_44 hl (k := 0) rfl (by decide) (by decide) rfl (fun ls hl => ?_)
  refine lv_goto (tgt := 25) hx hb dX7_init_47 (by decide) ?_
  refine lv_iload_n hx hb dX7_init_25 rfl (lv_at hl 0 rfl) ?_
  refine lv_bipush (v := 9) hx hb dX7_init_26 (by decide) ?_
  refine lv_icmp_ge (tgt := 50) hx hb dX7_init_28 (by decide) (fun c1 => absurd c1 (by decide)) (fun c1 => ?_)
  refine lv_aload_n hx hb dX7_init_31 rfl (lv_at hl 1 rfl) ?_
  refine n_getr S hK M inX7 rfl 0 (by decide) tw_1_163 rfl rfl dX7_init_32 ?_
  refine lv_iload_n hx hb dX7_init_35 rfl (lv_at hl 0 rfl) ?_
  refine n_new S hK hG M inX3 tyX3 tyX3_ok tw_1_160 tw_1_44 tw_1_2 (ci := 5) (fs := [.null, .null, .null, .null]) rfl (fun j hj => by rcases (show j = 0 ∨ j = 1 ∨ j = 2 ∨ j = 3 by omega) with rfl | rfl | rfl | rfl <;> rfl) (127) (by decide) (hG _ (by decide)) (Nat.le_of_ble_eq_true rfl) (Nat.le_of_ble_eq_true rfl) (cells' := 92) (slots' := 953) rfl rfl dX7_init_36 (fun H M => ?_)
  refine lv_dup hx hb dX7_init_39 rfl ?_
  refine n_initN (host := "ParcelDepot") S hC hK hG hl M (c_X3_init l G hG 7 (by decide)) (by rw [hG _ (by decide)]; rfl) k_X3_init tw_1_46 (by decide +kernel) rfl rfl rfl (cells' := 109) (slots' := 1137) rfl rfl dX7_init_40 (fun H locs M => ?_)
  rw [hG (1 + 18 * 7) (by decide)] at M
  have M : nM G _ s (b0 + 147) _ H locs := M
  have hv : va_at (gtD G) vwCl (G.1 127, .inr (5, _)) H := nM_at M 127 (by decide) (by rw [hG _ (by decide), hG _ (by decide)]; exact Nat.add_le_add_left (by decide) _) (by rw [hG _ (by decide)]; exact Nat.add_lt_add_left (by decide) _) (by intro x hx; simp only [List.mem_cons, List.not_mem_nil, or_false] at hx; rcases hx with rfl | rfl; exact (by decide : (200 : Nat) ≠ 127); exact (by decide : (199 : Nat) ≠ 127)) (ge_1 rfl)
  refine n_aast S hK hG M (t := 3) rfl hv rfl (by unfold vp_in; decide) (k := 5) (by decide) dX7_init_43 (fun H locs M => ?_)
  refine lv_iinc (v := 6) (lv' := [(1, .int 6), (0, .ref (G.1 (199)))]) hx hb dX7_init_44 hl (k := 0) rfl (by decide) (by decide) rfl (fun ls hl => ?_)
  refine lv_goto (tgt := 25) hx hb dX7_init_47 (by decide) ?_
  refine lv_iload_n hx hb dX7_init_25 rfl (lv_at hl 0 rfl) ?_
  refine lv_bipush (v := 9) hx hb dX7_init_26 (by decide) ?_
  refine lv_icmp_ge (tgt := 50) hx hb dX7_init_28 (by decide) (fun c1 => absurd c1 (by decide)) (fun c1 => ?_)
  refine lv_aload_n hx hb dX7_init_31 rfl (lv_at hl 1 rfl) ?_
  refine n_getr S hK M inX7 rfl 0 (by decide) tw_1_163 rfl rfl dX7_init_32 ?_
  refine lv_iload_n hx hb dX7_init_35 rfl (lv_at hl 0 rfl) ?_
  refine n_new S hK hG M inX3 tyX3 tyX3_ok tw_1_160 tw_1_44 tw_1_2 (ci := 5) (fs := [.null, .null, .null, .null]) rfl (fun j hj => by rcases (show j = 0 ∨ j = 1 ∨ j = 2 ∨ j = 3 by omega) with rfl | rfl | rfl | rfl <;> rfl) (145) (by decide) (hG _ (by decide)) (Nat.le_of_ble_eq_true rfl) (Nat.le_of_ble_eq_true rfl) (cells' := 110) (slots' := 1141) rfl rfl dX7_init_36 (fun H M => ?_)
  refine lv_dup hx hb dX7_init_39 rfl ?_
  refine n_initN (host := "ParcelDepot") S hC hK hG hl M (c_X3_init l G hG 8 (by decide)) (by rw [hG _ (by decide)]; rfl) k_X3_init tw_1_46 (by decide +kernel) rfl rfl rfl (cells' := 127) (slots' := 1325) rfl rfl dX7_init_40 (fun H locs M => ?_)
  rw [hG (1 + 18 * 8) (by decide)] at M
  have M : nM G _ s (b0 + 165) _ H locs := M
  have hv : va_at (gtD G) vwCl (G.1 145, .inr (5, _)) H := nM_at M 145 (by decide) (by rw [hG _ (by decide), hG _ (by decide)]; exact Nat.add_le_add_left (by decide) _) (by rw [hG _ (by decide)]; exact Nat.add_lt_add_left (by decide) _) (by intro x hx; simp only [List.mem_cons, List.not_mem_nil, or_false] at hx; rcases hx with rfl | rfl; exact (by decide : (200 : Nat) ≠ 145); exact (by decide : (199 : Nat) ≠ 145)) (ge_1 rfl)
  refine n_aast S hK hG M (t := 3) rfl hv rfl (by unfold vp_in; decide) (k := 6) (by decide) dX7_init_43 (fun H locs M => ?_)
  refine lv_iinc (v := 7) (lv' := [(1, .int 7), (0, .ref (G.1 (199)))]) hx hb dX7_init_44 hl (k := 0) rfl (by decide) (by decide) rfl (fun ls hl => ?_)
  refine lv_goto (tgt := 25) hx hb dX7_init_47 (by decide) ?_
  refine lv_iload_n hx hb dX7_init_25 rfl (lv_at hl 0 rfl) ?_
  refine lv_bipush (v := 9) hx hb dX7_init_26 (by decide) ?_
  refine lv_icmp_ge (tgt := 50) hx hb dX7_init_28 (by decide) (fun c1 => absurd c1 (by decide)) (fun c1 => ?_)
  refine lv_aload_n hx hb dX7_init_31 rfl (lv_at hl 1 rfl) ?_
  refine n_getr S hK M inX7 rfl 0 (by decide) tw_1_163 rfl rfl dX7_init_32 ?_
  refine lv_iload_n hx hb dX7_init_35 rfl (lv_at hl 0 rfl) ?_
  refine n_new S hK hG M inX3 tyX3 tyX3_ok tw_1_160 tw_1_44 tw_1_2 (ci := 5) (fs := [.null, .null, .null, .null]) rfl (fun j hj => by rcases (show j = 0 ∨ j = 1 ∨ j = 2 ∨ j = 3 by omega) with rfl | rfl | rfl | rfl <;> rfl) (163) (by decide) (hG _ (by decide)) (Nat.le_of_ble_eq_true rfl) (Nat.le_of_ble_eq_true rfl) (cells' := 128) (slots' := 1329) rfl rfl dX7_init_36 (fun H M => ?_)
  refine lv_dup hx hb dX7_init_39 rfl ?_
  refine n_initN (host := "ParcelDepot") S hC hK hG hl M (c_X3_init l G hG 9 (by decide)) (by rw [hG _ (by decide)]; rfl) k_X3_init tw_1_46 (by decide +kernel) rfl rfl rfl (cells' := 145) (slots' := 1513) rfl rfl dX7_init_40 (fun H locs M => ?_)
  rw [hG (1 + 18 * 9) (by decide)] at M
  have M : nM G _ s (b0 + 183) _ H locs := M
  have hv : va_at (gtD G) vwCl (G.1 163, .inr (5, _)) H := nM_at M 163 (by decide) (by rw [hG _ (by decide), hG _ (by decide)]; exact Nat.add_le_add_left (by decide) _) (by rw [hG _ (by decide)]; exact Nat.add_lt_add_left (by decide) _) (by intro x hx; simp only [List.mem_cons, List.not_mem_nil, or_false] at hx; rcases hx with rfl | rfl; exact (by decide : (200 : Nat) ≠ 163); exact (by decide : (199 : Nat) ≠ 163)) (ge_1 rfl)
  refine n_aast S hK hG M (t := 3) rfl hv rfl (by unfold vp_in; decide) (k := 7) (by decide) dX7_init_43 (fun H locs M => ?_)
  refine lv_iinc (v := 8) (lv' := [(1, .int 8), (0, .ref (G.1 (199)))]) hx hb dX7_init_44 hl (k := 0) rfl (by decide) (by decide) rfl (fun ls hl => ?_)
  refine lv_goto (tgt := 25) hx hb dX7_init_47 (by decide) ?_
  refine lv_iload_n hx hb dX7_init_25 rfl (lv_at hl 0 rfl) ?_
  refine lv_bipush (v := 9) hx hb dX7_init_26 (by decide) ?_
  refine lv_icmp_ge (tgt := 50) hx hb dX7_init_28 (by decide) (fun c1 => absurd c1 (by decide)) (fun c1 => ?_)
  refine lv_aload_n hx hb dX7_init_31 rfl (lv_at hl 1 rfl) ?_
  refine n_getr S hK M inX7 rfl 0 (by decide) tw_1_163 rfl rfl dX7_init_32 ?_
  refine lv_iload_n hx hb dX7_init_35 rfl (lv_at hl 0 rfl) ?_
  refine n_new S hK hG M inX3 tyX3 tyX3_ok tw_1_160 tw_1_44 tw_1_2 (ci := 5) (fs := [.null, .null, .null, .null]) rfl (fun j hj => by rcases (show j = 0 ∨ j = 1 ∨ j = 2 ∨ j = 3 by omega) with rfl | rfl | rfl | rfl <;> rfl) (181) (by decide) (hG _ (by decide)) (Nat.le_of_ble_eq_true rfl) (Nat.le_of_ble_eq_true rfl) (cells' := 146) (slots' := 1517) rfl rfl dX7_init_36 (fun H M => ?_)
  refine lv_dup hx hb dX7_init_39 rfl ?_
  refine n_initN (host := "ParcelDepot") S hC hK hG hl M (c_X3_init l G hG 10 (by decide)) (by rw [hG _ (by decide)]; rfl) k_X3_init tw_1_46 (by decide +kernel) rfl rfl rfl (cells' := 163) (slots' := 1701) rfl rfl dX7_init_40 (fun H locs M => ?_)
  rw [hG (1 + 18 * 10) (by decide)] at M
  have M : nM G _ s (b0 + 201) _ H locs := M
  have hv : va_at (gtD G) vwCl (G.1 181, .inr (5, _)) H := nM_at M 181 (by decide) (by rw [hG _ (by decide), hG _ (by decide)]; exact Nat.add_le_add_left (by decide) _) (by rw [hG _ (by decide)]; exact Nat.add_lt_add_left (by decide) _) (by intro x hx; simp only [List.mem_cons, List.not_mem_nil, or_false] at hx; rcases hx with rfl | rfl; exact (by decide : (200 : Nat) ≠ 181); exact (by decide : (199 : Nat) ≠ 181)) (ge_1 rfl)
  refine n_aast S hK hG M (t := 3) rfl hv rfl (by unfold vp_in; decide) (k := 8) (by decide) dX7_init_43 (fun H locs M => ?_)
  refine lv_iinc (v := 9) (lv' := [(1, .int 9), (0, .ref (G.1 (199)))]) hx hb dX7_init_44 hl (k := 0) rfl (by decide) (by decide) rfl (fun ls hl => ?_)
  refine lv_goto (tgt := 25) hx hb dX7_init_47 (by decide) ?_
  refine lv_iload_n hx hb dX7_init_25 rfl (lv_at hl 0 rfl) ?_
  refine lv_bipush (v := 9) hx hb dX7_init_26 (by decide) ?_
  refine lv_icmp_ge (tgt := 50) hx hb dX7_init_28 (by decide) (fun c1 => ?_) (fun c1 => absurd c1 (by decide))
  have M := n_finq M rfl (fun i hi => by rcases (show i = 0 ∨ i = 1 ∨ i = 2 ∨ i = 3 ∨ i = 4 ∨ i = 5 ∨ i = 6 ∨ i = 7 ∨ i = 8 by omega) with rfl | rfl | rfl | rfl | rfl | rfl | rfl | rfl | rfl <;> rfl)
  have M := M.fin (by rw [ge_6 rfl] <;> rfl)
  exact n_ret S hr hlk M (by decide) (by decide) dX7_init_50
theorem k_X4_init : gMV yX4_init cX4_init 1 none 0 := ⟨tw_1_177, tw_1_8, by decide⟩
set_option maxHeartbeats 1000000 in
set_option maxRecDepth 100000 in
theorem c_X4_init (l : Launch) {b0 : Nat} (G : gT) (hG : nG b0 G) : nCT l yX4_init cX4_init 1 { frames := 1, cells := 2, slots := 65, locals := 12 } 2 65 G (201) (.inr (6, [.null, .null])) (b0 + 204) := by
  refine nCT_of hG (by decide) (by decide) (by decide) (fun p e s m args below meth c ls S hr hlk hin hC hK hl H locs M => ?_)
  have hx := S.1
  have hb := S.2.1
  have en : G.1 (201) + 1 = b0 + 202 := by rw [hG _ (by decide)]; rfl
  rw [en] at M
  refine lv_aload_n hx hb dX4_init_0 rfl (lv_at hl 0 rfl) ?_
  refine n_obj S hl tw_1_178 tw_1_41 tw_1_42 rfl rfl dX4_init_1 ?_
  refine lv_aload_n hx hb dX4_init_4 rfl (lv_at hl 0 rfl) ?_
  refine lv_iconst (v := 4) hx hb dX4_init_5 (by decide) ?_
  refine n_newa (atype := .int) S hK hG M tw_1_71 0 rfl (a0 := (4, .inl (fun _ => 0))) (fun _ => rfl) (by decide) (by decide) (by decide) (202) (by decide) (hG _ (by decide)) (Nat.le_of_ble_eq_true rfl) (Nat.le_of_ble_eq_true rfl) (cells' := 1) (slots' := 4) rfl rfl dX4_init_6 (fun H M => ?_)
  have M := M.fin (by rw [gaa_4 rfl] <;> rfl)
  refine n_put S hK hG M hin inX4 tyX4 tyX4_ok nmX4 rfl 0 (by decide) tw_1_179 rfl rfl (v := .ref (G.1 (202))) rfl rfl (Nat.le_of_ble_eq_true rfl) dX4_init_8 (fun H locs M => ?_)
  have M : nM G _ s _ ((201, .inr (6, [.ref (G.1 (202)), .null])) :: _) H locs := M
  refine lv_aload_n hx hb dX4_init_11 rfl (lv_at hl 0 rfl) ?_
  refine lv_bipush (v := 61) hx hb dX4_init_12 (by decide) ?_
  refine n_newa (atype := .int) S hK hG M tw_1_71 0 rfl (a0 := (61, .inl (fun _ => 0))) (fun _ => rfl) (by decide) (by decide) (by decide) (203) (by decide) (hG _ (by decide)) (Nat.le_of_ble_eq_true rfl) (Nat.le_of_ble_eq_true rfl) (cells' := 2) (slots' := 65) rfl rfl dX4_init_14 (fun H M => ?_)
  have M := M.fin (by rw [gaa_61 rfl] <;> rfl)
  refine n_put S hK hG M hin inX4 tyX4 tyX4_ok nmX4 rfl 1 (by decide) tw_1_180 rfl rfl (v := .ref (G.1 (203))) rfl rfl (Nat.le_of_ble_eq_true rfl) dX4_init_16 (fun H locs M => ?_)
  have M : nM G _ s _ ((201, .inr (6, [.ref (G.1 (202)), .ref (G.1 (203))])) :: _) H locs := M
  have M := M.fin (by rw [ge_8 rfl] <;> rfl)
  exact n_ret S hr hlk M (by decide) (by decide) dX4_init_19
theorem k_X1_init : gMV yX1_init cX1_init 1 none 0 := ⟨tw_1_197, tw_1_10, by decide⟩
set_option maxHeartbeats 1000000 in
set_option maxRecDepth 100000 in
theorem c_X1_init (l : Launch) {b0 : Nat} (G : gT) (hG : nG b0 G) (kc : Nat) (hkc : kc < 10) : nCT l yX1_init cX1_init 1 { frames := 1, cells := 0, slots := 0, locals := 12 } 0 0 G (207 + kc) (.inr (3, [.null, .int 0, .int 0, .int 0])) (b0 + (207 + kc + 1)) := by
  refine nCT_of hG (by omega) (by decide) (by decide) (fun p e s m args below meth c ls S hr hlk hin hC hK hl H locs M => ?_)
  have hx := S.1
  have hb := S.2.1
  have en : G.1 (207 + kc) + 1 = b0 + (207 + kc + 1) := by rw [hG _ (by omega)]; unfold gpi; split <;> (try split) <;> (try split) <;> omega
  rw [en] at M
  refine lv_aload_n hx hb dX1_init_0 rfl (lv_at hl 0 rfl) ?_
  refine n_obj S hl tw_1_198 tw_1_41 tw_1_42 rfl rfl dX1_init_1 ?_
  refine lv_aload_n hx hb dX1_init_4 rfl (lv_at hl 0 rfl) ?_
  refine lv_null hx hb dX1_init_5 ?_
  refine n_put S hK hG M hin inX1 tyX1 tyX1_ok nmX1 rfl 0 (by decide) tw_1_199 rfl rfl (v := .null) rfl rfl (Nat.le_of_ble_eq_true rfl) dX1_init_6 (fun H locs M => ?_)
  have M : nM G _ s _ ((207 + kc, .inr (3, [.null, .int 0, .int 0, .int 0])) :: _) H locs := M
  refine lv_aload_n hx hb dX1_init_9 rfl (lv_at hl 0 rfl) ?_
  refine lv_iconst (v := 0) hx hb dX1_init_10 (by decide) ?_
  refine n_put S hK hG M hin inX1 tyX1 tyX1_ok nmX1 rfl 1 (by decide) tw_1_202 rfl rfl (v := .int 0) rfl rfl (Nat.le_of_ble_eq_true rfl) dX1_init_11 (fun H locs M => ?_)
  have M : nM G _ s _ ((207 + kc, .inr (3, [.null, .int 0, .int 0, .int 0])) :: _) H locs := M
  refine lv_aload_n hx hb dX1_init_14 rfl (lv_at hl 0 rfl) ?_
  refine lv_iconst (v := 0) hx hb dX1_init_15 (by decide) ?_
  refine n_put S hK hG M hin inX1 tyX1 tyX1_ok nmX1 rfl 2 (by decide) tw_1_204 rfl rfl (v := .int 0) rfl rfl (Nat.le_of_ble_eq_true rfl) dX1_init_16 (fun H locs M => ?_)
  have M : nM G _ s _ ((207 + kc, .inr (3, [.null, .int 0, .int 0, .int 0])) :: _) H locs := M
  refine lv_aload_n hx hb dX1_init_19 rfl (lv_at hl 0 rfl) ?_
  refine lv_iconst (v := 0) hx hb dX1_init_20 (by decide) ?_
  refine n_put S hK hG M hin inX1 tyX1 tyX1_ok nmX1 rfl 3 (by decide) tw_1_206 rfl rfl (v := .int 0) rfl rfl (Nat.le_of_ble_eq_true rfl) dX1_init_21 (fun H locs M => ?_)
  have M : nM G _ s _ ((207 + kc, .inr (3, [.null, .int 0, .int 0, .int 0])) :: _) H locs := M
  have M := M.fin (by rw [ge_11 (gkd_cm hkc), n_cm0 hkc] <;> rfl)
  exact n_ret S hr hlk M (by decide) (by decide) dX1_init_24
theorem k_X2_init : gMV yX2_init cX2_init 2 none 0 := ⟨tw_1_190, tw_1_9, by decide⟩
set_option maxHeartbeats 1000000 in
set_option maxRecDepth 100000 in
theorem c_X2_init (l : Launch) {b0 : Nat} (G : gT) (hG : nG b0 G) : nCT l yX2_init cX2_init 2 { frames := 2, cells := 12, slots := 110, locals := 32 } 12 110 G (204) (.inr (4, [.null, .null, .int 0, .int 0, .int 0])) (b0 + 217) := by
  refine nCT_of hG (by decide) (by decide) (by decide) (fun p e s m args below meth c ls S hr hlk hin hC hK hl H locs M => ?_)
  have hx := S.1
  have hb := S.2.1
  have en : G.1 (204) + 1 = b0 + 205 := by rw [hG _ (by decide)]; rfl
  rw [en] at M
  refine lv_aload_n hx hb dX2_init_0 rfl (lv_at hl 0 rfl) ?_
  refine n_obj S hl tw_1_191 tw_1_41 tw_1_42 rfl rfl dX2_init_1 ?_
  refine lv_aload_n hx hb dX2_init_4 rfl (lv_at hl 0 rfl) ?_
  refine lv_bipush (v := 60) hx hb dX2_init_5 (by decide) ?_
  refine n_newa (atype := .char) S hK hG M tw_1_217 2 rfl (a0 := (60, .inl (fun _ => 0))) (fun _ => rfl) (by decide) (by decide) (by decide) (205) (by decide) (hG _ (by decide)) (Nat.le_of_ble_eq_true rfl) (Nat.le_of_ble_eq_true rfl) (cells' := 1) (slots' := 60) rfl rfl dX2_init_7 (fun H M => ?_)
  have M := M.fin (by rw [gca_60 rfl] <;> rfl)
  refine n_put S hK hG M hin inX2 tyX2 tyX2_ok nmX2 rfl 0 (by decide) tw_1_218 rfl rfl (v := .ref (G.1 (205))) rfl rfl (Nat.le_of_ble_eq_true rfl) dX2_init_9 (fun H locs M => ?_)
  have M : nM G _ s _ ((204, .inr (4, [.ref (G.1 (205)), .null, .int 0, .int 0, .int 0])) :: _) H locs := M
  refine lv_aload_n hx hb dX2_init_12 rfl (lv_at hl 0 rfl) ?_
  refine lv_bipush (v := 10) hx hb dX2_init_13 (by decide) ?_
  refine n_newq S hK hG M tw_1_192 hC.2.2.2 4 rfl (N' := 10) (by decide) (by decide) (by decide) (206) (by decide) (hG _ (by decide)) (Nat.le_of_ble_eq_true rfl) (Nat.le_of_ble_eq_true rfl) (cells' := 2) (slots' := 70) rfl rfl dX2_init_15 (fun H M => ?_)
  have M := nM.swap M
  refine n_put S hK hG M hin inX2 tyX2 tyX2_ok nmX2 rfl 1 (by decide) tw_1_219 rfl rfl (v := .ref (G.1 (206))) rfl rfl (Nat.le_of_ble_eq_true rfl) dX2_init_18 (fun H locs M => ?_)
  have M : nM G _ s _ ((204, .inr (4, [.ref (G.1 (205)), .ref (G.1 (206)), .int 0, .int 0, .int 0])) :: _) H locs := M
  refine lv_aload_n hx hb dX2_init_21 rfl (lv_at hl 0 rfl) ?_
  refine lv_iconst (v := 0) hx hb dX2_init_22 (by decide) ?_
  refine n_put S hK hG M hin inX2 tyX2 tyX2_ok nmX2 rfl 2 (by decide) tw_1_220 rfl rfl (v := .int 0) rfl rfl (Nat.le_of_ble_eq_true rfl) dX2_init_23 (fun H locs M => ?_)
  have M : nM G _ s _ ((204, .inr (4, [.ref (G.1 (205)), .ref (G.1 (206)), .int 0, .int 0, .int 0])) :: _) H locs := M
  refine lv_aload_n hx hb dX2_init_26 rfl (lv_at hl 0 rfl) ?_
  refine lv_iconst (v := 0) hx hb dX2_init_27 (by decide) ?_
  refine n_put S hK hG M hin inX2 tyX2 tyX2_ok nmX2 rfl 3 (by decide) tw_1_221 rfl rfl (v := .int 0) rfl rfl (Nat.le_of_ble_eq_true rfl) dX2_init_28 (fun H locs M => ?_)
  have M : nM G _ s _ ((204, .inr (4, [.ref (G.1 (205)), .ref (G.1 (206)), .int 0, .int 0, .int 0])) :: _) H locs := M
  refine lv_aload_n hx hb dX2_init_31 rfl (lv_at hl 0 rfl) ?_
  refine lv_iconst (v := 0) hx hb dX2_init_32 (by decide) ?_
  refine n_put S hK hG M hin inX2 tyX2 tyX2_ok nmX2 rfl 4 (by decide) tw_1_222 rfl rfl (v := .int 0) rfl rfl (Nat.le_of_ble_eq_true rfl) dX2_init_33 (fun H locs M => ?_)
  have M : nM G _ s _ ((204, .inr (4, [.ref (G.1 (205)), .ref (G.1 (206)), .int 0, .int 0, .int 0])) :: _) H locs := M
  refine lv_iconst (v := 0) hx hb dX2_init_36 (by decide) ?_
  refine lv_istore_n (lv' := [(1, .int 0), (0, .ref (G.1 (204)))]) hx hb dX2_init_37 rfl hl (by decide) rfl (fun ls hl => ?_)
  refine lv_iload_n hx hb dX2_init_38 rfl (lv_at hl 0 rfl) ?_
  refine lv_bipush (v := 10) hx hb dX2_init_39 (by decide) ?_
  refine lv_icmp_ge (tgt := 63) hx hb dX2_init_41 (by decide) (fun c1 => absurd c1 (by decide)) (fun c1 => ?_)
  refine lv_aload_n hx hb dX2_init_44 rfl (lv_at hl 1 rfl) ?_
  have M := nM.swap M
  refine n_getr S hK M inX2 rfl 1 (by decide) tw_1_219 rfl rfl dX2_init_45 ?_
  refine lv_iload_n hx hb dX2_init_48 rfl (lv_at hl 0 rfl) ?_
  refine n_new S hK hG M inX1 tyX1 tyX1_ok tw_1_192 tw_1_194 tw_1_10 (ci := 3) (fs := [.null, .int 0, .int 0, .int 0]) rfl (fun j hj => by rcases (show j = 0 ∨ j = 1 ∨ j = 2 ∨ j = 3 by omega) with rfl | rfl | rfl | rfl <;> rfl) (207) (by decide) (hG _ (by decide)) (Nat.le_of_ble_eq_true rfl) (Nat.le_of_ble_eq_true rfl) (cells' := 3) (slots' := 74) rfl rfl dX2_init_49 (fun H M => ?_)
  refine lv_dup hx hb dX2_init_52 rfl ?_
  refine n_initN (host := "ParcelDepot") S hC hK hG hl M (c_X1_init l G hG 0 (by decide)) (by rw [hG _ (by decide)]; rfl) k_X1_init tw_1_196 (by decide +kernel) rfl rfl rfl (cells' := 3) (slots' := 74) rfl rfl dX2_init_53 (fun H locs M => ?_)
  have M : nM G _ s (b0 + 208) _ H locs := M
  have hv : va_at (gtD G) vwCl (G.1 207, .inr (3, _)) H := nM_at M 207 (by decide) (by rw [hG _ (by decide), hG _ (by decide)]; exact Nat.add_le_add_left (by decide) _) (by rw [hG _ (by decide)]; exact Nat.add_lt_add_left (by decide) _) (by intro x hx; simp only [List.mem_cons, List.not_mem_nil, or_false] at hx; rcases hx with rfl | rfl; exact (by decide : (206 : Nat) ≠ 207); exact (by decide : (204 : Nat) ≠ 207)) (ge_11 rfl)
  refine n_aast S hK hG M (t := 4) rfl hv rfl (by unfold vp_in; decide) (k := 0) (by decide) dX2_init_56 (fun H locs M => ?_)
  refine lv_iinc (v := 1) (lv' := [(1, .int 1), (0, .ref (G.1 (204)))]) hx hb dX2_init_57 hl (k := 0) rfl (by decide) (by decide) rfl (fun ls hl => ?_)
  refine lv_goto (tgt := 38) hx hb dX2_init_60 (by decide) ?_
  refine lv_iload_n hx hb dX2_init_38 rfl (lv_at hl 0 rfl) ?_
  refine lv_bipush (v := 10) hx hb dX2_init_39 (by decide) ?_
  refine lv_icmp_ge (tgt := 63) hx hb dX2_init_41 (by decide) (fun c1 => absurd c1 (by decide)) (fun c1 => ?_)
  refine lv_aload_n hx hb dX2_init_44 rfl (lv_at hl 1 rfl) ?_
  refine n_getr S hK M inX2 rfl 1 (by decide) tw_1_219 rfl rfl dX2_init_45 ?_
  refine lv_iload_n hx hb dX2_init_48 rfl (lv_at hl 0 rfl) ?_
  refine n_new S hK hG M inX1 tyX1 tyX1_ok tw_1_192 tw_1_194 tw_1_10 (ci := 3) (fs := [.null, .int 0, .int 0, .int 0]) rfl (fun j hj => by rcases (show j = 0 ∨ j = 1 ∨ j = 2 ∨ j = 3 by omega) with rfl | rfl | rfl | rfl <;> rfl) (208) (by decide) (hG _ (by decide)) (Nat.le_of_ble_eq_true rfl) (Nat.le_of_ble_eq_true rfl) (cells' := 4) (slots' := 78) rfl rfl dX2_init_49 (fun H M => ?_)
  refine lv_dup hx hb dX2_init_52 rfl ?_
  refine n_initN (host := "ParcelDepot") S hC hK hG hl M (c_X1_init l G hG 1 (by decide)) (by rw [hG _ (by decide)]; rfl) k_X1_init tw_1_196 (by decide +kernel) rfl rfl rfl (cells' := 4) (slots' := 78) rfl rfl dX2_init_53 (fun H locs M => ?_)
  have M : nM G _ s (b0 + 209) _ H locs := M
  have hv : va_at (gtD G) vwCl (G.1 208, .inr (3, _)) H := nM_at M 208 (by decide) (by rw [hG _ (by decide), hG _ (by decide)]; exact Nat.add_le_add_left (by decide) _) (by rw [hG _ (by decide)]; exact Nat.add_lt_add_left (by decide) _) (by intro x hx; simp only [List.mem_cons, List.not_mem_nil, or_false] at hx; rcases hx with rfl | rfl; exact (by decide : (206 : Nat) ≠ 208); exact (by decide : (204 : Nat) ≠ 208)) (ge_11 rfl)
  refine n_aast S hK hG M (t := 4) rfl hv rfl (by unfold vp_in; decide) (k := 1) (by decide) dX2_init_56 (fun H locs M => ?_)
  refine lv_iinc (v := 2) (lv' := [(1, .int 2), (0, .ref (G.1 (204)))]) hx hb dX2_init_57 hl (k := 0) rfl (by decide) (by decide) rfl (fun ls hl => ?_)
  refine lv_goto (tgt := 38) hx hb dX2_init_60 (by decide) ?_
  refine lv_iload_n hx hb dX2_init_38 rfl (lv_at hl 0 rfl) ?_
  refine lv_bipush (v := 10) hx hb dX2_init_39 (by decide) ?_
  refine lv_icmp_ge (tgt := 63) hx hb dX2_init_41 (by decide) (fun c1 => absurd c1 (by decide)) (fun c1 => ?_)
  refine lv_aload_n hx hb dX2_init_44 rfl (lv_at hl 1 rfl) ?_
  refine n_getr S hK M inX2 rfl 1 (by decide) tw_1_219 rfl rfl dX2_init_45 ?_
  refine lv_iload_n hx hb dX2_init_48 rfl (lv_at hl 0 rfl) ?_
  refine n_new S hK hG M inX1 tyX1 tyX1_ok tw_1_192 tw_1_194 tw_1_10 (ci := 3) (fs := [.null, .int 0, .int 0, .int 0]) rfl (fun j hj => by rcases (show j = 0 ∨ j = 1 ∨ j = 2 ∨ j = 3 by omega) with rfl | rfl | rfl | rfl <;> rfl) (209) (by decide) (hG _ (by decide)) (Nat.le_of_ble_eq_true rfl) (Nat.le_of_ble_eq_true rfl) (cells' := 5) (slots' := 82) rfl rfl dX2_init_49 (fun H M => ?_)
  refine lv_dup hx hb dX2_init_52 rfl ?_
  refine n_initN (host := "ParcelDepot") S hC hK hG hl M (c_X1_init l G hG 2 (by decide)) (by rw [hG _ (by decide)]; rfl) k_X1_init tw_1_196 (by decide +kernel) rfl rfl rfl (cells' := 5) (slots' := 82) rfl rfl dX2_init_53 (fun H locs M => ?_)
  have M : nM G _ s (b0 + 210) _ H locs := M
  have hv : va_at (gtD G) vwCl (G.1 209, .inr (3, _)) H := nM_at M 209 (by decide) (by rw [hG _ (by decide), hG _ (by decide)]; exact Nat.add_le_add_left (by decide) _) (by rw [hG _ (by decide)]; exact Nat.add_lt_add_left (by decide) _) (by intro x hx; simp only [List.mem_cons, List.not_mem_nil, or_false] at hx; rcases hx with rfl | rfl; exact (by decide : (206 : Nat) ≠ 209); exact (by decide : (204 : Nat) ≠ 209)) (ge_11 rfl)
  refine n_aast S hK hG M (t := 4) rfl hv rfl (by unfold vp_in; decide) (k := 2) (by decide) dX2_init_56 (fun H locs M => ?_)
  refine lv_iinc (v := 3) (lv' := [(1, .int 3), (0, .ref (G.1 (204)))]) hx hb dX2_init_57 hl (k := 0) rfl (by decide) (by decide) rfl (fun ls hl => ?_)
  refine lv_goto (tgt := 38) hx hb dX2_init_60 (by decide) ?_
  refine lv_iload_n hx hb dX2_init_38 rfl (lv_at hl 0 rfl) ?_
  refine lv_bipush (v := 10) hx hb dX2_init_39 (by decide) ?_
  refine lv_icmp_ge (tgt := 63) hx hb dX2_init_41 (by decide) (fun c1 => absurd c1 (by decide)) (fun c1 => ?_)
  refine lv_aload_n hx hb dX2_init_44 rfl (lv_at hl 1 rfl) ?_
  refine n_getr S hK M inX2 rfl 1 (by decide) tw_1_219 rfl rfl dX2_init_45 ?_
  refine lv_iload_n hx hb dX2_init_48 rfl (lv_at hl 0 rfl) ?_
  refine n_new S hK hG M inX1 tyX1 tyX1_ok tw_1_192 tw_1_194 tw_1_10 (ci := 3) (fs := [.null, .int 0, .int 0, .int 0]) rfl (fun j hj => by rcases (show j = 0 ∨ j = 1 ∨ j = 2 ∨ j = 3 by omega) with rfl | rfl | rfl | rfl <;> rfl) (210) (by decide) (hG _ (by decide)) (Nat.le_of_ble_eq_true rfl) (Nat.le_of_ble_eq_true rfl) (cells' := 6) (slots' := 86) rfl rfl dX2_init_49 (fun H M => ?_)
  refine lv_dup hx hb dX2_init_52 rfl ?_
  refine n_initN (host := "ParcelDepot") S hC hK hG hl M (c_X1_init l G hG 3 (by decide)) (by rw [hG _ (by decide)]; rfl) k_X1_init tw_1_196 (by decide +kernel) rfl rfl rfl (cells' := 6) (slots' := 86) rfl rfl dX2_init_53 (fun H locs M => ?_)
  have M : nM G _ s (b0 + 211) _ H locs := M
  have hv : va_at (gtD G) vwCl (G.1 210, .inr (3, _)) H := nM_at M 210 (by decide) (by rw [hG _ (by decide), hG _ (by decide)]; exact Nat.add_le_add_left (by decide) _) (by rw [hG _ (by decide)]; exact Nat.add_lt_add_left (by decide) _) (by intro x hx; simp only [List.mem_cons, List.not_mem_nil, or_false] at hx; rcases hx with rfl | rfl; exact (by decide : (206 : Nat) ≠ 210); exact (by decide : (204 : Nat) ≠ 210)) (ge_11 rfl)
  refine n_aast S hK hG M (t := 4) rfl hv rfl (by unfold vp_in; decide) (k := 3) (by decide) dX2_init_56 (fun H locs M => ?_)
  refine lv_iinc (v := 4) (lv' := [(1, .int 4), (0, .ref (G.1 (204)))]) hx hb dX2_init_57 hl (k := 0) rfl (by decide) (by decide) rfl (fun ls hl => ?_)
  refine lv_goto (tgt := 38) hx hb dX2_init_60 (by decide) ?_
  refine lv_iload_n hx hb dX2_init_38 rfl (lv_at hl 0 rfl) ?_
  refine lv_bipush (v := 10) hx hb dX2_init_39 (by decide) ?_
  refine lv_icmp_ge (tgt := 63) hx hb dX2_init_41 (by decide) (fun c1 => absurd c1 (by decide)) (fun c1 => ?_)
  refine lv_aload_n hx hb dX2_init_44 rfl (lv_at hl 1 rfl) ?_
  refine n_getr S hK M inX2 rfl 1 (by decide) tw_1_219 rfl rfl dX2_init_45 ?_
  refine lv_iload_n hx hb dX2_init_48 rfl (lv_at hl 0 rfl) ?_
  refine n_new S hK hG M inX1 tyX1 tyX1_ok tw_1_192 tw_1_194 tw_1_10 (ci := 3) (fs := [.null, .int 0, .int 0, .int 0]) rfl (fun j hj => by rcases (show j = 0 ∨ j = 1 ∨ j = 2 ∨ j = 3 by omega) with rfl | rfl | rfl | rfl <;> rfl) (211) (by decide) (hG _ (by decide)) (Nat.le_of_ble_eq_true rfl) (Nat.le_of_ble_eq_true rfl) (cells' := 7) (slots' := 90) rfl rfl dX2_init_49 (fun H M => ?_)
  refine lv_dup hx hb dX2_init_52 rfl ?_
  refine n_initN (host := "ParcelDepot") S hC hK hG hl M (c_X1_init l G hG 4 (by decide)) (by rw [hG _ (by decide)]; rfl) k_X1_init tw_1_196 (by decide +kernel) rfl rfl rfl (cells' := 7) (slots' := 90) rfl rfl dX2_init_53 (fun H locs M => ?_)
  have M : nM G _ s (b0 + 212) _ H locs := M
  have hv : va_at (gtD G) vwCl (G.1 211, .inr (3, _)) H := nM_at M 211 (by decide) (by rw [hG _ (by decide), hG _ (by decide)]; exact Nat.add_le_add_left (by decide) _) (by rw [hG _ (by decide)]; exact Nat.add_lt_add_left (by decide) _) (by intro x hx; simp only [List.mem_cons, List.not_mem_nil, or_false] at hx; rcases hx with rfl | rfl; exact (by decide : (206 : Nat) ≠ 211); exact (by decide : (204 : Nat) ≠ 211)) (ge_11 rfl)
  refine n_aast S hK hG M (t := 4) rfl hv rfl (by unfold vp_in; decide) (k := 4) (by decide) dX2_init_56 (fun H locs M => ?_)
  refine lv_iinc (v := 5) (lv' := [(1, .int 5), (0, .ref (G.1 (204)))]) hx hb dX2_init_57 hl (k := 0) rfl (by decide) (by decide) rfl (fun ls hl => ?_)
  refine lv_goto (tgt := 38) hx hb dX2_init_60 (by decide) ?_
  refine lv_iload_n hx hb dX2_init_38 rfl (lv_at hl 0 rfl) ?_
  refine lv_bipush (v := 10) hx hb dX2_init_39 (by decide) ?_
  refine lv_icmp_ge (tgt := 63) hx hb dX2_init_41 (by decide) (fun c1 => absurd c1 (by decide)) (fun c1 => ?_)
  refine lv_aload_n hx hb dX2_init_44 rfl (lv_at hl 1 rfl) ?_
  refine n_getr S hK M inX2 rfl 1 (by decide) tw_1_219 rfl rfl dX2_init_45 ?_
  refine lv_iload_n hx hb dX2_init_48 rfl (lv_at hl 0 rfl) ?_
  refine n_new S hK hG M inX1 tyX1 tyX1_ok tw_1_192 tw_1_194 tw_1_10 (ci := 3) (fs := [.null, .int 0, .int 0, .int 0]) rfl (fun j hj => by rcases (show j = 0 ∨ j = 1 ∨ j = 2 ∨ j = 3 by omega) with rfl | rfl | rfl | rfl <;> rfl) (212) (by decide) (hG _ (by decide)) (Nat.le_of_ble_eq_true rfl) (Nat.le_of_ble_eq_true rfl) (cells' := 8) (slots' := 94) rfl rfl dX2_init_49 (fun H M => ?_)
  refine lv_dup hx hb dX2_init_52 rfl ?_
  refine n_initN (host := "ParcelDepot") S hC hK hG hl M (c_X1_init l G hG 5 (by decide)) (by rw [hG _ (by decide)]; rfl) k_X1_init tw_1_196 (by decide +kernel) rfl rfl rfl (cells' := 8) (slots' := 94) rfl rfl dX2_init_53 (fun H locs M => ?_)
  have M : nM G _ s (b0 + 213) _ H locs := M
  have hv : va_at (gtD G) vwCl (G.1 212, .inr (3, _)) H := nM_at M 212 (by decide) (by rw [hG _ (by decide), hG _ (by decide)]; exact Nat.add_le_add_left (by decide) _) (by rw [hG _ (by decide)]; exact Nat.add_lt_add_left (by decide) _) (by intro x hx; simp only [List.mem_cons, List.not_mem_nil, or_false] at hx; rcases hx with rfl | rfl; exact (by decide : (206 : Nat) ≠ 212); exact (by decide : (204 : Nat) ≠ 212)) (ge_11 rfl)
  refine n_aast S hK hG M (t := 4) rfl hv rfl (by unfold vp_in; decide) (k := 5) (by decide) dX2_init_56 (fun H locs M => ?_)
  refine lv_iinc (v := 6) (lv' := [(1, .int 6), (0, .ref (G.1 (204)))]) hx hb dX2_init_57 hl (k := 0) rfl (by decide) (by decide) rfl (fun ls hl => ?_)
  refine lv_goto (tgt := 38) hx hb dX2_init_60 (by decide) ?_
  refine lv_iload_n hx hb dX2_init_38 rfl (lv_at hl 0 rfl) ?_
  refine lv_bipush (v := 10) hx hb dX2_init_39 (by decide) ?_
  refine lv_icmp_ge (tgt := 63) hx hb dX2_init_41 (by decide) (fun c1 => absurd c1 (by decide)) (fun c1 => ?_)
  refine lv_aload_n hx hb dX2_init_44 rfl (lv_at hl 1 rfl) ?_
  refine n_getr S hK M inX2 rfl 1 (by decide) tw_1_219 rfl rfl dX2_init_45 ?_
  refine lv_iload_n hx hb dX2_init_48 rfl (lv_at hl 0 rfl) ?_
  refine n_new S hK hG M inX1 tyX1 tyX1_ok tw_1_192 tw_1_194 tw_1_10 (ci := 3) (fs := [.null, .int 0, .int 0, .int 0]) rfl (fun j hj => by rcases (show j = 0 ∨ j = 1 ∨ j = 2 ∨ j = 3 by omega) with rfl | rfl | rfl | rfl <;> rfl) (213) (by decide) (hG _ (by decide)) (Nat.le_of_ble_eq_true rfl) (Nat.le_of_ble_eq_true rfl) (cells' := 9) (slots' := 98) rfl rfl dX2_init_49 (fun H M => ?_)
  refine lv_dup hx hb dX2_init_52 rfl ?_
  refine n_initN (host := "ParcelDepot") S hC hK hG hl M (c_X1_init l G hG 6 (by decide)) (by rw [hG _ (by decide)]; rfl) k_X1_init tw_1_196 (by decide +kernel) rfl rfl rfl (cells' := 9) (slots' := 98) rfl rfl dX2_init_53 (fun H locs M => ?_)
  have M : nM G _ s (b0 + 214) _ H locs := M
  have hv : va_at (gtD G) vwCl (G.1 213, .inr (3, _)) H := nM_at M 213 (by decide) (by rw [hG _ (by decide), hG _ (by decide)]; exact Nat.add_le_add_left (by decide) _) (by rw [hG _ (by decide)]; exact Nat.add_lt_add_left (by decide) _) (by intro x hx; simp only [List.mem_cons, List.not_mem_nil, or_false] at hx; rcases hx with rfl | rfl; exact (by decide : (206 : Nat) ≠ 213); exact (by decide : (204 : Nat) ≠ 213)) (ge_11 rfl)
  refine n_aast S hK hG M (t := 4) rfl hv rfl (by unfold vp_in; decide) (k := 6) (by decide) dX2_init_56 (fun H locs M => ?_)
  refine lv_iinc (v := 7) (lv' := [(1, .int 7), (0, .ref (G.1 (204)))]) hx hb dX2_init_57 hl (k := 0) rfl (by decide) (by decide) rfl (fun ls hl => ?_)
  refine lv_goto (tgt := 38) hx hb dX2_init_60 (by decide) ?_
  refine lv_iload_n hx hb dX2_init_38 rfl (lv_at hl 0 rfl) ?_
  refine lv_bipush (v := 10) hx hb dX2_init_39 (by decide) ?_
  refine lv_icmp_ge (tgt := 63) hx hb dX2_init_41 (by decide) (fun c1 => absurd c1 (by decide)) (fun c1 => ?_)
  refine lv_aload_n hx hb dX2_init_44 rfl (lv_at hl 1 rfl) ?_
  refine n_getr S hK M inX2 rfl 1 (by decide) tw_1_219 rfl rfl dX2_init_45 ?_
  refine lv_iload_n hx hb dX2_init_48 rfl (lv_at hl 0 rfl) ?_
  refine n_new S hK hG M inX1 tyX1 tyX1_ok tw_1_192 tw_1_194 tw_1_10 (ci := 3) (fs := [.null, .int 0, .int 0, .int 0]) rfl (fun j hj => by rcases (show j = 0 ∨ j = 1 ∨ j = 2 ∨ j = 3 by omega) with rfl | rfl | rfl | rfl <;> rfl) (214) (by decide) (hG _ (by decide)) (Nat.le_of_ble_eq_true rfl) (Nat.le_of_ble_eq_true rfl) (cells' := 10) (slots' := 102) rfl rfl dX2_init_49 (fun H M => ?_)
  refine lv_dup hx hb dX2_init_52 rfl ?_
  refine n_initN (host := "ParcelDepot") S hC hK hG hl M (c_X1_init l G hG 7 (by decide)) (by rw [hG _ (by decide)]; rfl) k_X1_init tw_1_196 (by decide +kernel) rfl rfl rfl (cells' := 10) (slots' := 102) rfl rfl dX2_init_53 (fun H locs M => ?_)
  have M : nM G _ s (b0 + 215) _ H locs := M
  have hv : va_at (gtD G) vwCl (G.1 214, .inr (3, _)) H := nM_at M 214 (by decide) (by rw [hG _ (by decide), hG _ (by decide)]; exact Nat.add_le_add_left (by decide) _) (by rw [hG _ (by decide)]; exact Nat.add_lt_add_left (by decide) _) (by intro x hx; simp only [List.mem_cons, List.not_mem_nil, or_false] at hx; rcases hx with rfl | rfl; exact (by decide : (206 : Nat) ≠ 214); exact (by decide : (204 : Nat) ≠ 214)) (ge_11 rfl)
  refine n_aast S hK hG M (t := 4) rfl hv rfl (by unfold vp_in; decide) (k := 7) (by decide) dX2_init_56 (fun H locs M => ?_)
  refine lv_iinc (v := 8) (lv' := [(1, .int 8), (0, .ref (G.1 (204)))]) hx hb dX2_init_57 hl (k := 0) rfl (by decide) (by decide) rfl (fun ls hl => ?_)
  refine lv_goto (tgt := 38) hx hb dX2_init_60 (by decide) ?_
  refine lv_iload_n hx hb dX2_init_38 rfl (lv_at hl 0 rfl) ?_
  refine lv_bipush (v := 10) hx hb dX2_init_39 (by decide) ?_
  refine lv_icmp_ge (tgt := 63) hx hb dX2_init_41 (by decide) (fun c1 => absurd c1 (by decide)) (fun c1 => ?_)
  refine lv_aload_n hx hb dX2_init_44 rfl (lv_at hl 1 rfl) ?_
  refine n_getr S hK M inX2 rfl 1 (by decide) tw_1_219 rfl rfl dX2_init_45 ?_
  refine lv_iload_n hx hb dX2_init_48 rfl (lv_at hl 0 rfl) ?_
  refine n_new S hK hG M inX1 tyX1 tyX1_ok tw_1_192 tw_1_194 tw_1_10 (ci := 3) (fs := [.null, .int 0, .int 0, .int 0]) rfl (fun j hj => by rcases (show j = 0 ∨ j = 1 ∨ j = 2 ∨ j = 3 by omega) with rfl | rfl | rfl | rfl <;> rfl) (215) (by decide) (hG _ (by decide)) (Nat.le_of_ble_eq_true rfl) (Nat.le_of_ble_eq_true rfl) (cells' := 11) (slots' := 106) rfl rfl dX2_init_49 (fun H M => ?_)
  refine lv_dup hx hb dX2_init_52 rfl ?_
  refine n_initN (host := "ParcelDepot") S hC hK hG hl M (c_X1_init l G hG 8 (by decide)) (by rw [hG _ (by decide)]; rfl) k_X1_init tw_1_196 (by decide +kernel) rfl rfl rfl (cells' := 11) (slots' := 106) rfl rfl dX2_init_53 (fun H locs M => ?_)
  have M : nM G _ s (b0 + 216) _ H locs := M
  have hv : va_at (gtD G) vwCl (G.1 215, .inr (3, _)) H := nM_at M 215 (by decide) (by rw [hG _ (by decide), hG _ (by decide)]; exact Nat.add_le_add_left (by decide) _) (by rw [hG _ (by decide)]; exact Nat.add_lt_add_left (by decide) _) (by intro x hx; simp only [List.mem_cons, List.not_mem_nil, or_false] at hx; rcases hx with rfl | rfl; exact (by decide : (206 : Nat) ≠ 215); exact (by decide : (204 : Nat) ≠ 215)) (ge_11 rfl)
  refine n_aast S hK hG M (t := 4) rfl hv rfl (by unfold vp_in; decide) (k := 8) (by decide) dX2_init_56 (fun H locs M => ?_)
  refine lv_iinc (v := 9) (lv' := [(1, .int 9), (0, .ref (G.1 (204)))]) hx hb dX2_init_57 hl (k := 0) rfl (by decide) (by decide) rfl (fun ls hl => ?_)
  refine lv_goto (tgt := 38) hx hb dX2_init_60 (by decide) ?_
  refine lv_iload_n hx hb dX2_init_38 rfl (lv_at hl 0 rfl) ?_
  refine lv_bipush (v := 10) hx hb dX2_init_39 (by decide) ?_
  refine lv_icmp_ge (tgt := 63) hx hb dX2_init_41 (by decide) (fun c1 => absurd c1 (by decide)) (fun c1 => ?_)
  refine lv_aload_n hx hb dX2_init_44 rfl (lv_at hl 1 rfl) ?_
  refine n_getr S hK M inX2 rfl 1 (by decide) tw_1_219 rfl rfl dX2_init_45 ?_
  refine lv_iload_n hx hb dX2_init_48 rfl (lv_at hl 0 rfl) ?_
  refine n_new S hK hG M inX1 tyX1 tyX1_ok tw_1_192 tw_1_194 tw_1_10 (ci := 3) (fs := [.null, .int 0, .int 0, .int 0]) rfl (fun j hj => by rcases (show j = 0 ∨ j = 1 ∨ j = 2 ∨ j = 3 by omega) with rfl | rfl | rfl | rfl <;> rfl) (216) (by decide) (hG _ (by decide)) (Nat.le_of_ble_eq_true rfl) (Nat.le_of_ble_eq_true rfl) (cells' := 12) (slots' := 110) rfl rfl dX2_init_49 (fun H M => ?_)
  refine lv_dup hx hb dX2_init_52 rfl ?_
  refine n_initN (host := "ParcelDepot") S hC hK hG hl M (c_X1_init l G hG 9 (by decide)) (by rw [hG _ (by decide)]; rfl) k_X1_init tw_1_196 (by decide +kernel) rfl rfl rfl (cells' := 12) (slots' := 110) rfl rfl dX2_init_53 (fun H locs M => ?_)
  have M : nM G _ s (b0 + 217) _ H locs := M
  have hv : va_at (gtD G) vwCl (G.1 216, .inr (3, _)) H := nM_at M 216 (by decide) (by rw [hG _ (by decide), hG _ (by decide)]; exact Nat.add_le_add_left (by decide) _) (by rw [hG _ (by decide)]; exact Nat.add_lt_add_left (by decide) _) (by intro x hx; simp only [List.mem_cons, List.not_mem_nil, or_false] at hx; rcases hx with rfl | rfl; exact (by decide : (206 : Nat) ≠ 216); exact (by decide : (204 : Nat) ≠ 216)) (ge_11 rfl)
  refine n_aast S hK hG M (t := 4) rfl hv rfl (by unfold vp_in; decide) (k := 9) (by decide) dX2_init_56 (fun H locs M => ?_)
  refine lv_iinc (v := 10) (lv' := [(1, .int 10), (0, .ref (G.1 (204)))]) hx hb dX2_init_57 hl (k := 0) rfl (by decide) (by decide) rfl (fun ls hl => ?_)
  refine lv_goto (tgt := 38) hx hb dX2_init_60 (by decide) ?_
  refine lv_iload_n hx hb dX2_init_38 rfl (lv_at hl 0 rfl) ?_
  refine lv_bipush (v := 10) hx hb dX2_init_39 (by decide) ?_
  refine lv_icmp_ge (tgt := 63) hx hb dX2_init_41 (by decide) (fun c1 => ?_) (fun c1 => absurd c1 (by decide))
  have M := n_finq M rfl (fun i hi => by rcases (show i = 0 ∨ i = 1 ∨ i = 2 ∨ i = 3 ∨ i = 4 ∨ i = 5 ∨ i = 6 ∨ i = 7 ∨ i = 8 ∨ i = 9 by omega) with rfl | rfl | rfl | rfl | rfl | rfl | rfl | rfl | rfl | rfl <;> rfl)
  have M := M.fin (by rw [ge_9 rfl] <;> rfl)
  exact n_ret S hr hlk M (by decide) (by decide) dX2_init_63
theorem k_X10_init : gMV yX10_init cX10_init 1 none 0 := ⟨tw_1_238, tw_1_11, by decide⟩
set_option maxHeartbeats 1000000 in
set_option maxRecDepth 100000 in
theorem c_X10_init (l : Launch) {b0 : Nat} (G : gT) (hG : nG b0 G) : nCT l yX10_init cX10_init 1 { frames := 1, cells := 1, slots := 100, locals := 12 } 1 100 G (217) (.inr (11, [.null, .int 0])) (b0 + 219) := by
  refine nCT_of hG (by decide) (by decide) (by decide) (fun p e s m args below meth c ls S hr hlk hin hC hK hl H locs M => ?_)
  have hx := S.1
  have hb := S.2.1
  have en : G.1 (217) + 1 = b0 + 218 := by rw [hG _ (by decide)]; rfl
  rw [en] at M
  refine lv_aload_n hx hb dX10_init_0 rfl (lv_at hl 0 rfl) ?_
  refine n_obj S hl tw_1_239 tw_1_41 tw_1_42 rfl rfl dX10_init_1 ?_
  refine lv_aload_n hx hb dX10_init_4 rfl (lv_at hl 0 rfl) ?_
  refine lv_bipush (v := 100) hx hb dX10_init_5 (by decide) ?_
  refine n_newa (atype := .char) S hK hG M tw_1_217 2 rfl (a0 := (100, .inl (fun _ => 0))) (fun _ => rfl) (by decide) (by decide) (by decide) (218) (by decide) (hG _ (by decide)) (Nat.le_of_ble_eq_true rfl) (Nat.le_of_ble_eq_true rfl) (cells' := 1) (slots' := 100) rfl rfl dX10_init_7 (fun H M => ?_)
  have M := M.fin (by rw [gca_100 rfl] <;> rfl)
  refine n_put S hK hG M hin inX10 tyX10 tyX10_ok nmX10 rfl 0 (by decide) tw_2_0 rfl rfl (v := .ref (G.1 (218))) rfl rfl (Nat.le_of_ble_eq_true rfl) dX10_init_9 (fun H locs M => ?_)
  have M : nM G _ s _ ((217, .inr (11, [.ref (G.1 (218)), .int 0])) :: _) H locs := M
  refine lv_aload_n hx hb dX10_init_12 rfl (lv_at hl 0 rfl) ?_
  refine lv_iconst (v := 0) hx hb dX10_init_13 (by decide) ?_
  refine n_put S hK hG M hin inX10 tyX10 tyX10_ok nmX10 rfl 1 (by decide) tw_2_1 rfl rfl (v := .int 0) rfl rfl (Nat.le_of_ble_eq_true rfl) dX10_init_14 (fun H locs M => ?_)
  have M : nM G _ s _ ((217, .inr (11, [.ref (G.1 (218)), .int 0])) :: _) H locs := M
  have M := M.fin (by rw [ge_12 rfl] <;> rfl)
  exact n_ret S hr hlk M (by decide) (by decide) dX10_init_17
theorem k_X12_init : gMV yX12_init cX12_init 1 none 0 := ⟨tw_1_39, tw_1_1, by decide⟩
set_option maxHeartbeats 1000000 in
set_option maxRecDepth 100000 in
theorem c_X12_init (l : Launch) {b0 : Nat} (G : gT) (hG : nG b0 G) : nCT l yX12_init cX12_init 1 { frames := 4, cells := 218, slots := 2364, locals := 74 } 218 2364 G (0) (.inr (13, [.null, .null, .null, .null, .null, .null, .int 0, .int 0, .int 0])) (b0 + 219) := by
  refine nCT_of hG (by decide) (by decide) (by decide) (fun p e s m args below meth c ls S hr hlk hin hC hK hl H locs M => ?_)
  have hx := S.1
  have hb := S.2.1
  have en : G.1 (0) + 1 = b0 + 1 := by rw [hG _ (by decide)]; rfl
  rw [en] at M
  refine lv_aload_n hx hb dX12_init_0 rfl (lv_at hl 0 rfl) ?_
  refine n_obj S hl tw_1_40 tw_1_41 tw_1_42 rfl rfl dX12_init_1 ?_
  refine lv_aload_n hx hb dX12_init_4 rfl (lv_at hl 0 rfl) ?_
  refine n_new S hK hG M inX3 tyX3 tyX3_ok tw_1_43 tw_1_44 tw_1_2 (ci := 5) (fs := [.null, .null, .null, .null]) rfl (fun j hj => by rcases (show j = 0 ∨ j = 1 ∨ j = 2 ∨ j = 3 by omega) with rfl | rfl | rfl | rfl <;> rfl) (1) (by decide) (hG _ (by decide)) (Nat.le_of_ble_eq_true rfl) (Nat.le_of_ble_eq_true rfl) (cells' := 1) (slots' := 4) rfl rfl dX12_init_5 (fun H M => ?_)
  refine lv_dup hx hb dX12_init_8 rfl ?_
  refine n_initN (host := "ParcelDepot") S hC hK hG hl M (c_X3_init l G hG 0 (by decide)) (by rw [hG _ (by decide)]; rfl) k_X3_init tw_1_46 (by decide +kernel) rfl rfl rfl (cells' := 18) (slots' := 188) rfl rfl dX12_init_9 (fun H locs M => ?_)
  rw [hG (1 + 18 * 0) (by decide)] at M
  have M : nM G _ s (b0 + 19) _ H locs := M
  refine n_put S hK hG M hin inX12 tyX12 tyX12_ok nmX12 rfl 0 (by decide) tw_2_7 rfl rfl (v := .ref (G.1 (1))) rfl rfl (Nat.le_of_ble_eq_true rfl) dX12_init_12 (fun H locs M => ?_)
  have M : nM G _ s _ ((0, .inr (13, [.ref (G.1 (1)), .null, .null, .null, .null, .null, .int 0, .int 0, .int 0])) :: _) H locs := M
  refine lv_aload_n hx hb dX12_init_15 rfl (lv_at hl 0 rfl) ?_
  refine n_new S hK hG M inX3 tyX3 tyX3_ok tw_1_43 tw_1_44 tw_1_2 (ci := 5) (fs := [.null, .null, .null, .null]) rfl (fun j hj => by rcases (show j = 0 ∨ j = 1 ∨ j = 2 ∨ j = 3 by omega) with rfl | rfl | rfl | rfl <;> rfl) (19) (by decide) (hG _ (by decide)) (Nat.le_of_ble_eq_true rfl) (Nat.le_of_ble_eq_true rfl) (cells' := 19) (slots' := 192) rfl rfl dX12_init_16 (fun H M => ?_)
  refine lv_dup hx hb dX12_init_19 rfl ?_
  refine n_initN (host := "ParcelDepot") S hC hK hG hl M (c_X3_init l G hG 1 (by decide)) (by rw [hG _ (by decide)]; rfl) k_X3_init tw_1_46 (by decide +kernel) rfl rfl rfl (cells' := 36) (slots' := 376) rfl rfl dX12_init_20 (fun H locs M => ?_)
  rw [hG (1 + 18 * 1) (by decide)] at M
  have M : nM G _ s (b0 + 37) _ H locs := M
  refine n_put S hK hG M hin inX12 tyX12 tyX12_ok nmX12 rfl 1 (by decide) tw_2_8 rfl rfl (v := .ref (G.1 (19))) rfl rfl (Nat.le_of_ble_eq_true rfl) dX12_init_23 (fun H locs M => ?_)
  have M : nM G _ s _ ((0, .inr (13, [.ref (G.1 (1)), .ref (G.1 (19)), .null, .null, .null, .null, .int 0, .int 0, .int 0])) :: _) H locs := M
  refine lv_aload_n hx hb dX12_init_26 rfl (lv_at hl 0 rfl) ?_
  refine n_new S hK hG M inX7 tyX7 tyX7_ok tw_1_154 tw_1_155 tw_1_7 (ci := 8) (fs := [.null, .int 0, .int 0]) rfl (fun j hj => by rcases (show j = 0 ∨ j = 1 ∨ j = 2 by omega) with rfl | rfl | rfl <;> rfl) (199) (by decide) (hG _ (by decide)) (Nat.le_of_ble_eq_true rfl) (Nat.le_of_ble_eq_true rfl) (cells' := 37) (slots' := 379) rfl rfl dX12_init_27 (fun H M => ?_)
  refine lv_dup hx hb dX12_init_30 rfl ?_
  refine n_initS S hC hK hG hl M (c_X7_init l G hG ) (by rw [hG _ (by decide)]; rfl) k_X7_init tw_1_157 tw_1_156 rfl rfl rfl (cells' := 200) (slots' := 2080) rfl rfl dX12_init_31 (fun H locs M => ?_)
  have M : nM G _ s (b0 + 201) _ H locs := M
  refine n_put S hK hG M hin inX12 tyX12 tyX12_ok nmX12 rfl 2 (by decide) tw_2_9 rfl rfl (v := .ref (G.1 (199))) rfl rfl (Nat.le_of_ble_eq_true rfl) dX12_init_34 (fun H locs M => ?_)
  have M : nM G _ s _ ((0, .inr (13, [.ref (G.1 (1)), .ref (G.1 (19)), .ref (G.1 (199)), .null, .null, .null, .int 0, .int 0, .int 0])) :: _) H locs := M
  refine lv_aload_n hx hb dX12_init_37 rfl (lv_at hl 0 rfl) ?_
  refine n_new S hK hG M inX4 tyX4 tyX4_ok tw_1_173 tw_1_174 tw_1_8 (ci := 6) (fs := [.null, .null]) rfl (fun j hj => by rcases (show j = 0 ∨ j = 1 by omega) with rfl | rfl <;> rfl) (201) (by decide) (hG _ (by decide)) (Nat.le_of_ble_eq_true rfl) (Nat.le_of_ble_eq_true rfl) (cells' := 201) (slots' := 2082) rfl rfl dX12_init_38 (fun H M => ?_)
  refine lv_dup hx hb dX12_init_41 rfl ?_
  refine n_initN (host := "ParcelDepot") S hC hK hG hl M (c_X4_init l G hG ) (by rw [hG _ (by decide)]; rfl) k_X4_init tw_1_176 (by decide +kernel) rfl rfl rfl (cells' := 203) (slots' := 2147) rfl rfl dX12_init_42 (fun H locs M => ?_)
  have M : nM G _ s (b0 + 204) _ H locs := M
  refine n_put S hK hG M hin inX12 tyX12 tyX12_ok nmX12 rfl 3 (by decide) tw_2_10 rfl rfl (v := .ref (G.1 (201))) rfl rfl (Nat.le_of_ble_eq_true rfl) dX12_init_45 (fun H locs M => ?_)
  have M : nM G _ s _ ((0, .inr (13, [.ref (G.1 (1)), .ref (G.1 (19)), .ref (G.1 (199)), .ref (G.1 (201)), .null, .null, .int 0, .int 0, .int 0])) :: _) H locs := M
  refine lv_aload_n hx hb dX12_init_48 rfl (lv_at hl 0 rfl) ?_
  refine n_new S hK hG M inX2 tyX2 tyX2_ok tw_1_186 tw_1_187 tw_1_9 (ci := 4) (fs := [.null, .null, .int 0, .int 0, .int 0]) rfl (fun j hj => by rcases (show j = 0 ∨ j = 1 ∨ j = 2 ∨ j = 3 ∨ j = 4 by omega) with rfl | rfl | rfl | rfl | rfl <;> rfl) (204) (by decide) (hG _ (by decide)) (Nat.le_of_ble_eq_true rfl) (Nat.le_of_ble_eq_true rfl) (cells' := 204) (slots' := 2152) rfl rfl dX12_init_49 (fun H M => ?_)
  refine lv_dup hx hb dX12_init_52 rfl ?_
  refine n_initS S hC hK hG hl M (c_X2_init l G hG ) (by rw [hG _ (by decide)]; rfl) k_X2_init tw_1_189 tw_1_188 rfl rfl rfl (cells' := 216) (slots' := 2262) rfl rfl dX12_init_53 (fun H locs M => ?_)
  have M : nM G _ s (b0 + 217) _ H locs := M
  refine n_put S hK hG M hin inX12 tyX12 tyX12_ok nmX12 rfl 4 (by decide) tw_2_11 rfl rfl (v := .ref (G.1 (204))) rfl rfl (Nat.le_of_ble_eq_true rfl) dX12_init_56 (fun H locs M => ?_)
  have M : nM G _ s _ ((0, .inr (13, [.ref (G.1 (1)), .ref (G.1 (19)), .ref (G.1 (199)), .ref (G.1 (201)), .ref (G.1 (204)), .null, .int 0, .int 0, .int 0])) :: _) H locs := M
  refine lv_aload_n hx hb dX12_init_59 rfl (lv_at hl 0 rfl) ?_
  refine n_new S hK hG M inX10 tyX10 tyX10_ok tw_1_234 tw_1_235 tw_1_11 (ci := 11) (fs := [.null, .int 0]) rfl (fun j hj => by rcases (show j = 0 ∨ j = 1 by omega) with rfl | rfl <;> rfl) (217) (by decide) (hG _ (by decide)) (Nat.le_of_ble_eq_true rfl) (Nat.le_of_ble_eq_true rfl) (cells' := 217) (slots' := 2264) rfl rfl dX12_init_60 (fun H M => ?_)
  refine lv_dup hx hb dX12_init_63 rfl ?_
  refine n_initN (host := "ParcelDepot") S hC hK hG hl M (c_X10_init l G hG ) (by rw [hG _ (by decide)]; rfl) k_X10_init tw_1_237 (by decide +kernel) rfl rfl rfl (cells' := 218) (slots' := 2364) rfl rfl dX12_init_64 (fun H locs M => ?_)
  have M : nM G _ s (b0 + 219) _ H locs := M
  refine n_put S hK hG M hin inX12 tyX12 tyX12_ok nmX12 rfl 5 (by decide) tw_2_12 rfl rfl (v := .ref (G.1 (217))) rfl rfl (Nat.le_of_ble_eq_true rfl) dX12_init_67 (fun H locs M => ?_)
  have M : nM G _ s _ ((0, .inr (13, [.ref (G.1 (1)), .ref (G.1 (19)), .ref (G.1 (199)), .ref (G.1 (201)), .ref (G.1 (204)), .ref (G.1 (217)), .int 0, .int 0, .int 0])) :: _) H locs := M
  refine lv_aload_n hx hb dX12_init_70 rfl (lv_at hl 0 rfl) ?_
  refine lv_iconst (v := 0) hx hb dX12_init_71 (by decide) ?_
  refine n_put S hK hG M hin inX12 tyX12 tyX12_ok nmX12 rfl 6 (by decide) tw_2_13 rfl rfl (v := .int 0) rfl rfl (Nat.le_of_ble_eq_true rfl) dX12_init_72 (fun H locs M => ?_)
  have M : nM G _ s _ ((0, .inr (13, [.ref (G.1 (1)), .ref (G.1 (19)), .ref (G.1 (199)), .ref (G.1 (201)), .ref (G.1 (204)), .ref (G.1 (217)), .int 0, .int 0, .int 0])) :: _) H locs := M
  refine lv_aload_n hx hb dX12_init_75 rfl (lv_at hl 0 rfl) ?_
  refine lv_iconst (v := (-1)) hx hb dX12_init_76 (by decide) ?_
  refine n_put S hK hG M hin inX12 tyX12 tyX12_ok nmX12 rfl 7 (by decide) tw_2_14 rfl rfl (v := .int (-1)) rfl rfl (Nat.le_of_ble_eq_true rfl) dX12_init_77 (fun H locs M => ?_)
  have M : nM G _ s _ ((0, .inr (13, [.ref (G.1 (1)), .ref (G.1 (19)), .ref (G.1 (199)), .ref (G.1 (201)), .ref (G.1 (204)), .ref (G.1 (217)), .int 0, .int (-1), .int 0])) :: _) H locs := M
  refine lv_aload_n hx hb dX12_init_80 rfl (lv_at hl 0 rfl) ?_
  refine lv_iconst (v := (-1)) hx hb dX12_init_81 (by decide) ?_
  refine n_put S hK hG M hin inX12 tyX12 tyX12_ok nmX12 rfl 8 (by decide) tw_2_15 rfl rfl (v := .int (-1)) rfl rfl (Nat.le_of_ble_eq_true rfl) dX12_init_82 (fun H locs M => ?_)
  have M : nM G _ s _ ((0, .inr (13, [.ref (G.1 (1)), .ref (G.1 (19)), .ref (G.1 (199)), .ref (G.1 (201)), .ref (G.1 (204)), .ref (G.1 (217)), .int 0, .int (-1), .int (-1)])) :: _) H locs := M
  have M := M.fin (by rw [ge_0 rfl] <;> rfl)
  exact n_ret S hr hlk M (by decide) (by decide) dX12_init_85
