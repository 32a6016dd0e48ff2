theorem k_X13_isPlace : gMV yX13_isPlace cX13_isPlace 1 (some .boolean) 1 := ⟨tw_6_180, tw_1_12, by decide⟩
set_option maxHeartbeats 400000 in
set_option maxRecDepth 100000 in
theorem c_X13_isPlace (l : Launch) (G : gT) (sz : Nat) (lo : Int64) (dd : UInt64) (σ : gM) (a1 : Int32) {o : Int32} (hf : f_X13_isPlace σ a1 = some o) : gCT l yX13_isPlace cX13_isPlace 1 (some .boolean) { frames := 1, cells := 0, slots := 0, locals := 22 } 0 0 G sz [.int a1] lo dd σ (.inl (mkI o, σ, lo, dd)) := by
  refine gCT_of (by decide) (Nat.le_of_ble_eq_true rfl) (fun p e s m args below meth c ls S hr hlk hnx hsz C0 hl H locs M => ?_)
  subst hsz
  have hx := S.1
  have hb := S.2.1
  unfold f_X13_isPlace at hf
  refine lv_iload_n hx hb dX13_isPlace_0 rfl (lv_at hl 0 rfl) ?_
  refine lv_iconst (v := 0) hx hb dX13_isPlace_1 (by decide) ?_
  refine lv_iconst (v := 5) hx hb dX13_isPlace_2 (by decide) ?_
  obtain ⟨r2, h1, hf⟩ := bd_x hf
  refine g_callR (st1 := [.int r2]) (cells' := 0) (slots' := 0) M (g_invS (index := 52) S M C0 hl (c_X13_in l G H.size lo dd σ a1 0 5  h1) k_X13_in tw_6_182 tw_6_181 rfl rfl rfl rfl dX13_isPlace_3) rfl rfl rfl (fun H locs M => ?_)
  obtain ⟨z3, hf⟩ := gn_x hf
  cases hf
  exact g_zret S M hr hlk (g_narZ z3) (by decide) (by decide) dX13_isPlace_6 rfl
theorem k_X13_isSack : gMV yX13_isSack cX13_isSack 1 (some .boolean) 1 := ⟨tw_6_230, tw_1_12, by decide⟩
set_option maxHeartbeats 400000 in
set_option maxRecDepth 100000 in
theorem c_X13_isSack (l : Launch) (G : gT) (sz : Nat) (lo : Int64) (dd : UInt64) (σ : gM) (a1 : Int32) {o : Int32} (hf : f_X13_isSack σ a1 = some o) : gCT l yX13_isSack cX13_isSack 1 (some .boolean) { frames := 1, cells := 0, slots := 0, locals := 22 } 0 0 G sz [.int a1] lo dd σ (.inl (mkI o, σ, lo, dd)) := by
  refine gCT_of (by decide) (Nat.le_of_ble_eq_true rfl) (fun p e s m args below meth c ls S hr hlk hnx hsz C0 hl H locs M => ?_)
  subst hsz
  have hx := S.1
  have hb := S.2.1
  unfold f_X13_isSack at hf
  refine lv_iload_n hx hb dX13_isSack_0 rfl (lv_at hl 0 rfl) ?_
  refine lv_iconst (v := 0) hx hb dX13_isSack_1 (by decide) ?_
  refine lv_iconst (v := 2) hx hb dX13_isSack_2 (by decide) ?_
  obtain ⟨r2, h1, hf⟩ := bd_x hf
  refine g_callR (st1 := [.int r2]) (cells' := 0) (slots' := 0) M (g_invS (index := 52) S M C0 hl (c_X13_in l G H.size lo dd σ a1 0 2  h1) k_X13_in tw_6_182 tw_6_181 rfl rfl rfl rfl dX13_isSack_3) rfl rfl rfl (fun H locs M => ?_)
  obtain ⟨z3, hf⟩ := gn_x hf
  cases hf
  exact g_zret S M hr hlk (g_narZ z3) (by decide) (by decide) dX13_isSack_6 rfl
theorem k_X13_isParcel : gMV yX13_isParcel cX13_isParcel 2 (some .boolean) 1 := ⟨tw_7_6, tw_1_12, by decide⟩
set_option maxHeartbeats 400000 in
set_option maxRecDepth 100000 in
theorem c_X13_isParcel (l : Launch) (G : gT) (sz : Nat) (lo : Int64) (dd : UInt64) (σ : gM) (a1 : Int32) {o : Int32} (hf : f_X13_isParcel σ a1 = some o) : gCT l yX13_isParcel cX13_isParcel 2 (some .boolean) { frames := 1, cells := 0, slots := 0, locals := 22 } 0 0 G sz [.ref (G.1 219), .int a1] lo dd σ (.inl (mkI o, σ, lo, dd)) := by
  refine gCT_of (by decide) (Nat.le_of_ble_eq_true rfl) (fun p e s m args below meth c ls S hr hlk hnx hsz C0 hl H locs M => ?_)
  subst hsz
  have hx := S.1
  have hb := S.2.1
  unfold f_X13_isParcel at hf
  refine lv_iload_n hx hb dX13_isParcel_0 rfl (lv_at hl 1 rfl) ?_
  refine lv_iconst (v := 0) hx hb dX13_isParcel_1 (by decide) ?_
  refine lv_aload_n hx hb dX13_isParcel_2 rfl (lv_at hl 0 rfl) ?_
  refine gf_X13_0 (i := 219) S M (by decide) rfl tw_6_107 dX13_isParcel_3 ?_
  refine lv_bipush (v := 36) hx hb dX13_isParcel_6 (by decide) ?_
  refine gk_iald (i := 220) (k := 36) S M (by decide) (gaa_134 rfl) (by unfold vp_in; decide) (by decide) dX13_isParcel_8 ?_
  refine lv_iconst (v := 1) hx hb dX13_isParcel_9 (by decide) ?_
  refine lv_isub hx hb dX13_isParcel_10 ?_
  obtain ⟨r2, h1, hf⟩ := bd_x hf
  refine g_callR (st1 := [.int r2]) (cells' := 0) (slots' := 0) M (g_invS (index := 52) S M C0 hl (c_X13_in l G H.size lo dd σ a1 0 ((σ 220 36) - 1)  h1) k_X13_in tw_6_182 tw_6_181 rfl rfl rfl rfl dX13_isParcel_11) rfl rfl rfl (fun H locs M => ?_)
  obtain ⟨z3, hf⟩ := gn_x hf
  cases hf
  exact g_zret S M hr hlk (g_narZ z3) (by decide) (by decide) dX13_isParcel_14 rfl
theorem k_X13_isGlove : gMV yX13_isGlove cX13_isGlove 2 (some .boolean) 1 := ⟨tw_7_131, tw_1_12, by decide⟩
set_option maxHeartbeats 400000 in
set_option maxRecDepth 100000 in
theorem c_X13_isGlove (l : Launch) (G : gT) (sz : Nat) (lo : Int64) (dd : UInt64) (σ : gM) (a1 : Int32) {o : Int32} (hf : f_X13_isGlove σ a1 = some o) : gCT l yX13_isGlove cX13_isGlove 2 (some .boolean) { frames := 1, cells := 0, slots := 0, locals := 22 } 0 0 G sz [.ref (G.1 219), .int a1] lo dd σ (.inl (mkI o, σ, lo, dd)) := by
  refine gCT_of (by decide) (Nat.le_of_ble_eq_true rfl) (fun p e s m args below meth c ls S hr hlk hnx hsz C0 hl H locs M => ?_)
  subst hsz
  have hx := S.1
  have hb := S.2.1
  unfold f_X13_isGlove at hf
  refine lv_iload_n hx hb dX13_isGlove_0 rfl (lv_at hl 1 rfl) ?_
  refine lv_iconst (v := 0) hx hb dX13_isGlove_1 (by decide) ?_
  refine lv_aload_n hx hb dX13_isGlove_2 rfl (lv_at hl 0 rfl) ?_
  refine gf_X13_0 (i := 219) S M (by decide) rfl tw_6_107 dX13_isGlove_3 ?_
  refine lv_bipush (v := 37) hx hb dX13_isGlove_6 (by decide) ?_
  refine gk_iald (i := 220) (k := 37) S M (by decide) (gaa_134 rfl) (by unfold vp_in; decide) (by decide) dX13_isGlove_8 ?_
  refine lv_iconst (v := 1) hx hb dX13_isGlove_9 (by decide) ?_
  refine lv_isub hx hb dX13_isGlove_10 ?_
  obtain ⟨r2, h1, hf⟩ := bd_x hf
  refine g_callR (st1 := [.int r2]) (cells' := 0) (slots' := 0) M (g_invS (index := 52) S M C0 hl (c_X13_in l G H.size lo dd σ a1 0 ((σ 220 37) - 1)  h1) k_X13_in tw_6_182 tw_6_181 rfl rfl rfl rfl dX13_isGlove_11) rfl rfl rfl (fun H locs M => ?_)
  obtain ⟨z3, hf⟩ := gn_x hf
  cases hf
  exact g_zret S M hr hlk (g_narZ z3) (by decide) (by decide) dX13_isGlove_14 rfl
theorem k_X13_road : gMV yX13_road cX13_road 3 (some .int) 2 := ⟨tw_6_191, tw_1_12, by decide⟩
set_option maxHeartbeats 400000 in
set_option maxRecDepth 100000 in
theorem c_X13_road (l : Launch) (G : gT) (sz : Nat) (lo : Int64) (dd : UInt64) (σ : gM) (a1 : Int32) (a2 : Int32) {o : Int32} (hf : f_X13_road σ a1 a2 = some o) : gCT l yX13_road cX13_road 3 (some .int) { frames := 0, cells := 0, slots := 0, locals := 0 } 0 0 G sz [.ref (G.1 219), .int a1, .int a2] lo dd σ (.inl (mkI o, σ, lo, dd)) := by
  refine gCT_of (by decide) (Nat.le_of_ble_eq_true rfl) (fun p e s m args below meth c ls S hr hlk hnx hsz C0 hl H locs M => ?_)
  subst hsz
  have hx := S.1
  have hb := S.2.1
  unfold f_X13_road at hf
  refine lv_aload_n hx hb dX13_road_0 rfl (lv_at hl 0 rfl) ?_
  refine gf_X13_0 (i := 219) S M (by decide) rfl tw_6_107 dX13_road_1 ?_
  refine lv_iconst (v := 0) hx hb dX13_road_4 (by decide) ?_
  refine lv_bipush (v := 6) hx hb dX13_road_5 (by decide) ?_
  refine lv_iload_n hx hb dX13_road_7 rfl (lv_at hl 1 rfl) ?_
  refine lv_imul hx hb dX13_road_8 ?_
  refine lv_iadd hx hb dX13_road_9 ?_
  refine lv_iload_n hx hb dX13_road_10 rfl (lv_at hl 2 rfl) ?_
  refine lv_iadd hx hb dX13_road_11 ?_
  obtain ⟨h1, hf⟩ := gi_x hf
  refine gk_iald (i := 220) (k := ((0 + (6 * a1)) + a2).toNatClampNeg) S M (by decide) (gaa_134 rfl) h1 rfl dX13_road_12 ?_
  cases hf
  exact g_iret S M hr hlk (by decide) (by decide) dX13_road_13 rfl
theorem k_X13_roads : gMV yX13_roads cX13_roads 4 (some .int) 0 := ⟨tw_6_195, tw_1_12, by decide⟩
set_option maxHeartbeats 400000 in
set_option maxRecDepth 100000 in
theorem w_X13_roads_L12 {p : Program} {l : Launch} {e : Env} {s : State} {m : MethodId} {args : Array Value} {below : List Frame} {meth : Method} {c : Code} {Q : State → Prop} {G : gT} {lo : Int64} {dd : UInt64} (S : CallFix p m c cX13_roads 4 s args gTs RX13) (C0 : gCST G (gAA G s.heap.size) s) (p2 : Int32) (σ : gM) : ∀ (n : Nat) (v1 : Int32) (v3 : Int32) (res : Int32), f_X13_roads_L12 p2 σ n v1 v3 = some res → ∀ (H : Heap) (locs : List Loc) (ls : Array Slot), gMS G (gAA G s.heap.size) lo dd σ s H locs → lv_has ls 4 [(0, .ref (G.1 219)), (1, .int v1), (2, .int p2), (3, .int v3)] → (k40 : ∀ (u1 : Int32), res = u1 → ∀ (H : Heap) (locs : List Loc) (ls : Array Slot), gMS G (gAA G s.heap.size) lo dd σ s H locs → lv_has ls 4 [(0, .ref (G.1 219)), (1, .int u1), (2, .int p2)] → W p l e ({ frames := 1, cells := 0, slots := 0, locals := 22 } : Room) s m args below meth c H locs 0 0 Q (F0 m 40 ls [])) → W p l e ({ frames := 1, cells := 0, slots := 0, locals := 22 } : Room) s m args below meth c H locs 0 0 Q (F0 m 12 ls []) := by
  have hx := S.1
  have hb := S.2.1
  intro n
  induction n with
  | zero =>
    intro v1 v3 res hf
    cases hf
  | succ n ih =>
    intro v1 v3 res hf H locs ls M hl k40
    rw [f_X13_roads_L12] at hf
    refine lv_iload_n hx hb dX13_roads_12 rfl (lv_at hl 3 rfl) ?_
    refine lv_iload_n hx hb dX13_roads_13 rfl (lv_at hl 2 rfl) ?_
    refine lv_icmp_ge (tgt := 40) hx hb dX13_roads_14 (by decide) (fun c2 => ?_) (fun c2 => ?_)
    · have hf := it_p c2 hf
      cases hf
      exact k40 _ rfl _ _ _ M (lv_sub hl [0, 1, 2] rfl)
    · have hf := it_n c2 hf
      refine lv_iload_n hx hb dX13_roads_17 rfl (lv_at hl 1 rfl) ?_
      refine lv_aload_n hx hb dX13_roads_18 rfl (lv_at hl 0 rfl) ?_
      refine lv_iload_n hx hb dX13_roads_19 rfl (lv_at hl 2 rfl) ?_
      refine lv_iload_n hx hb dX13_roads_20 rfl (lv_at hl 3 rfl) ?_
      obtain ⟨r4, h3, hf⟩ := bd_x hf
      refine g_callR (st1 := [.int r4, .int v1]) (cells' := 0) (slots' := 0) M (g_invV (index := 56) S M C0 hl (c_X13_road l G H.size lo dd σ p2 v3  h3) k_X13_road tw_6_190 tw_0_27 tw_6_188 (by decide) (ge_13 rfl) rfl rfl rfl rfl rfl rfl dX13_roads_21) rfl rfl rfl (fun H locs M => ?_)
      refine lv_if_le (tgt := 31) hx hb dX13_roads_24 (by decide) (fun c5 => ?_) (fun c5 => ?_)
      · have hf := it_p c5 hf
        refine lv_iconst (v := 0) hx hb dX13_roads_31 (by decide) ?_
        refine lv_iadd hx hb dX13_roads_32 ?_
        obtain ⟨x6, ex6, hf⟩ := nm_x hf
        refine g_topi ex6 ?_
        refine lv_istore_n (lv' := [(1, .int x6), (0, .ref (G.1 219)), (2, .int p2), (3, .int v3)]) hx hb dX13_roads_33 rfl hl (by decide) rfl (fun ls hl => ?_)
        obtain ⟨x7, ex7, hf⟩ := nm_x hf
        refine lv_iinc (v := x7) (lv' := [(3, .int x7), (1, .int x6), (0, .ref (G.1 219)), (2, .int p2)]) hx hb dX13_roads_34 hl (k := 3) rfl (by rw [ex7]; rfl) (by decide) rfl (fun ls hl => ?_)
        refine lv_goto (tgt := 12) hx hb dX13_roads_37 (by decide) ?_
        exact ih _ _ _ hf _ _ _ M (lv_sub hl [2, 1, 3, 0] rfl) k40
      · have hf := it_n c5 hf
        refine lv_iconst (v := 1) hx hb dX13_roads_27 (by decide) ?_
        refine lv_goto (tgt := 32) hx hb dX13_roads_28 (by decide) ?_
        refine lv_iadd hx hb dX13_roads_32 ?_
        obtain ⟨x8, ex8, hf⟩ := nm_x hf
        refine g_topi ex8 ?_
        refine lv_istore_n (lv' := [(1, .int x8), (0, .ref (G.1 219)), (2, .int p2), (3, .int v3)]) hx hb dX13_roads_33 rfl hl (by decide) rfl (fun ls hl => ?_)
        obtain ⟨x9, ex9, hf⟩ := nm_x hf
        refine lv_iinc (v := x9) (lv' := [(3, .int x9), (1, .int x8), (0, .ref (G.1 219)), (2, .int p2)]) hx hb dX13_roads_34 hl (k := 3) rfl (by rw [ex9]; rfl) (by decide) rfl (fun ls hl => ?_)
        refine lv_goto (tgt := 12) hx hb dX13_roads_37 (by decide) ?_
        exact ih _ _ _ hf _ _ _ M (lv_sub hl [2, 1, 3, 0] rfl) k40
set_option maxHeartbeats 400000 in
set_option maxRecDepth 100000 in
theorem w_X13_roads_L4 {p : Program} {l : Launch} {e : Env} {s : State} {m : MethodId} {args : Array Value} {below : List Frame} {meth : Method} {c : Code} {Q : State → Prop} {G : gT} {lo : Int64} {dd : UInt64} (S : CallFix p m c cX13_roads 4 s args gTs RX13) (C0 : gCST G (gAA G s.heap.size) s) (σ : gM) : ∀ (n : Nat) (v1 : Int32) (v2 : Int32) (res : Int32), f_X13_roads_L4 σ n v1 v2 = some res → ∀ (H : Heap) (locs : List Loc) (ls : Array Slot), gMS G (gAA G s.heap.size) lo dd σ s H locs → lv_has ls 4 [(0, .ref (G.1 219)), (1, .int v1), (2, .int v2)] → (k46 : ∀ (u1 : Int32), res = u1 → ∀ (H : Heap) (locs : List Loc) (ls : Array Slot), gMS G (gAA G s.heap.size) lo dd σ s H locs → lv_has ls 4 [(1, .int u1)] → W p l e ({ frames := 1, cells := 0, slots := 0, locals := 22 } : Room) s m args below meth c H locs 0 0 Q (F0 m 46 ls [])) → W p l e ({ frames := 1, cells := 0, slots := 0, locals := 22 } : Room) s m args below meth c H locs 0 0 Q (F0 m 4 ls []) := by
  have hx := S.1
  have hb := S.2.1
  intro n
  induction n with
  | zero =>
    intro v1 v2 res hf
    cases hf
  | succ n ih =>
    intro v1 v2 res hf H locs ls M hl k46
    rw [f_X13_roads_L4] at hf
    refine lv_iload_n hx hb dX13_roads_4 rfl (lv_at hl 2 rfl) ?_
    refine lv_bipush (v := 6) hx hb dX13_roads_5 (by decide) ?_
    refine lv_icmp_ge (tgt := 46) hx hb dX13_roads_7 (by decide) (fun c1 => ?_) (fun c1 => ?_)
    · have hf := it_p c1 hf
      cases hf
      exact k46 _ rfl _ _ _ M (lv_sub hl [1] rfl)
    · have hf := it_n c1 hf
      refine lv_iconst (v := 0) hx hb dX13_roads_10 (by decide) ?_
      refine lv_istore_n (lv' := [(3, .int 0), (0, .ref (G.1 219)), (1, .int v1), (2, .int v2)]) hx hb dX13_roads_11 rfl hl (by decide) rfl (fun ls hl => ?_)
      obtain ⟨y11, h10, hf⟩ := bd_x hf
      refine w_X13_roads_L12 S C0 v2 σ gFU v1 0 _ h10 _ _ _ M (lv_sub hl [1, 2, 3, 0] rfl) (fun _ eq H locs ls M hl => ?_)
      cases eq
      obtain ⟨x12, ex12, hf⟩ := nm_x hf
      refine lv_iinc (v := x12) (lv' := [(2, .int x12), (0, .ref (G.1 219)), (1, .int y11)]) hx hb dX13_roads_40 hl (k := 2) rfl (by rw [ex12]; rfl) (by decide) rfl (fun ls hl => ?_)
      refine lv_goto (tgt := 4) hx hb dX13_roads_43 (by decide) ?_
      exact ih _ _ _ hf _ _ _ M (lv_sub hl [1, 2, 0] rfl) k46
set_option maxHeartbeats 400000 in
set_option maxRecDepth 100000 in
theorem c_X13_roads (l : Launch) (G : gT) (sz : Nat) (lo : Int64) (dd : UInt64) (σ : gM) {o : Int32} (hf : f_X13_roads σ = some o) : gCT l yX13_roads cX13_roads 4 (some .int) { frames := 1, cells := 0, slots := 0, locals := 22 } 0 0 G sz [.ref (G.1 219)] lo dd σ (.inl (mkI o, σ, lo, dd)) := by
  refine gCT_of (by decide) (Nat.le_of_ble_eq_true rfl) (fun p e s m args below meth c ls S hr hlk hnx hsz C0 hl H locs M => ?_)
  subst hsz
  have hx := S.1
  have hb := S.2.1
  unfold f_X13_roads at hf
  refine lv_iconst (v := 0) hx hb dX13_roads_0 (by decide) ?_
  refine lv_istore_n (lv' := [(1, .int 0), (0, .ref (G.1 219))]) hx hb dX13_roads_1 rfl hl (by decide) rfl (fun ls hl => ?_)
  refine lv_iconst (v := 0) hx hb dX13_roads_2 (by decide) ?_
  refine lv_istore_n (lv' := [(2, .int 0), (1, .int 0), (0, .ref (G.1 219))]) hx hb dX13_roads_3 rfl hl (by decide) rfl (fun ls hl => ?_)
  obtain ⟨y14, h13, hf⟩ := bd_x hf
  refine w_X13_roads_L4 S C0 σ gFU 0 0 _ h13 _ _ _ M (lv_sub hl [2, 1, 0] rfl) (fun _ eq H locs ls M hl => ?_)
  cases eq
  refine lv_iload_n hx hb dX13_roads_46 rfl (lv_at hl 0 rfl) ?_
  cases hf
  exact g_iret S M hr hlk (by decide) (by decide) dX13_roads_47 rfl
theorem k_X13_builds : gMV yX13_builds cX13_builds 4 (some .int) 3 := ⟨tw_6_177, tw_1_12, by decide⟩
set_option maxHeartbeats 400000 in
set_option maxRecDepth 100000 in
theorem c_X13_builds (l : Launch) (G : gT) (sz : Nat) (lo : Int64) (dd : UInt64) (σ : gM) (a1 : Int32) (a2 : Int32) (a3 : Int32) {r : Int32} {o : gM} (hf : f_X13_builds σ a1 a2 a3 = some (r, o)) : gCT l yX13_builds cX13_builds 4 (some .int) { frames := 2, cells := 0, slots := 0, locals := 45 } 0 0 G sz [.ref (G.1 219), .int a1, .int a2, .int a3] lo dd σ (.inl (mkI r, o, lo, dd)) := by
  refine gCT_of (by decide) (Nat.le_of_ble_eq_true rfl) (fun p e s m args below meth c ls S hr hlk hnx hsz C0 hl H locs M => ?_)
  subst hsz
  have hx := S.1
  have hb := S.2.1
  unfold f_X13_builds at hf
  refine lv_iload_n hx hb dX13_builds_0 rfl (lv_at hl 1 rfl) ?_
  obtain ⟨r2, h1, hf⟩ := bd_x hf
  refine g_callR (st1 := [.int r2]) (cells' := 0) (slots' := 0) M (g_invS (index := 60) S M C0 hl (c_X13_isPlace l G H.size lo dd σ a1  h1) k_X13_isPlace tw_6_179 tw_6_178 rfl rfl rfl rfl dX13_builds_1) rfl rfl rfl (fun H locs M => ?_)
  refine lv_if_eq (tgt := 14) hx hb dX13_builds_4 (by decide) (fun c3 => ?_) (fun c3 => ?_)
  · have hf := it_p c3 hf
    refine lv_aload_n hx hb dX13_builds_14 rfl (lv_at hl 0 rfl) ?_
    refine lv_iconst (v := 1) hx hb dX13_builds_15 (by decide) ?_
    obtain ⟨r5, σ6, h4, hf⟩ := bd2_x hf
    refine g_callR (st1 := [.int r5]) (cells' := 0) (slots' := 0) M (g_invV (index := 64) S M C0 hl (c_X13_fails l G H.size lo dd σ 1  h4) k_X13_fails tw_6_186 tw_0_26 tw_6_184 (by decide) (ge_13 rfl) rfl rfl rfl rfl rfl rfl dX13_builds_16) rfl rfl rfl (fun H locs M => ?_)
    cases hf
    exact g_iret S M hr hlk (by decide) (by decide) dX13_builds_19 rfl
  · have hf := it_n c3 hf
    refine lv_iload_n hx hb dX13_builds_7 rfl (lv_at hl 2 rfl) ?_
    obtain ⟨r8, h7, hf⟩ := bd_x hf
    refine g_callR (st1 := [.int r8]) (cells' := 0) (slots' := 0) M (g_invS (index := 60) S M C0 hl (c_X13_isPlace l G H.size lo dd σ a2  h7) k_X13_isPlace tw_6_179 tw_6_178 rfl rfl rfl rfl dX13_builds_8) rfl rfl rfl (fun H locs M => ?_)
    refine lv_if_ne (tgt := 20) hx hb dX13_builds_11 (by decide) (fun c9 => ?_) (fun c9 => ?_)
    · have hf := it_n c9 hf
      refine lv_iload_n hx hb dX13_builds_20 rfl (lv_at hl 1 rfl) ?_
      refine lv_iload_n hx hb dX13_builds_21 rfl (lv_at hl 2 rfl) ?_
      refine lv_icmp_eq (tgt := 35) hx hb dX13_builds_22 (by decide) (fun c10 => ?_) (fun c10 => ?_)
      · have hf := it_p c10 hf
        refine lv_aload_n hx hb dX13_builds_35 rfl (lv_at hl 0 rfl) ?_
        refine lv_iconst (v := 2) hx hb dX13_builds_36 (by decide) ?_
        obtain ⟨r12, σ13, h11, hf⟩ := bd2_x hf
        refine g_callR (st1 := [.int r12]) (cells' := 0) (slots' := 0) M (g_invV (index := 64) S M C0 hl (c_X13_fails l G H.size lo dd σ 2  h11) k_X13_fails tw_6_186 tw_0_26 tw_6_184 (by decide) (ge_13 rfl) rfl rfl rfl rfl rfl rfl dX13_builds_37) rfl rfl rfl (fun H locs M => ?_)
        cases hf
        exact g_iret S M hr hlk (by decide) (by decide) dX13_builds_40 rfl
      · have hf := it_n c10 hf
        refine lv_iload_n hx hb dX13_builds_25 rfl (lv_at hl 3 rfl) ?_
        refine lv_iconst (v := 1) hx hb dX13_builds_26 (by decide) ?_
        refine lv_bipush (v := 20) hx hb dX13_builds_27 (by decide) ?_
        obtain ⟨r15, h14, hf⟩ := bd_x hf
        refine g_callR (st1 := [.int r15]) (cells' := 0) (slots' := 0) M (g_invS (index := 52) S M C0 hl (c_X13_in l G H.size lo dd σ a3 1 20  h14) k_X13_in tw_6_182 tw_6_181 rfl rfl rfl rfl dX13_builds_29) rfl rfl rfl (fun H locs M => ?_)
        refine lv_if_ne (tgt := 41) hx hb dX13_builds_32 (by decide) (fun c16 => ?_) (fun c16 => ?_)
        · have hf := it_n c16 hf
          refine lv_aload_n hx hb dX13_builds_41 rfl (lv_at hl 0 rfl) ?_
          refine lv_iload_n hx hb dX13_builds_42 rfl (lv_at hl 1 rfl) ?_
          refine lv_iload_n hx hb dX13_builds_43 rfl (lv_at hl 2 rfl) ?_
          obtain ⟨r18, h17, hf⟩ := bd_x hf
          refine g_callR (st1 := [.int r18]) (cells' := 0) (slots' := 0) M (g_invV (index := 56) S M C0 hl (c_X13_road l G H.size lo dd σ a1 a2  h17) k_X13_road tw_6_190 tw_0_27 tw_6_188 (by decide) (ge_13 rfl) rfl rfl rfl rfl rfl rfl dX13_builds_44) rfl rfl rfl (fun H locs M => ?_)
          refine lv_if_le (tgt := 56) hx hb dX13_builds_47 (by decide) (fun c19 => ?_) (fun c19 => ?_)
          · have hf := it_p c19 hf
            refine lv_aload_n hx hb dX13_builds_56 rfl (lv_at hl 0 rfl) ?_
            refine gf_X13_0 (i := 219) S M (by decide) rfl tw_6_107 dX13_builds_57 ?_
            refine lv_iconst (v := 0) hx hb dX13_builds_60 (by decide) ?_
            refine lv_bipush (v := 6) hx hb dX13_builds_61 (by decide) ?_
            refine lv_iload_n hx hb dX13_builds_63 rfl (lv_at hl 1 rfl) ?_
            refine lv_imul hx hb dX13_builds_64 ?_
            refine lv_iadd hx hb dX13_builds_65 ?_
            refine lv_iload_n hx hb dX13_builds_66 rfl (lv_at hl 2 rfl) ?_
            refine lv_iadd hx hb dX13_builds_67 ?_
            refine lv_iload_n hx hb dX13_builds_68 rfl (lv_at hl 3 rfl) ?_
            obtain ⟨h20, hf⟩ := gi_x hf
            obtain ⟨σ21, eσ21, hf⟩ := nm_x hf
            refine gk_iast (i := 220) (k := ((0 + (6 * a1)) + a2).toNatClampNeg) S M (by decide) (fun _ => (gaa_134 rfl)) h20 rfl dX13_builds_69 (fun H locs M => ?_)
            rw [← eσ21] at M
            refine lv_aload_n hx hb dX13_builds_70 rfl (lv_at hl 0 rfl) ?_
            refine gf_X13_0 (i := 219) S M (by decide) rfl tw_6_107 dX13_builds_71 ?_
            refine lv_iconst (v := 0) hx hb dX13_builds_74 (by decide) ?_
            refine lv_bipush (v := 6) hx hb dX13_builds_75 (by decide) ?_
            refine lv_iload_n hx hb dX13_builds_77 rfl (lv_at hl 2 rfl) ?_
            refine lv_imul hx hb dX13_builds_78 ?_
            refine lv_iadd hx hb dX13_builds_79 ?_
            refine lv_iload_n hx hb dX13_builds_80 rfl (lv_at hl 1 rfl) ?_
            refine lv_iadd hx hb dX13_builds_81 ?_
            refine lv_iload_n hx hb dX13_builds_82 rfl (lv_at hl 3 rfl) ?_
            obtain ⟨h22, hf⟩ := gi_x hf
            obtain ⟨σ23, eσ23, hf⟩ := nm_x hf
            refine gk_iast (i := 220) (k := ((0 + (6 * a2)) + a1).toNatClampNeg) S M (by decide) (fun _ => (gaa_134 rfl)) h22 rfl dX13_builds_83 (fun H locs M => ?_)
            rw [← eσ23] at M
            refine lv_aload_n hx hb dX13_builds_84 rfl (lv_at hl 0 rfl) ?_
            refine lv_aload_n hx hb dX13_builds_85 rfl (lv_at hl 0 rfl) ?_
            obtain ⟨r25, h24, hf⟩ := bd_x hf
            refine g_callR (st1 := [.int r25, .ref (G.1 219)]) (cells' := 0) (slots' := 0) M (g_invV (index := 68) S M C0 hl (c_X13_roads l G H.size lo dd σ23   h24) k_X13_roads tw_6_194 tw_0_28 tw_6_192 (by decide) (ge_13 rfl) rfl rfl rfl rfl rfl rfl dX13_builds_86) rfl rfl rfl (fun H locs M => ?_)
            obtain ⟨r27, σ28, h26, hf⟩ := bd2_x hf
            refine g_callR (st1 := [.int r27]) (cells' := 0) (slots' := 0) M (g_invV (index := 72) S M C0 hl (c_X13_done l G H.size lo dd σ23 r25  h26) k_X13_done tw_6_198 tw_0_29 tw_6_196 (by decide) (ge_13 rfl) rfl rfl rfl rfl rfl rfl dX13_builds_89) rfl rfl rfl (fun H locs M => ?_)
            cases hf
            exact g_iret S M hr hlk (by decide) (by decide) dX13_builds_92 rfl
          · have hf := it_n c19 hf
            refine lv_aload_n hx hb dX13_builds_50 rfl (lv_at hl 0 rfl) ?_
            refine lv_iconst (v := 3) hx hb dX13_builds_51 (by decide) ?_
            obtain ⟨r30, σ31, h29, hf⟩ := bd2_x hf
            refine g_callR (st1 := [.int r30]) (cells' := 0) (slots' := 0) M (g_invV (index := 64) S M C0 hl (c_X13_fails l G H.size lo dd σ 3  h29) k_X13_fails tw_6_186 tw_0_26 tw_6_184 (by decide) (ge_13 rfl) rfl rfl rfl rfl rfl rfl dX13_builds_52) rfl rfl rfl (fun H locs M => ?_)
            cases hf
            exact g_iret S M hr hlk (by decide) (by decide) dX13_builds_55 rfl
        · have hf := it_p c16 hf
          refine lv_aload_n hx hb dX13_builds_35 rfl (lv_at hl 0 rfl) ?_
          refine lv_iconst (v := 2) hx hb dX13_builds_36 (by decide) ?_
          obtain ⟨r33, σ34, h32, hf⟩ := bd2_x hf
          refine g_callR (st1 := [.int r33]) (cells' := 0) (slots' := 0) M (g_invV (index := 64) S M C0 hl (c_X13_fails l G H.size lo dd σ 2  h32) k_X13_fails tw_6_186 tw_0_26 tw_6_184 (by decide) (ge_13 rfl) rfl rfl rfl rfl rfl rfl dX13_builds_37) rfl rfl rfl (fun H locs M => ?_)
          cases hf
          exact g_iret S M hr hlk (by decide) (by decide) dX13_builds_40 rfl
    · have hf := it_p c9 hf
      refine lv_aload_n hx hb dX13_builds_14 rfl (lv_at hl 0 rfl) ?_
      refine lv_iconst (v := 1) hx hb dX13_builds_15 (by decide) ?_
      obtain ⟨r36, σ37, h35, hf⟩ := bd2_x hf
      refine g_callR (st1 := [.int r36]) (cells' := 0) (slots' := 0) M (g_invV (index := 64) S M C0 hl (c_X13_fails l G H.size lo dd σ 1  h35) k_X13_fails tw_6_186 tw_0_26 tw_6_184 (by decide) (ge_13 rfl) rfl rfl rfl rfl rfl rfl dX13_builds_16) rfl rfl rfl (fun H locs M => ?_)
      cases hf
      exact g_iret S M hr hlk (by decide) (by decide) dX13_builds_19 rfl
theorem k_X13_buildRoad : gMV yX13_buildRoad cX13_buildRoad 4 (some .int) 3 := ⟨tw_6_166, tw_1_12, by decide⟩
set_option maxHeartbeats 400000 in
set_option maxRecDepth 100000 in
theorem c_X13_buildRoad (l : Launch) (G : gT) (sz : Nat) (lo : Int64) (dd : UInt64) (σ : gM) (a1 : Int32) (a2 : Int32) (a3 : Int32) {r : Int32} {o : gM} (hf : f_X13_buildRoad σ a1 a2 a3 = some (r, o)) : gCT l yX13_buildRoad cX13_buildRoad 4 (some .int) { frames := 3, cells := 0, slots := 0, locals := 68 } 0 0 G sz [.ref (G.1 219), .int a1, .int a2, .int a3] lo dd σ (.inl (mkI r, o, lo, dd)) := by
  refine gCT_of (by decide) (Nat.le_of_ble_eq_true rfl) (fun p e s m args below meth c ls S hr hlk hnx hsz C0 hl H locs M => ?_)
  subst hsz
  have hx := S.1
  have hb := S.2.1
  unfold f_X13_buildRoad at hf
  refine lv_aload_n hx hb dX13_buildRoad_0 rfl (lv_at hl 0 rfl) ?_
  obtain ⟨σ2, h1, hf⟩ := bd_x hf
  refine g_callR (st1 := []) (cells' := 0) (slots' := 0) M (g_invV (index := 75) S M C0 hl (c_X13_begin l G H.size lo dd σ   h1) k_X13_begin tw_6_169 tw_0_24 tw_6_167 (by decide) (ge_13 rfl) rfl rfl rfl rfl rfl rfl dX13_buildRoad_1) rfl rfl rfl (fun H locs M => ?_)
  refine lv_aload_n hx hb dX13_buildRoad_4 rfl (lv_at hl 0 rfl) ?_
  refine lv_aload_n hx hb dX13_buildRoad_5 rfl (lv_at hl 0 rfl) ?_
  refine lv_iload_n hx hb dX13_buildRoad_6 rfl (lv_at hl 1 rfl) ?_
  refine lv_iload_n hx hb dX13_buildRoad_7 rfl (lv_at hl 2 rfl) ?_
  refine lv_iload_n hx hb dX13_buildRoad_8 rfl (lv_at hl 3 rfl) ?_
  obtain ⟨r4, σ5, h3, hf⟩ := bd2_x hf
  refine g_callR (st1 := [.int r4, .ref (G.1 219)]) (cells' := 0) (slots' := 0) M (g_invV (index := 78) S M C0 hl (c_X13_builds l G H.size lo dd σ2 a1 a2 a3  h3) k_X13_builds tw_6_176 tw_0_25 tw_6_174 (by decide) (ge_13 rfl) rfl rfl rfl rfl rfl rfl dX13_buildRoad_9) rfl rfl rfl (fun H locs M => ?_)
  obtain ⟨r7, σ8, h6, hf⟩ := bd2_x hf
  refine g_callR (st1 := [.int r7]) (cells' := 0) (slots' := 0) M (g_invV (index := 82) S M C0 hl (c_X13_kept l G H.size lo dd σ5 r4  h6) k_X13_kept tw_6_202 tw_0_30 tw_6_200 (by decide) (ge_13 rfl) rfl rfl rfl rfl rfl rfl dX13_buildRoad_12) rfl rfl rfl (fun H locs M => ?_)
  cases hf
  exact g_iret S M hr hlk (by decide) (by decide) dX13_buildRoad_15 rfl
theorem k_X13_explores : gMV yX13_explores cX13_explores 7 none 1 := ⟨tw_7_46, tw_1_12, by decide⟩
set_option maxHeartbeats 400000 in
set_option maxRecDepth 100000 in
theorem w_X13_explores_L2 {p : Program} {l : Launch} {e : Env} {s : State} {m : MethodId} {args : Array Value} {below : List Frame} {meth : Method} {c : Code} {Q : State → Prop} {G : gT} {lo : Int64} {dd : UInt64} (S : CallFix p m c cX13_explores 7 s args gTs RX13) (C0 : gCST G (gAA G s.heap.size) s) (p1 : Int32) : ∀ (n : Nat) (v2 : Int32) (σ : gM) (res : gM), f_X13_explores_L2 p1 n v2 σ = some res → ∀ (H : Heap) (locs : List Loc) (ls : Array Slot), gMS G (gAA G s.heap.size) lo dd σ s H locs → lv_has ls 7 [(0, .ref (G.1 219)), (1, .int p1), (2, .int v2)] → (k32 : ∀ (τ : gM), res = τ → ∀ (H : Heap) (locs : List Loc) (ls : Array Slot), gMS G (gAA G s.heap.size) lo dd τ s H locs → lv_has ls 7 [(0, .ref (G.1 219))] → W p l e ({ frames := 1, cells := 0, slots := 0, locals := 22 } : Room) s m args below meth c H locs 0 0 Q (F0 m 32 ls [])) → W p l e ({ frames := 1, cells := 0, slots := 0, locals := 22 } : Room) s m args below meth c H locs 0 0 Q (F0 m 2 ls []) := by
  have hx := S.1
  have hb := S.2.1
  intro n
  induction n with
  | zero =>
    intro v2 σ res hf
    cases hf
  | succ n ih =>
    intro v2 σ res hf H locs ls M hl k32
    rw [f_X13_explores_L2] at hf
    refine lv_iload_n hx hb dX13_explores_2 rfl (lv_at hl 2 rfl) ?_
    refine lv_bipush (v := 6) hx hb dX13_explores_3 (by decide) ?_
    refine lv_icmp_ge (tgt := 32) hx hb dX13_explores_5 (by decide) (fun c1 => ?_) (fun c1 => ?_)
    · have hf := it_p c1 hf
      cases hf
      exact k32 _ rfl _ _ _ M (lv_sub hl [0] rfl)
    · have hf := it_n c1 hf
      refine lv_aload_n hx hb dX13_explores_8 rfl (lv_at hl 0 rfl) ?_
      refine gf_X13_13 (i := 219) S M (by decide) rfl tw_6_120 dX13_explores_9 ?_
      refine lv_iload_n hx hb dX13_explores_12 rfl (lv_at hl 2 rfl) ?_
      refine lv_iload_n hx hb dX13_explores_13 rfl (lv_at hl 2 rfl) ?_
      refine lv_iload_n hx hb dX13_explores_14 rfl (lv_at hl 1 rfl) ?_
      refine lv_icmp_ne (tgt := 22) hx hb dX13_explores_15 (by decide) (fun c2 => ?_) (fun c2 => ?_)
      · have hf := it_n c2 hf
        refine lv_sipush (v := 1000) hx hb dX13_explores_22 (by decide) ?_
        obtain ⟨h3, hf⟩ := gi_x hf
        obtain ⟨σ4, eσ4, hf⟩ := nm_x hf
        refine gk_iast (i := 226) (k := v2.toNatClampNeg) S M (by decide) (fun _ => (gaa_6 rfl)) h3 rfl dX13_explores_25 (fun H locs M => ?_)
        rw [← eσ4] at M
        obtain ⟨x5, ex5, hf⟩ := nm_x hf
        refine lv_iinc (v := x5) (lv' := [(2, .int x5), (0, .ref (G.1 219)), (1, .int p1)]) hx hb dX13_explores_26 hl (k := 2) rfl (by rw [ex5]; rfl) (by decide) rfl (fun ls hl => ?_)
        refine lv_goto (tgt := 2) hx hb dX13_explores_29 (by decide) ?_
        exact ih _ _ _ hf _ _ _ M (lv_sub hl [1, 2, 0] rfl) k32
      · have hf := it_p c2 hf
        refine lv_iconst (v := 0) hx hb dX13_explores_18 (by decide) ?_
        refine lv_goto (tgt := 25) hx hb dX13_explores_19 (by decide) ?_
        obtain ⟨h6, hf⟩ := gi_x hf
        obtain ⟨σ7, eσ7, hf⟩ := nm_x hf
        refine gk_iast (i := 226) (k := v2.toNatClampNeg) S M (by decide) (fun _ => (gaa_6 rfl)) h6 rfl dX13_explores_25 (fun H locs M => ?_)
        rw [← eσ7] at M
        obtain ⟨x8, ex8, hf⟩ := nm_x hf
        refine lv_iinc (v := x8) (lv' := [(2, .int x8), (0, .ref (G.1 219)), (1, .int p1)]) hx hb dX13_explores_26 hl (k := 2) rfl (by rw [ex8]; rfl) (by decide) rfl (fun ls hl => ?_)
        refine lv_goto (tgt := 2) hx hb dX13_explores_29 (by decide) ?_
        exact ih _ _ _ hf _ _ _ M (lv_sub hl [1, 2, 0] rfl) k32
set_option maxHeartbeats 400000 in
set_option maxRecDepth 100000 in
theorem w_X13_explores_L51 {p : Program} {l : Launch} {e : Env} {s : State} {m : MethodId} {args : Array Value} {below : List Frame} {meth : Method} {c : Code} {Q : State → Prop} {G : gT} {lo : Int64} {dd : UInt64} (S : CallFix p m c cX13_explores 7 s args gTs RX13) (C0 : gCST G (gAA G s.heap.size) s) (p2 : Int32) (p3 : Int32) : ∀ (n : Nat) (v4 : Int32) (σ : gM) (res : gM), f_X13_explores_L51 p2 p3 n v4 σ = some res → ∀ (H : Heap) (locs : List Loc) (ls : Array Slot), gMS G (gAA G s.heap.size) lo dd σ s H locs → lv_has ls 7 [(0, .ref (G.1 219)), (2, .int p2), (3, .int p3), (4, .int v4)] → (k133 : ∀ (τ : gM), res = τ → ∀ (H : Heap) (locs : List Loc) (ls : Array Slot), gMS G (gAA G s.heap.size) lo dd τ s H locs → lv_has ls 7 [(0, .ref (G.1 219)), (2, .int p2), (3, .int p3)] → W p l e ({ frames := 1, cells := 0, slots := 0, locals := 22 } : Room) s m args below meth c H locs 0 0 Q (F0 m 133 ls [])) → W p l e ({ frames := 1, cells := 0, slots := 0, locals := 22 } : Room) s m args below meth c H locs 0 0 Q (F0 m 51 ls []) := by
  have hx := S.1
  have hb := S.2.1
  intro n
  induction n with
  | zero =>
    intro v4 σ res hf
    cases hf
  | succ n ih =>
    intro v4 σ res hf H locs ls M hl k133
    rw [f_X13_explores_L51] at hf
    refine lv_iload hx hb dX13_explores_51 (lv_at hl 3 rfl) ?_
    refine lv_bipush (v := 6) hx hb dX13_explores_53 (by decide) ?_
    refine lv_icmp_ge (tgt := 133) hx hb dX13_explores_55 (by decide) (fun c13 => ?_) (fun c13 => ?_)
    · have hf := it_p c13 hf
      cases hf
      exact k133 _ rfl _ _ _ M (lv_sub hl [0, 1, 2] rfl)
    · have hf := it_n c13 hf
      refine lv_aload_n hx hb dX13_explores_58 rfl (lv_at hl 0 rfl) ?_
      refine gf_X13_13 (i := 219) S M (by decide) rfl tw_6_120 dX13_explores_59 ?_
      refine lv_iload_n hx hb dX13_explores_62 rfl (lv_at hl 2 rfl) ?_
      obtain ⟨h14, hf⟩ := gi_x hf
      refine gk_iald (i := 226) (k := p3.toNatClampNeg) S M (by decide) (gaa_6 rfl) h14 rfl dX13_explores_63 ?_
      refine lv_aload_n hx hb dX13_explores_64 rfl (lv_at hl 0 rfl) ?_
      refine lv_iload_n hx hb dX13_explores_65 rfl (lv_at hl 2 rfl) ?_
      refine lv_iload hx hb dX13_explores_66 (lv_at hl 3 rfl) ?_
      obtain ⟨r16, h15, hf⟩ := bd_x hf
      refine g_callR (st1 := [.int r16, .int (σ 226 p3.toNatClampNeg)]) (cells' := 0) (slots' := 0) M (g_invV (index := 56) S M C0 hl (c_X13_road l G H.size lo dd σ p3 v4  h15) k_X13_road tw_6_190 tw_0_27 tw_6_188 (by decide) (ge_13 rfl) rfl rfl rfl rfl rfl rfl dX13_explores_68) rfl rfl rfl (fun H locs M => ?_)
      refine lv_iadd hx hb dX13_explores_71 ?_
      obtain ⟨x17, ex17, hf⟩ := nm_x hf
      refine g_topi ex17 ?_
      refine lv_istore (lv' := [(5, .int x17), (0, .ref (G.1 219)), (2, .int p2), (3, .int p3), (4, .int v4)]) hx hb dX13_explores_72 hl (by decide) rfl (fun ls hl => ?_)
      refine lv_aload_n hx hb dX13_explores_74 rfl (lv_at hl 1 rfl) ?_
      refine lv_iload_n hx hb dX13_explores_75 rfl (lv_at hl 3 rfl) ?_
      refine lv_iload hx hb dX13_explores_76 (lv_at hl 4 rfl) ?_
      obtain ⟨r19, h18, hf⟩ := bd_x hf
      refine g_callR (st1 := [.int r19]) (cells' := 0) (slots' := 0) M (g_invV (index := 56) S M C0 hl (c_X13_road l G H.size lo dd σ p3 v4  h18) k_X13_road tw_6_190 tw_0_27 tw_6_188 (by decide) (ge_13 rfl) rfl rfl rfl rfl rfl rfl dX13_explores_78) rfl rfl rfl (fun H locs M => ?_)
      refine lv_if_le (tgt := 100) hx hb dX13_explores_81 (by decide) (fun c20 => ?_) (fun c20 => ?_)
      · have hf := it_p c20 hf
        refine lv_iconst (v := 0) hx hb dX13_explores_100 (by decide) ?_
        refine lv_istore (lv' := [(6, .int 0), (5, .int x17), (0, .ref (G.1 219)), (2, .int p2), (3, .int p3), (4, .int v4)]) hx hb dX13_explores_101 hl (by decide) rfl (fun ls hl => ?_)
        refine lv_aload_n hx hb dX13_explores_103 rfl (lv_at hl 2 rfl) ?_
        refine gf_X13_13 (i := 219) S M (by decide) rfl tw_6_120 dX13_explores_104 ?_
        refine lv_iload hx hb dX13_explores_107 (lv_at hl 5 rfl) ?_
        refine lv_iload hx hb dX13_explores_109 (lv_at hl 0 rfl) ?_
        refine lv_if_eq (tgt := 119) hx hb dX13_explores_111 (by decide) (fun c21 => ?_) (fun c21 => ?_)
        · refine lv_aload_n hx hb dX13_explores_119 rfl (lv_at hl 2 rfl) ?_
          refine gf_X13_13 (i := 219) S M (by decide) rfl tw_6_120 dX13_explores_120 ?_
          refine lv_iload hx hb dX13_explores_123 (lv_at hl 5 rfl) ?_
          obtain ⟨h22, hf⟩ := gi_x hf
          refine gk_iald (i := 226) (k := v4.toNatClampNeg) S M (by decide) (gaa_6 rfl) h22 rfl dX13_explores_125 ?_
          obtain ⟨h23, hf⟩ := gi_x hf
          obtain ⟨σ24, eσ24, hf⟩ := nm_x hf
          refine gk_iast (i := 226) (k := v4.toNatClampNeg) S M (by decide) (fun _ => (gaa_6 rfl)) h23 rfl dX13_explores_126 (fun H locs M => ?_)
          rw [← eσ24] at M
          obtain ⟨x25, ex25, hf⟩ := nm_x hf
          refine lv_iinc (v := x25) (lv' := [(4, .int x25), (6, .int 0), (5, .int x17), (0, .ref (G.1 219)), (2, .int p2), (3, .int p3)]) hx hb dX13_explores_127 hl (k := 5) rfl (by rw [ex25]; rfl) (by decide) rfl (fun ls hl => ?_)
          refine lv_goto (tgt := 51) hx hb dX13_explores_130 (by decide) ?_
          exact ih _ _ _ hf _ _ _ M (lv_sub hl [3, 4, 5, 0] rfl) k133
        · exact absurd c21 (by decide)
      · have hf := it_n c20 hf
        refine lv_iload hx hb dX13_explores_84 (lv_at hl 0 rfl) ?_
        refine lv_aload_n hx hb dX13_explores_86 rfl (lv_at hl 1 rfl) ?_
        refine gf_X13_13 (i := 219) S M (by decide) rfl tw_6_120 dX13_explores_87 ?_
        refine lv_iload hx hb dX13_explores_90 (lv_at hl 4 rfl) ?_
        obtain ⟨h26, hf⟩ := gi_x hf
        refine gk_iald (i := 226) (k := v4.toNatClampNeg) S M (by decide) (gaa_6 rfl) h26 rfl dX13_explores_92 ?_
        refine lv_icmp_ge (tgt := 100) hx hb dX13_explores_93 (by decide) (fun c27 => ?_) (fun c27 => ?_)
        · have hf := it_p c27 hf
          refine lv_iconst (v := 0) hx hb dX13_explores_100 (by decide) ?_
          refine lv_istore (lv' := [(6, .int 0), (5, .int x17), (0, .ref (G.1 219)), (2, .int p2), (3, .int p3), (4, .int v4)]) hx hb dX13_explores_101 hl (by decide) rfl (fun ls hl => ?_)
          refine lv_aload_n hx hb dX13_explores_103 rfl (lv_at hl 2 rfl) ?_
          refine gf_X13_13 (i := 219) S M (by decide) rfl tw_6_120 dX13_explores_104 ?_
          refine lv_iload hx hb dX13_explores_107 (lv_at hl 5 rfl) ?_
          refine lv_iload hx hb dX13_explores_109 (lv_at hl 0 rfl) ?_
          refine lv_if_eq (tgt := 119) hx hb dX13_explores_111 (by decide) (fun c28 => ?_) (fun c28 => ?_)
          · refine lv_aload_n hx hb dX13_explores_119 rfl (lv_at hl 2 rfl) ?_
            refine gf_X13_13 (i := 219) S M (by decide) rfl tw_6_120 dX13_explores_120 ?_
            refine lv_iload hx hb dX13_explores_123 (lv_at hl 5 rfl) ?_
            obtain ⟨h29, hf⟩ := gi_x hf
            refine gk_iald (i := 226) (k := v4.toNatClampNeg) S M (by decide) (gaa_6 rfl) h29 rfl dX13_explores_125 ?_
            obtain ⟨h30, hf⟩ := gi_x hf
            obtain ⟨σ31, eσ31, hf⟩ := nm_x hf
            refine gk_iast (i := 226) (k := v4.toNatClampNeg) S M (by decide) (fun _ => (gaa_6 rfl)) h30 rfl dX13_explores_126 (fun H locs M => ?_)
            rw [← eσ31] at M
            obtain ⟨x32, ex32, hf⟩ := nm_x hf
            refine lv_iinc (v := x32) (lv' := [(4, .int x32), (6, .int 0), (5, .int x17), (0, .ref (G.1 219)), (2, .int p2), (3, .int p3)]) hx hb dX13_explores_127 hl (k := 5) rfl (by rw [ex32]; rfl) (by decide) rfl (fun ls hl => ?_)
            refine lv_goto (tgt := 51) hx hb dX13_explores_130 (by decide) ?_
            exact ih _ _ _ hf _ _ _ M (lv_sub hl [3, 4, 5, 0] rfl) k133
          · exact absurd c28 (by decide)
        · have hf := it_n c27 hf
          refine lv_iconst (v := 1) hx hb dX13_explores_96 (by decide) ?_
          refine lv_goto (tgt := 101) hx hb dX13_explores_97 (by decide) ?_
          refine lv_istore (lv' := [(6, .int 1), (5, .int x17), (0, .ref (G.1 219)), (2, .int p2), (3, .int p3), (4, .int v4)]) hx hb dX13_explores_101 hl (by decide) rfl (fun ls hl => ?_)
          refine lv_aload_n hx hb dX13_explores_103 rfl (lv_at hl 2 rfl) ?_
          refine gf_X13_13 (i := 219) S M (by decide) rfl tw_6_120 dX13_explores_104 ?_
          refine lv_iload hx hb dX13_explores_107 (lv_at hl 5 rfl) ?_
          refine lv_iload hx hb dX13_explores_109 (lv_at hl 0 rfl) ?_
          refine lv_if_eq (tgt := 119) hx hb dX13_explores_111 (by decide) (fun c33 => ?_) (fun c33 => ?_)
          · exact absurd c33 (by decide)
          · refine lv_iload hx hb dX13_explores_114 (lv_at hl 1 rfl) ?_
            refine lv_goto (tgt := 126) hx hb dX13_explores_116 (by decide) ?_
            obtain ⟨h34, hf⟩ := gi_x hf
            obtain ⟨σ35, eσ35, hf⟩ := nm_x hf
            refine gk_iast (i := 226) (k := v4.toNatClampNeg) S M (by decide) (fun _ => (gaa_6 rfl)) h34 rfl dX13_explores_126 (fun H locs M => ?_)
            rw [← eσ35] at M
            obtain ⟨x36, ex36, hf⟩ := nm_x hf
            refine lv_iinc (v := x36) (lv' := [(4, .int x36), (6, .int 1), (5, .int x17), (0, .ref (G.1 219)), (2, .int p2), (3, .int p3)]) hx hb dX13_explores_127 hl (k := 5) rfl (by rw [ex36]; rfl) (by decide) rfl (fun ls hl => ?_)
            refine lv_goto (tgt := 51) hx hb dX13_explores_130 (by decide) ?_
            exact ih _ _ _ hf _ _ _ M (lv_sub hl [3, 4, 5, 0] rfl) k133
set_option maxHeartbeats 400000 in
set_option maxRecDepth 100000 in
theorem w_X13_explores_L42 {p : Program} {l : Launch} {e : Env} {s : State} {m : MethodId} {args : Array Value} {below : List Frame} {meth : Method} {c : Code} {Q : State → Prop} {G : gT} {lo : Int64} {dd : UInt64} (S : CallFix p m c cX13_explores 7 s args gTs RX13) (C0 : gCST G (gAA G s.heap.size) s) (p2 : Int32) : ∀ (n : Nat) (v3 : Int32) (σ : gM) (res : gM), f_X13_explores_L42 p2 n v3 σ = some res → ∀ (H : Heap) (locs : List Loc) (ls : Array Slot), gMS G (gAA G s.heap.size) lo dd σ s H locs → lv_has ls 7 [(0, .ref (G.1 219)), (2, .int p2), (3, .int v3)] → (k139 : ∀ (τ : gM), res = τ → ∀ (H : Heap) (locs : List Loc) (ls : Array Slot), gMS G (gAA G s.heap.size) lo dd τ s H locs → lv_has ls 7 [(0, .ref (G.1 219)), (2, .int p2)] → W p l e ({ frames := 1, cells := 0, slots := 0, locals := 22 } : Room) s m args below meth c H locs 0 0 Q (F0 m 139 ls [])) → W p l e ({ frames := 1, cells := 0, slots := 0, locals := 22 } : Room) s m args below meth c H locs 0 0 Q (F0 m 42 ls []) := by
  have hx := S.1
  have hb := S.2.1
  intro n
  induction n with
  | zero =>
    intro v3 σ res hf
    cases hf
  | succ n ih =>
    intro v3 σ res hf H locs ls M hl k139
    rw [f_X13_explores_L42] at hf
    refine lv_iload_n hx hb dX13_explores_42 rfl (lv_at hl 2 rfl) ?_
    refine lv_bipush (v := 6) hx hb dX13_explores_43 (by decide) ?_
    refine lv_icmp_ge (tgt := 139) hx hb dX13_explores_45 (by decide) (fun c12 => ?_) (fun c12 => ?_)
    · have hf := it_p c12 hf
      cases hf
      exact k139 _ rfl _ _ _ M (lv_sub hl [0, 1] rfl)
    · have hf := it_n c12 hf
      refine lv_iconst (v := 0) hx hb dX13_explores_48 (by decide) ?_
      refine lv_istore (lv' := [(4, .int 0), (0, .ref (G.1 219)), (2, .int p2), (3, .int v3)]) hx hb dX13_explores_49 hl (by decide) rfl (fun ls hl => ?_)
      obtain ⟨σ38, h37, hf⟩ := bd_x hf
      refine w_X13_explores_L51 S C0 p2 v3 gFU 0 σ _ h37 _ _ _ M (lv_sub hl [1, 2, 3, 0] rfl) (fun _ eq H locs ls M hl => ?_)
      cases eq
      obtain ⟨x39, ex39, hf⟩ := nm_x hf
      refine lv_iinc (v := x39) (lv' := [(3, .int x39), (0, .ref (G.1 219)), (2, .int p2)]) hx hb dX13_explores_133 hl (k := 2) rfl (by rw [ex39]; rfl) (by decide) rfl (fun ls hl => ?_)
      refine lv_goto (tgt := 42) hx hb dX13_explores_136 (by decide) ?_
      exact ih _ _ _ hf _ _ _ M (lv_sub hl [1, 2, 0] rfl) k139
set_option maxHeartbeats 400000 in
set_option maxRecDepth 100000 in
theorem w_X13_explores_L34 {p : Program} {l : Launch} {e : Env} {s : State} {m : MethodId} {args : Array Value} {below : List Frame} {meth : Method} {c : Code} {Q : State → Prop} {G : gT} {lo : Int64} {dd : UInt64} (S : CallFix p m c cX13_explores 7 s args gTs RX13) (C0 : gCST G (gAA G s.heap.size) s) : ∀ (n : Nat) (v2 : Int32) (σ : gM) (res : gM), f_X13_explores_L34 n v2 σ = some res → ∀ (H : Heap) (locs : List Loc) (ls : Array Slot), gMS G (gAA G s.heap.size) lo dd σ s H locs → lv_has ls 7 [(0, .ref (G.1 219)), (2, .int v2)] → (k145 : ∀ (τ : gM), res = τ → ∀ (H : Heap) (locs : List Loc) (ls : Array Slot), gMS G (gAA G s.heap.size) lo dd τ s H locs → lv_has ls 7 [] → W p l e ({ frames := 1, cells := 0, slots := 0, locals := 22 } : Room) s m args below meth c H locs 0 0 Q (F0 m 145 ls [])) → W p l e ({ frames := 1, cells := 0, slots := 0, locals := 22 } : Room) s m args below meth c H locs 0 0 Q (F0 m 34 ls []) := by
  have hx := S.1
  have hb := S.2.1
  intro n
  induction n with
  | zero =>
    intro v2 σ res hf
    cases hf
  | succ n ih =>
    intro v2 σ res hf H locs ls M hl k145
    rw [f_X13_explores_L34] at hf
    refine lv_iload_n hx hb dX13_explores_34 rfl (lv_at hl 1 rfl) ?_
    refine lv_bipush (v := 6) hx hb dX13_explores_35 (by decide) ?_
    refine lv_icmp_ge (tgt := 145) hx hb dX13_explores_37 (by decide) (fun c11 => ?_) (fun c11 => ?_)
    · have hf := it_p c11 hf
      cases hf
      exact k145 _ rfl _ _ _ M (lv_sub hl [] rfl)
    · have hf := it_n c11 hf
      refine lv_iconst (v := 0) hx hb dX13_explores_40 (by decide) ?_
      refine lv_istore_n (lv' := [(3, .int 0), (0, .ref (G.1 219)), (2, .int v2)]) hx hb dX13_explores_41 rfl hl (by decide) rfl (fun ls hl => ?_)
      obtain ⟨σ41, h40, hf⟩ := bd_x hf
      refine w_X13_explores_L42 S C0 v2 gFU 0 σ _ h40 _ _ _ M (lv_sub hl [1, 2, 0] rfl) (fun _ eq H locs ls M hl => ?_)
      cases eq
      obtain ⟨x42, ex42, hf⟩ := nm_x hf
      refine lv_iinc (v := x42) (lv' := [(2, .int x42), (0, .ref (G.1 219))]) hx hb dX13_explores_139 hl (k := 1) rfl (by rw [ex42]; rfl) (by decide) rfl (fun ls hl => ?_)
      refine lv_goto (tgt := 34) hx hb dX13_explores_142 (by decide) ?_
      exact ih _ _ _ hf _ _ _ M (lv_sub hl [1, 0] rfl) k145
set_option maxHeartbeats 400000 in
set_option maxRecDepth 100000 in
theorem c_X13_explores (l : Launch) (G : gT) (sz : Nat) (lo : Int64) (dd : UInt64) (σ : gM) (a1 : Int32) {o : gM} (hf : f_X13_explores σ a1 = some o) : gCT l yX13_explores cX13_explores 7 none { frames := 1, cells := 0, slots := 0, locals := 22 } 0 0 G sz [.ref (G.1 219), .int a1] lo dd σ (.inl (none, o, lo, dd)) := by
  refine gCT_of (by decide) (Nat.le_of_ble_eq_true rfl) (fun p e s m args below meth c ls S hr hlk hnx hsz C0 hl H locs M => ?_)
  subst hsz
  have hx := S.1
  have hb := S.2.1
  unfold f_X13_explores at hf
  refine lv_iconst (v := 0) hx hb dX13_explores_0 (by decide) ?_
  refine lv_istore_n (lv' := [(2, .int 0), (0, .ref (G.1 219)), (1, .int a1)]) hx hb dX13_explores_1 rfl hl (by decide) rfl (fun ls hl => ?_)
  obtain ⟨σ10, h9, hf⟩ := bd_x hf
  refine w_X13_explores_L2 S C0 a1 gFU 0 σ _ h9 _ _ _ M (lv_sub hl [1, 2, 0] rfl) (fun _ eq H locs ls M hl => ?_)
  cases eq
  refine lv_iconst (v := 0) hx hb dX13_explores_32 (by decide) ?_
  refine lv_istore_n (lv' := [(2, .int 0), (0, .ref (G.1 219))]) hx hb dX13_explores_33 rfl hl (by decide) rfl (fun ls hl => ?_)
  obtain ⟨σ44, h43, hf⟩ := bd_x hf
  refine w_X13_explores_L34 S C0 gFU 0 σ10 _ h43 _ _ _ M (lv_sub hl [1, 0] rfl) (fun _ eq H locs ls M hl => ?_)
  cases eq
  cases hf
  exact g_vret S M hr hlk (by decide) (by decide) dX13_explores_145 rfl
theorem k_X13_distanceOf : gMV yX13_distanceOf cX13_distanceOf 3 (some .int) 2 := ⟨tw_7_42, tw_1_12, by decide⟩
set_option maxHeartbeats 400000 in
set_option maxRecDepth 100000 in
theorem c_X13_distanceOf (l : Launch) (G : gT) (sz : Nat) (lo : Int64) (dd : UInt64) (σ : gM) (a1 : Int32) (a2 : Int32) {r : Int32} {o : gM} (hf : f_X13_distanceOf σ a1 a2 = some (r, o)) : gCT l yX13_distanceOf cX13_distanceOf 3 (some .int) { frames := 2, cells := 0, slots := 0, locals := 48 } 0 0 G sz [.ref (G.1 219), .int a1, .int a2] lo dd σ (.inl (mkI r, o, lo, dd)) := by
  refine gCT_of (by decide) (Nat.le_of_ble_eq_true rfl) (fun p e s m args below meth c ls S hr hlk hnx hsz C0 hl H locs M => ?_)
  subst hsz
  have hx := S.1
  have hb := S.2.1
  unfold f_X13_distanceOf at hf
  refine lv_aload_n hx hb dX13_distanceOf_0 rfl (lv_at hl 0 rfl) ?_
  refine lv_iload_n hx hb dX13_distanceOf_1 rfl (lv_at hl 1 rfl) ?_
  obtain ⟨σ2, h1, hf⟩ := bd_x hf
  refine g_callR (st1 := []) (cells' := 0) (slots' := 0) M (g_invV (index := 85) S M C0 hl (c_X13_explores l G H.size lo dd σ a1  h1) k_X13_explores tw_7_45 tw_0_44 tw_7_43 (by decide) (ge_13 rfl) rfl rfl rfl rfl rfl rfl dX13_distanceOf_2) rfl rfl rfl (fun H locs M => ?_)
  refine lv_aload_n hx hb dX13_distanceOf_5 rfl (lv_at hl 0 rfl) ?_
  refine gf_X13_13 (i := 219) S M (by decide) rfl tw_6_120 dX13_distanceOf_6 ?_
  refine lv_iload_n hx hb dX13_distanceOf_9 rfl (lv_at hl 2 rfl) ?_
  obtain ⟨h3, hf⟩ := gi_x hf
  refine gk_iald (i := 226) (k := a2.toNatClampNeg) S M (by decide) (gaa_6 rfl) h3 rfl dX13_distanceOf_10 ?_
  cases hf
  exact g_iret S M hr hlk (by decide) (by decide) dX13_distanceOf_11 rfl
theorem k_X13_accepts : gMV yX13_accepts cX13_accepts 5 (some .int) 3 := ⟨tw_6_211, tw_1_12, by decide⟩
set_option maxHeartbeats 400000 in
set_option maxRecDepth 100000 in
theorem c_X13_accepts (l : Launch) (G : gT) (sz : Nat) (lo : Int64) (dd : UInt64) (σ : gM) (a1 : Int32) (a2 : Int32) (a3 : Int32) {r : Int32} {o : gM} (hf : f_X13_accepts σ a1 a2 a3 = some (r, o)) : gCT l yX13_accepts cX13_accepts 5 (some .int) { frames := 2, cells := 0, slots := 0, locals := 42 } 0 0 G sz [.ref (G.1 219), .int a1, .int a2, .int a3] lo dd σ (.inl (mkI r, o, lo, dd)) := by
  refine gCT_of (by decide) (Nat.le_of_ble_eq_true rfl) (fun p e s m args below meth c ls S hr hlk hnx hsz C0 hl H locs M => ?_)
  subst hsz
  have hx := S.1
  have hb := S.2.1
  unfold f_X13_accepts at hf
  refine lv_iload_n hx hb dX13_accepts_0 rfl (lv_at hl 3 rfl) ?_
  obtain ⟨r2, h1, hf⟩ := bd_x hf
  refine g_callR (st1 := [.int r2]) (cells' := 0) (slots' := 0) M (g_invS (index := 60) S M C0 hl (c_X13_isPlace l G H.size lo dd σ a3  h1) k_X13_isPlace tw_6_179 tw_6_178 rfl rfl rfl rfl dX13_accepts_1) rfl rfl rfl (fun H locs M => ?_)
  refine lv_if_ne (tgt := 13) hx hb dX13_accepts_4 (by decide) (fun c3 => ?_) (fun c3 => ?_)
  · have hf := it_n c3 hf
    refine lv_iload_n hx hb dX13_accepts_13 rfl (lv_at hl 1 rfl) ?_
    refine lv_iconst (v := 1) hx hb dX13_accepts_14 (by decide) ?_
    refine lv_bipush (v := 20) hx hb dX13_accepts_15 (by decide) ?_
    obtain ⟨r5, h4, hf⟩ := bd_x hf
    refine g_callR (st1 := [.int r5]) (cells' := 0) (slots' := 0) M (g_invS (index := 52) S M C0 hl (c_X13_in l G H.size lo dd σ a1 1 20  h4) k_X13_in tw_6_182 tw_6_181 rfl rfl rfl rfl dX13_accepts_17) rfl rfl rfl (fun H locs M => ?_)
    refine lv_if_eq (tgt := 32) hx hb dX13_accepts_20 (by decide) (fun c6 => ?_) (fun c6 => ?_)
    · have hf := it_p c6 hf
      refine lv_aload_n hx hb dX13_accepts_32 rfl (lv_at hl 0 rfl) ?_
      refine lv_iconst (v := 2) hx hb dX13_accepts_33 (by decide) ?_
      obtain ⟨r8, σ9, h7, hf⟩ := bd2_x hf
      refine g_callR (st1 := [.int r8]) (cells' := 0) (slots' := 0) M (g_invV (index := 64) S M C0 hl (c_X13_fails l G H.size lo dd σ 2  h7) k_X13_fails tw_6_186 tw_0_26 tw_6_184 (by decide) (ge_13 rfl) rfl rfl rfl rfl rfl rfl dX13_accepts_34) rfl rfl rfl (fun H locs M => ?_)
      cases hf
      exact g_iret S M hr hlk (by decide) (by decide) dX13_accepts_37 rfl
    · have hf := it_n c6 hf
      refine lv_iload_n hx hb dX13_accepts_23 rfl (lv_at hl 2 rfl) ?_
      refine lv_iconst (v := 0) hx hb dX13_accepts_24 (by decide) ?_
      refine lv_iconst (v := 3) hx hb dX13_accepts_25 (by decide) ?_
      obtain ⟨r11, h10, hf⟩ := bd_x hf
      refine g_callR (st1 := [.int r11]) (cells' := 0) (slots' := 0) M (g_invS (index := 52) S M C0 hl (c_X13_in l G H.size lo dd σ a2 0 3  h10) k_X13_in tw_6_182 tw_6_181 rfl rfl rfl rfl dX13_accepts_26) rfl rfl rfl (fun H locs M => ?_)
      refine lv_if_ne (tgt := 38) hx hb dX13_accepts_29 (by decide) (fun c12 => ?_) (fun c12 => ?_)
      · have hf := it_n c12 hf
        refine lv_aload_n hx hb dX13_accepts_38 rfl (lv_at hl 0 rfl) ?_
        refine gf_X13_0 (i := 219) S M (by decide) rfl tw_6_107 dX13_accepts_39 ?_
        refine lv_bipush (v := 36) hx hb dX13_accepts_42 (by decide) ?_
        refine gk_iald (i := 220) (k := 36) S M (by decide) (gaa_134 rfl) (by unfold vp_in; decide) (by decide) dX13_accepts_44 ?_
        obtain ⟨x13, ex13, hf⟩ := nm_x hf
        refine g_topi ex13 ?_
        refine lv_istore (lv' := [(4, .int x13), (0, .ref (G.1 219)), (1, .int a1), (2, .int a2), (3, .int a3)]) hx hb dX13_accepts_45 hl (by decide) rfl (fun ls hl => ?_)
        refine lv_iload hx hb dX13_accepts_47 (lv_at hl 0 rfl) ?_
        refine lv_bipush (v := 12) hx hb dX13_accepts_49 (by decide) ?_
        refine lv_icmp_ne (tgt := 60) hx hb dX13_accepts_51 (by decide) (fun c14 => ?_) (fun c14 => ?_)
        · have hf := it_n c14 hf
          refine lv_aload_n hx hb dX13_accepts_60 rfl (lv_at hl 1 rfl) ?_
          refine gf_X13_0 (i := 219) S M (by decide) rfl tw_6_107 dX13_accepts_61 ?_
          refine lv_bipush (v := 40) hx hb dX13_accepts_64 (by decide) ?_
          refine lv_iload hx hb dX13_accepts_66 (lv_at hl 0 rfl) ?_
          refine lv_iadd hx hb dX13_accepts_68 ?_
          refine lv_iload_n hx hb dX13_accepts_69 rfl (lv_at hl 2 rfl) ?_
          obtain ⟨h15, hf⟩ := gi_x hf
          obtain ⟨σ16, eσ16, hf⟩ := nm_x hf
          refine gk_iast (i := 220) (k := (40 + x13).toNatClampNeg) S M (by decide) (fun _ => (gaa_134 rfl)) h15 rfl dX13_accepts_70 (fun H locs M => ?_)
          rw [← eσ16] at M
          refine lv_aload_n hx hb dX13_accepts_71 rfl (lv_at hl 1 rfl) ?_
          refine gf_X13_0 (i := 219) S M (by decide) rfl tw_6_107 dX13_accepts_72 ?_
          refine lv_bipush (v := 52) hx hb dX13_accepts_75 (by decide) ?_
          refine lv_iload hx hb dX13_accepts_77 (lv_at hl 0 rfl) ?_
          refine lv_iadd hx hb dX13_accepts_79 ?_
          refine lv_iload_n hx hb dX13_accepts_80 rfl (lv_at hl 3 rfl) ?_
          obtain ⟨h17, hf⟩ := gi_x hf
          obtain ⟨σ18, eσ18, hf⟩ := nm_x hf
          refine gk_iast (i := 220) (k := (52 + x13).toNatClampNeg) S M (by decide) (fun _ => (gaa_134 rfl)) h17 rfl dX13_accepts_81 (fun H locs M => ?_)
          rw [← eσ18] at M
          refine lv_aload_n hx hb dX13_accepts_82 rfl (lv_at hl 1 rfl) ?_
          refine gf_X13_0 (i := 219) S M (by decide) rfl tw_6_107 dX13_accepts_83 ?_
          refine lv_bipush (v := 64) hx hb dX13_accepts_86 (by decide) ?_
          refine lv_iload hx hb dX13_accepts_88 (lv_at hl 0 rfl) ?_
          refine lv_iadd hx hb dX13_accepts_90 ?_
          refine lv_iload_n hx hb dX13_accepts_91 rfl (lv_at hl 4 rfl) ?_
          obtain ⟨h19, hf⟩ := gi_x hf
          obtain ⟨σ20, eσ20, hf⟩ := nm_x hf
          refine gk_iast (i := 220) (k := (64 + x13).toNatClampNeg) S M (by decide) (fun _ => (gaa_134 rfl)) h19 rfl dX13_accepts_92 (fun H locs M => ?_)
          rw [← eσ20] at M
          refine lv_aload_n hx hb dX13_accepts_93 rfl (lv_at hl 1 rfl) ?_
          refine gf_X13_0 (i := 219) S M (by decide) rfl tw_6_107 dX13_accepts_94 ?_
          refine lv_bipush (v := 36) hx hb dX13_accepts_97 (by decide) ?_
          refine lv_dup2_11 hx hb dX13_accepts_99 rfl rfl ?_
          refine gk_iald (i := 220) (k := 36) S M (by decide) (gaa_134 rfl) (by unfold vp_in; decide) (by decide) dX13_accepts_100 ?_
          refine lv_iconst (v := 1) hx hb dX13_accepts_101 (by decide) ?_
          refine lv_iadd hx hb dX13_accepts_102 ?_
          obtain ⟨σ21, eσ21, hf⟩ := nm_x hf
          refine gk_iast (i := 220) (k := 36) S M (by decide) (fun _ => (gaa_134 rfl)) (by unfold vp_in; decide) (by decide) dX13_accepts_103 (fun H locs M => ?_)
          rw [← eσ21] at M
          refine lv_aload_n hx hb dX13_accepts_104 rfl (lv_at hl 1 rfl) ?_
          refine lv_iload hx hb dX13_accepts_105 (lv_at hl 0 rfl) ?_
          obtain ⟨r23, σ24, h22, hf⟩ := bd2_x hf
          refine g_callR (st1 := [.int r23]) (cells' := 0) (slots' := 0) M (g_invV (index := 72) S M C0 hl (c_X13_done l G H.size lo dd σ21 x13  h22) k_X13_done tw_6_198 tw_0_29 tw_6_196 (by decide) (ge_13 rfl) rfl rfl rfl rfl rfl rfl dX13_accepts_107) rfl rfl rfl (fun H locs M => ?_)
          cases hf
          exact g_iret S M hr hlk (by decide) (by decide) dX13_accepts_110 rfl
        · have hf := it_p c14 hf
          refine lv_aload_n hx hb dX13_accepts_54 rfl (lv_at hl 1 rfl) ?_
          refine lv_iconst (v := 3) hx hb dX13_accepts_55 (by decide) ?_
          obtain ⟨r26, σ27, h25, hf⟩ := bd2_x hf
          refine g_callR (st1 := [.int r26]) (cells' := 0) (slots' := 0) M (g_invV (index := 64) S M C0 hl (c_X13_fails l G H.size lo dd σ 3  h25) k_X13_fails tw_6_186 tw_0_26 tw_6_184 (by decide) (ge_13 rfl) rfl rfl rfl rfl rfl rfl dX13_accepts_56) rfl rfl rfl (fun H locs M => ?_)
          cases hf
          exact g_iret S M hr hlk (by decide) (by decide) dX13_accepts_59 rfl
      · have hf := it_p c12 hf
        refine lv_aload_n hx hb dX13_accepts_32 rfl (lv_at hl 0 rfl) ?_
        refine lv_iconst (v := 2) hx hb dX13_accepts_33 (by decide) ?_
        obtain ⟨r29, σ30, h28, hf⟩ := bd2_x hf
        refine g_callR (st1 := [.int r29]) (cells' := 0) (slots' := 0) M (g_invV (index := 64) S M C0 hl (c_X13_fails l G H.size lo dd σ 2  h28) k_X13_fails tw_6_186 tw_0_26 tw_6_184 (by decide) (ge_13 rfl) rfl rfl rfl rfl rfl rfl dX13_accepts_34) rfl rfl rfl (fun H locs M => ?_)
        cases hf
        exact g_iret S M hr hlk (by decide) (by decide) dX13_accepts_37 rfl
  · have hf := it_p c3 hf
    refine lv_aload_n hx hb dX13_accepts_7 rfl (lv_at hl 0 rfl) ?_
    refine lv_iconst (v := 1) hx hb dX13_accepts_8 (by decide) ?_
    obtain ⟨r32, σ33, h31, hf⟩ := bd2_x hf
    refine g_callR (st1 := [.int r32]) (cells' := 0) (slots' := 0) M (g_invV (index := 64) S M C0 hl (c_X13_fails l G H.size lo dd σ 1  h31) k_X13_fails tw_6_186 tw_0_26 tw_6_184 (by decide) (ge_13 rfl) rfl rfl rfl rfl rfl rfl dX13_accepts_9) rfl rfl rfl (fun H locs M => ?_)
    cases hf
    exact g_iret S M hr hlk (by decide) (by decide) dX13_accepts_12 rfl
theorem k_X13_acceptParcel : gMV yX13_acceptParcel cX13_acceptParcel 4 (some .int) 3 := ⟨tw_6_207, tw_1_12, by decide⟩
set_option maxHeartbeats 400000 in
set_option maxRecDepth 100000 in
theorem c_X13_acceptParcel (l : Launch) (G : gT) (sz : Nat) (lo : Int64) (dd : UInt64) (σ : gM) (a1 : Int32) (a2 : Int32) (a3 : Int32) {r : Int32} {o : gM} (hf : f_X13_acceptParcel σ a1 a2 a3 = some (r, o)) : gCT l yX13_acceptParcel cX13_acceptParcel 4 (some .int) { frames := 3, cells := 0, slots := 0, locals := 66 } 0 0 G sz [.ref (G.1 219), .int a1, .int a2, .int a3] lo dd σ (.inl (mkI r, o, lo, dd)) := by
  refine gCT_of (by decide) (Nat.le_of_ble_eq_true rfl) (fun p e s m args below meth c ls S hr hlk hnx hsz C0 hl H locs M => ?_)
  subst hsz
  have hx := S.1
  have hb := S.2.1
  unfold f_X13_acceptParcel at hf
  refine lv_aload_n hx hb dX13_acceptParcel_0 rfl (lv_at hl 0 rfl) ?_
  obtain ⟨σ2, h1, hf⟩ := bd_x hf
  refine g_callR (st1 := []) (cells' := 0) (slots' := 0) M (g_invV (index := 75) S M C0 hl (c_X13_begin l G H.size lo dd σ   h1) k_X13_begin tw_6_169 tw_0_24 tw_6_167 (by decide) (ge_13 rfl) rfl rfl rfl rfl rfl rfl dX13_acceptParcel_1) rfl rfl rfl (fun H locs M => ?_)
  refine lv_aload_n hx hb dX13_acceptParcel_4 rfl (lv_at hl 0 rfl) ?_
  refine lv_aload_n hx hb dX13_acceptParcel_5 rfl (lv_at hl 0 rfl) ?_
  refine lv_iload_n hx hb dX13_acceptParcel_6 rfl (lv_at hl 1 rfl) ?_
  refine lv_iload_n hx hb dX13_acceptParcel_7 rfl (lv_at hl 2 rfl) ?_
  refine lv_iload_n hx hb dX13_acceptParcel_8 rfl (lv_at hl 3 rfl) ?_
  obtain ⟨r4, σ5, h3, hf⟩ := bd2_x hf
  refine g_callR (st1 := [.int r4, .ref (G.1 219)]) (cells' := 0) (slots' := 0) M (g_invV (index := 89) S M C0 hl (c_X13_accepts l G H.size lo dd σ2 a1 a2 a3  h3) k_X13_accepts tw_6_210 tw_0_31 tw_6_208 (by decide) (ge_13 rfl) rfl rfl rfl rfl rfl rfl dX13_acceptParcel_9) rfl rfl rfl (fun H locs M => ?_)
  obtain ⟨r7, σ8, h6, hf⟩ := bd2_x hf
  refine g_callR (st1 := [.int r7]) (cells' := 0) (slots' := 0) M (g_invV (index := 82) S M C0 hl (c_X13_kept l G H.size lo dd σ5 r4  h6) k_X13_kept tw_6_202 tw_0_30 tw_6_200 (by decide) (ge_13 rfl) rfl rfl rfl rfl rfl rfl dX13_acceptParcel_12) rfl rfl rfl (fun H locs M => ?_)
  cases hf
  exact g_iret S M hr hlk (by decide) (by decide) dX13_acceptParcel_15 rfl
theorem k_X13_buys : gMV yX13_buys cX13_buys 3 (some .int) 1 := ⟨tw_6_219, tw_1_12, by decide⟩
set_option maxHeartbeats 400000 in
set_option maxRecDepth 100000 in
theorem c_X13_buys (l : Launch) (G : gT) (sz : Nat) (lo : Int64) (dd : UInt64) (σ : gM) (a1 : Int32) {r : Int32} {o : gM} (hf : f_X13_buys σ a1 = some (r, o)) : gCT l yX13_buys cX13_buys 3 (some .int) { frames := 1, cells := 0, slots := 0, locals := 22 } 0 0 G sz [.ref (G.1 219), .int a1] lo dd σ (.inl (mkI r, o, lo, dd)) := by
  refine gCT_of (by decide) (Nat.le_of_ble_eq_true rfl) (fun p e s m args below meth c ls S hr hlk hnx hsz C0 hl H locs M => ?_)
  subst hsz
  have hx := S.1
  have hb := S.2.1
  unfold f_X13_buys at hf
  refine lv_iload_n hx hb dX13_buys_0 rfl (lv_at hl 1 rfl) ?_
  refine lv_iconst (v := 1) hx hb dX13_buys_1 (by decide) ?_
  refine lv_iconst (v := 3) hx hb dX13_buys_2 (by decide) ?_
  obtain ⟨r2, h1, hf⟩ := bd_x hf
  refine g_callR (st1 := [.int r2]) (cells' := 0) (slots' := 0) M (g_invS (index := 52) S M C0 hl (c_X13_in l G H.size lo dd σ a1 1 3  h1) k_X13_in tw_6_182 tw_6_181 rfl rfl rfl rfl dX13_buys_3) rfl rfl rfl (fun H locs M => ?_)
  refine lv_if_ne (tgt := 15) hx hb dX13_buys_6 (by decide) (fun c3 => ?_) (fun c3 => ?_)
  · have hf := it_n c3 hf
    refine lv_aload_n hx hb dX13_buys_15 rfl (lv_at hl 0 rfl) ?_
    refine gf_X13_0 (i := 219) S M (by decide) rfl tw_6_107 dX13_buys_16 ?_
    refine lv_bipush (v := 37) hx hb dX13_buys_19 (by decide) ?_
    refine gk_iald (i := 220) (k := 37) S M (by decide) (gaa_134 rfl) (by unfold vp_in; decide) (by decide) dX13_buys_21 ?_
    obtain ⟨x4, ex4, hf⟩ := nm_x hf
    refine g_topi ex4 ?_
    refine lv_istore_n (lv' := [(2, .int x4), (0, .ref (G.1 219)), (1, .int a1)]) hx hb dX13_buys_22 rfl hl (by decide) rfl (fun ls hl => ?_)
    refine lv_iload_n hx hb dX13_buys_23 rfl (lv_at hl 0 rfl) ?_
    refine lv_bipush (v := 8) hx hb dX13_buys_24 (by decide) ?_
    refine lv_icmp_ne (tgt := 35) hx hb dX13_buys_26 (by decide) (fun c5 => ?_) (fun c5 => ?_)
    · have hf := it_n c5 hf
      refine lv_aload_n hx hb dX13_buys_35 rfl (lv_at hl 1 rfl) ?_
      refine gf_X13_0 (i := 219) S M (by decide) rfl tw_6_107 dX13_buys_36 ?_
      refine lv_bipush (v := 112) hx hb dX13_buys_39 (by decide) ?_
      refine lv_iload_n hx hb dX13_buys_41 rfl (lv_at hl 0 rfl) ?_
      refine lv_iadd hx hb dX13_buys_42 ?_
      refine lv_iload_n hx hb dX13_buys_43 rfl (lv_at hl 2 rfl) ?_
      obtain ⟨h6, hf⟩ := gi_x hf
      obtain ⟨σ7, eσ7, hf⟩ := nm_x hf
      refine gk_iast (i := 220) (k := (112 + x4).toNatClampNeg) S M (by decide) (fun _ => (gaa_134 rfl)) h6 rfl dX13_buys_44 (fun H locs M => ?_)
      rw [← eσ7] at M
      refine lv_aload_n hx hb dX13_buys_45 rfl (lv_at hl 1 rfl) ?_
      refine gf_X13_0 (i := 219) S M (by decide) rfl tw_6_107 dX13_buys_46 ?_
      refine lv_bipush (v := 120) hx hb dX13_buys_49 (by decide) ?_
      refine lv_iload_n hx hb dX13_buys_51 rfl (lv_at hl 0 rfl) ?_
      refine lv_iadd hx hb dX13_buys_52 ?_
      refine lv_iconst (v := 0) hx hb dX13_buys_53 (by decide) ?_
      obtain ⟨h8, hf⟩ := gi_x hf
      obtain ⟨σ9, eσ9, hf⟩ := nm_x hf
      refine gk_iast (i := 220) (k := (120 + x4).toNatClampNeg) S M (by decide) (fun _ => (gaa_134 rfl)) h8 rfl dX13_buys_54 (fun H locs M => ?_)
      rw [← eσ9] at M
      refine lv_aload_n hx hb dX13_buys_55 rfl (lv_at hl 1 rfl) ?_
      refine gf_X13_0 (i := 219) S M (by decide) rfl tw_6_107 dX13_buys_56 ?_
      refine lv_bipush (v := 37) hx hb dX13_buys_59 (by decide) ?_
      refine lv_dup2_11 hx hb dX13_buys_61 rfl rfl ?_
      refine gk_iald (i := 220) (k := 37) S M (by decide) (gaa_134 rfl) (by unfold vp_in; decide) (by decide) dX13_buys_62 ?_
      refine lv_iconst (v := 1) hx hb dX13_buys_63 (by decide) ?_
      refine lv_iadd hx hb dX13_buys_64 ?_
      obtain ⟨σ10, eσ10, hf⟩ := nm_x hf
      refine gk_iast (i := 220) (k := 37) S M (by decide) (fun _ => (gaa_134 rfl)) (by unfold vp_in; decide) (by decide) dX13_buys_65 (fun H locs M => ?_)
      rw [← eσ10] at M
      refine lv_aload_n hx hb dX13_buys_66 rfl (lv_at hl 1 rfl) ?_
      refine lv_iload_n hx hb dX13_buys_67 rfl (lv_at hl 0 rfl) ?_
      obtain ⟨r12, σ13, h11, hf⟩ := bd2_x hf
      refine g_callR (st1 := [.int r12]) (cells' := 0) (slots' := 0) M (g_invV (index := 72) S M C0 hl (c_X13_done l G H.size lo dd σ10 x4  h11) k_X13_done tw_6_198 tw_0_29 tw_6_196 (by decide) (ge_13 rfl) rfl rfl rfl rfl rfl rfl dX13_buys_68) rfl rfl rfl (fun H locs M => ?_)
      cases hf
      exact g_iret S M hr hlk (by decide) (by decide) dX13_buys_71 rfl
    · have hf := it_p c5 hf
      refine lv_aload_n hx hb dX13_buys_29 rfl (lv_at hl 1 rfl) ?_
      refine lv_iconst (v := 2) hx hb dX13_buys_30 (by decide) ?_
      obtain ⟨r15, σ16, h14, hf⟩ := bd2_x hf
      refine g_callR (st1 := [.int r15]) (cells' := 0) (slots' := 0) M (g_invV (index := 64) S M C0 hl (c_X13_fails l G H.size lo dd σ 2  h14) k_X13_fails tw_6_186 tw_0_26 tw_6_184 (by decide) (ge_13 rfl) rfl rfl rfl rfl rfl rfl dX13_buys_31) rfl rfl rfl (fun H locs M => ?_)
      cases hf
      exact g_iret S M hr hlk (by decide) (by decide) dX13_buys_34 rfl
  · have hf := it_p c3 hf
    refine lv_aload_n hx hb dX13_buys_9 rfl (lv_at hl 0 rfl) ?_
    refine lv_iconst (v := 1) hx hb dX13_buys_10 (by decide) ?_
    obtain ⟨r18, σ19, h17, hf⟩ := bd2_x hf
    refine g_callR (st1 := [.int r18]) (cells' := 0) (slots' := 0) M (g_invV (index := 64) S M C0 hl (c_X13_fails l G H.size lo dd σ 1  h17) k_X13_fails tw_6_186 tw_0_26 tw_6_184 (by decide) (ge_13 rfl) rfl rfl rfl rfl rfl rfl dX13_buys_11) rfl rfl rfl (fun H locs M => ?_)
    cases hf
    exact g_iret S M hr hlk (by decide) (by decide) dX13_buys_14 rfl
theorem k_X13_buyGlove : gMV yX13_buyGlove cX13_buyGlove 2 (some .int) 1 := ⟨tw_6_215, tw_1_12, by decide⟩
set_option maxHeartbeats 400000 in
set_option maxRecDepth 100000 in
theorem c_X13_buyGlove (l : Launch) (G : gT) (sz : Nat) (lo : Int64) (dd : UInt64) (σ : gM) (a1 : Int32) {r : Int32} {o : gM} (hf : f_X13_buyGlove σ a1 = some (r, o)) : gCT l yX13_buyGlove cX13_buyGlove 2 (some .int) { frames := 2, cells := 0, slots := 0, locals := 46 } 0 0 G sz [.ref (G.1 219), .int a1] lo dd σ (.inl (mkI r, o, lo, dd)) := by
  refine gCT_of (by decide) (Nat.le_of_ble_eq_true rfl) (fun p e s m args below meth c ls S hr hlk hnx hsz C0 hl H locs M => ?_)
  subst hsz
  have hx := S.1
  have hb := S.2.1
  unfold f_X13_buyGlove at hf
  refine lv_aload_n hx hb dX13_buyGlove_0 rfl (lv_at hl 0 rfl) ?_
  obtain ⟨σ2, h1, hf⟩ := bd_x hf
  refine g_callR (st1 := []) (cells' := 0) (slots' := 0) M (g_invV (index := 75) S M C0 hl (c_X13_begin l G H.size lo dd σ   h1) k_X13_begin tw_6_169 tw_0_24 tw_6_167 (by decide) (ge_13 rfl) rfl rfl rfl rfl rfl rfl dX13_buyGlove_1) rfl rfl rfl (fun H locs M => ?_)
  refine lv_aload_n hx hb dX13_buyGlove_4 rfl (lv_at hl 0 rfl) ?_
  refine lv_aload_n hx hb dX13_buyGlove_5 rfl (lv_at hl 0 rfl) ?_
  refine lv_iload_n hx hb dX13_buyGlove_6 rfl (lv_at hl 1 rfl) ?_
  obtain ⟨r4, σ5, h3, hf⟩ := bd2_x hf
  refine g_callR (st1 := [.int r4, .ref (G.1 219)]) (cells' := 0) (slots' := 0) M (g_invV (index := 92) S M C0 hl (c_X13_buys l G H.size lo dd σ2 a1  h3) k_X13_buys tw_6_218 tw_0_32 tw_6_216 (by decide) (ge_13 rfl) rfl rfl rfl rfl rfl rfl dX13_buyGlove_7) rfl rfl rfl (fun H locs M => ?_)
  obtain ⟨r7, σ8, h6, hf⟩ := bd2_x hf
  refine g_callR (st1 := [.int r7]) (cells' := 0) (slots' := 0) M (g_invV (index := 82) S M C0 hl (c_X13_kept l G H.size lo dd σ5 r4  h6) k_X13_kept tw_6_202 tw_0_30 tw_6_200 (by decide) (ge_13 rfl) rfl rfl rfl rfl rfl rfl dX13_buyGlove_10) rfl rfl rfl (fun H locs M => ?_)
  cases hf
  exact g_iret S M hr hlk (by decide) (by decide) dX13_buyGlove_13 rfl
theorem k_X13_loadOf : gMV yX13_loadOf cX13_loadOf 4 (some .int) 1 := ⟨tw_6_234, tw_1_12, by decide⟩
set_option maxHeartbeats 400000 in
set_option maxRecDepth 100000 in
theorem w_X13_loadOf_L4 {p : Program} {l : Launch} {e : Env} {s : State} {m : MethodId} {args : Array Value} {below : List Frame} {meth : Method} {c : Code} {Q : State → Prop} {G : gT} {lo : Int64} {dd : UInt64} (S : CallFix p m c cX13_loadOf 4 s args gTs RX13) (C0 : gCST G (gAA G s.heap.size) s) (p1 : Int32) (σ : gM) : ∀ (n : Nat) (v2 : Int32) (v3 : Int32) (res : Int32), f_X13_loadOf_L4 p1 σ n v2 v3 = some res → ∀ (H : Heap) (locs : List Loc) (ls : Array Slot), gMS G (gAA G s.heap.size) lo dd σ s H locs → lv_has ls 4 [(0, .ref (G.1 219)), (1, .int p1), (2, .int v2), (3, .int v3)] → (k63 : ∀ (u2 : Int32), res = u2 → ∀ (H : Heap) (locs : List Loc) (ls : Array Slot), gMS G (gAA G s.heap.size) lo dd σ s H locs → lv_has ls 4 [(2, .int u2)] → W p l e ({ frames := 0, cells := 0, slots := 0, locals := 0 } : Room) s m args below meth c H locs 0 0 Q (F0 m 63 ls [])) → W p l e ({ frames := 0, cells := 0, slots := 0, locals := 0 } : Room) s m args below meth c H locs 0 0 Q (F0 m 4 ls []) := by
  have hx := S.1
  have hb := S.2.1
  intro n
  induction n with
  | zero =>
    intro v2 v3 res hf
    cases hf
  | succ n ih =>
    intro v2 v3 res hf H locs ls M hl k63
    rw [f_X13_loadOf_L4] at hf
    refine lv_iload_n hx hb dX13_loadOf_4 rfl (lv_at hl 3 rfl) ?_
    refine lv_aload_n hx hb dX13_loadOf_5 rfl (lv_at hl 0 rfl) ?_
    refine gf_X13_0 (i := 219) S M (by decide) rfl tw_6_107 dX13_loadOf_6 ?_
    refine lv_bipush (v := 36) hx hb dX13_loadOf_9 (by decide) ?_
    refine gk_iald (i := 220) (k := 36) S M (by decide) (gaa_134 rfl) (by unfold vp_in; decide) (by decide) dX13_loadOf_11 ?_
    refine lv_icmp_ge (tgt := 63) hx hb dX13_loadOf_12 (by decide) (fun c1 => ?_) (fun c1 => ?_)
    · have hf := it_p c1 hf
      cases hf
      exact k63 _ rfl _ _ _ M (lv_sub hl [2] rfl)
    · have hf := it_n c1 hf
      refine lv_iload_n hx hb dX13_loadOf_15 rfl (lv_at hl 2 rfl) ?_
      refine lv_aload_n hx hb dX13_loadOf_16 rfl (lv_at hl 0 rfl) ?_
      refine gf_X13_0 (i := 219) S M (by decide) rfl tw_6_107 dX13_loadOf_17 ?_
      refine lv_bipush (v := 76) hx hb dX13_loadOf_20 (by decide) ?_
      refine lv_iload_n hx hb dX13_loadOf_22 rfl (lv_at hl 3 rfl) ?_
      refine lv_iadd hx hb dX13_loadOf_23 ?_
      obtain ⟨h2, hf⟩ := gi_x hf
      refine gk_iald (i := 220) (k := (76 + v3).toNatClampNeg) S M (by decide) (gaa_134 rfl) h2 rfl dX13_loadOf_24 ?_
      refine lv_iconst (v := 1) hx hb dX13_loadOf_25 (by decide) ?_
      refine lv_icmp_ne (tgt := 54) hx hb dX13_loadOf_26 (by decide) (fun c3 => ?_) (fun c3 => ?_)
      · have hf := it_n c3 hf
        refine lv_iconst (v := 0) hx hb dX13_loadOf_54 (by decide) ?_
        refine lv_iadd hx hb dX13_loadOf_55 ?_
        obtain ⟨x4, ex4, hf⟩ := nm_x hf
        refine g_topi ex4 ?_
        refine lv_istore_n (lv' := [(2, .int x4), (0, .ref (G.1 219)), (1, .int p1), (3, .int v3)]) hx hb dX13_loadOf_56 rfl hl (by decide) rfl (fun ls hl => ?_)
        obtain ⟨x5, ex5, hf⟩ := nm_x hf
        refine lv_iinc (v := x5) (lv' := [(3, .int x5), (2, .int x4), (0, .ref (G.1 219)), (1, .int p1)]) hx hb dX13_loadOf_57 hl (k := 3) rfl (by rw [ex5]; rfl) (by decide) rfl (fun ls hl => ?_)
        refine lv_goto (tgt := 4) hx hb dX13_loadOf_60 (by decide) ?_
        exact ih _ _ _ hf _ _ _ M (lv_sub hl [2, 3, 1, 0] rfl) k63
      · have hf := it_p c3 hf
        refine lv_aload_n hx hb dX13_loadOf_29 rfl (lv_at hl 0 rfl) ?_
        refine gf_X13_0 (i := 219) S M (by decide) rfl tw_6_107 dX13_loadOf_30 ?_
        refine lv_bipush (v := 88) hx hb dX13_loadOf_33 (by decide) ?_
        refine lv_iload_n hx hb dX13_loadOf_35 rfl (lv_at hl 3 rfl) ?_
        refine lv_iadd hx hb dX13_loadOf_36 ?_
        obtain ⟨h6, hf⟩ := gi_x hf
        refine gk_iald (i := 220) (k := (88 + v3).toNatClampNeg) S M (by decide) (gaa_134 rfl) h6 rfl dX13_loadOf_37 ?_
        refine lv_iload_n hx hb dX13_loadOf_38 rfl (lv_at hl 1 rfl) ?_
        refine lv_icmp_ne (tgt := 54) hx hb dX13_loadOf_39 (by decide) (fun c7 => ?_) (fun c7 => ?_)
        · have hf := it_n c7 hf
          refine lv_iconst (v := 0) hx hb dX13_loadOf_54 (by decide) ?_
          refine lv_iadd hx hb dX13_loadOf_55 ?_
          obtain ⟨x8, ex8, hf⟩ := nm_x hf
          refine g_topi ex8 ?_
          refine lv_istore_n (lv' := [(2, .int x8), (0, .ref (G.1 219)), (1, .int p1), (3, .int v3)]) hx hb dX13_loadOf_56 rfl hl (by decide) rfl (fun ls hl => ?_)
          obtain ⟨x9, ex9, hf⟩ := nm_x hf
          refine lv_iinc (v := x9) (lv' := [(3, .int x9), (2, .int x8), (0, .ref (G.1 219)), (1, .int p1)]) hx hb dX13_loadOf_57 hl (k := 3) rfl (by rw [ex9]; rfl) (by decide) rfl (fun ls hl => ?_)
          refine lv_goto (tgt := 4) hx hb dX13_loadOf_60 (by decide) ?_
          exact ih _ _ _ hf _ _ _ M (lv_sub hl [2, 3, 1, 0] rfl) k63
        · have hf := it_p c7 hf
          refine lv_aload_n hx hb dX13_loadOf_42 rfl (lv_at hl 0 rfl) ?_
          refine gf_X13_0 (i := 219) S M (by decide) rfl tw_6_107 dX13_loadOf_43 ?_
          refine lv_bipush (v := 40) hx hb dX13_loadOf_46 (by decide) ?_
          refine lv_iload_n hx hb dX13_loadOf_48 rfl (lv_at hl 3 rfl) ?_
          refine lv_iadd hx hb dX13_loadOf_49 ?_
          obtain ⟨h10, hf⟩ := gi_x hf
          refine gk_iald (i := 220) (k := (40 + v3).toNatClampNeg) S M (by decide) (gaa_134 rfl) h10 rfl dX13_loadOf_50 ?_
          refine lv_goto (tgt := 55) hx hb dX13_loadOf_51 (by decide) ?_
          refine lv_iadd hx hb dX13_loadOf_55 ?_
          obtain ⟨x11, ex11, hf⟩ := nm_x hf
          refine g_topi ex11 ?_
          refine lv_istore_n (lv' := [(2, .int x11), (0, .ref (G.1 219)), (1, .int p1), (3, .int v3)]) hx hb dX13_loadOf_56 rfl hl (by decide) rfl (fun ls hl => ?_)
          obtain ⟨x12, ex12, hf⟩ := nm_x hf
          refine lv_iinc (v := x12) (lv' := [(3, .int x12), (2, .int x11), (0, .ref (G.1 219)), (1, .int p1)]) hx hb dX13_loadOf_57 hl (k := 3) rfl (by rw [ex12]; rfl) (by decide) rfl (fun ls hl => ?_)
          refine lv_goto (tgt := 4) hx hb dX13_loadOf_60 (by decide) ?_
          exact ih _ _ _ hf _ _ _ M (lv_sub hl [2, 3, 1, 0] rfl) k63
set_option maxHeartbeats 400000 in
set_option maxRecDepth 100000 in
theorem c_X13_loadOf (l : Launch) (G : gT) (sz : Nat) (lo : Int64) (dd : UInt64) (σ : gM) (a1 : Int32) {o : Int32} (hf : f_X13_loadOf σ a1 = some o) : gCT l yX13_loadOf cX13_loadOf 4 (some .int) { frames := 0, cells := 0, slots := 0, locals := 0 } 0 0 G sz [.ref (G.1 219), .int a1] lo dd σ (.inl (mkI o, σ, lo, dd)) := by
  refine gCT_of (by decide) (Nat.le_of_ble_eq_true rfl) (fun p e s m args below meth c ls S hr hlk hnx hsz C0 hl H locs M => ?_)
  subst hsz
  have hx := S.1
  have hb := S.2.1
  unfold f_X13_loadOf at hf
  refine lv_iconst (v := 0) hx hb dX13_loadOf_0 (by decide) ?_
  refine lv_istore_n (lv' := [(2, .int 0), (0, .ref (G.1 219)), (1, .int a1)]) hx hb dX13_loadOf_1 rfl hl (by decide) rfl (fun ls hl => ?_)
  refine lv_iconst (v := 0) hx hb dX13_loadOf_2 (by decide) ?_
  refine lv_istore_n (lv' := [(3, .int 0), (2, .int 0), (0, .ref (G.1 219)), (1, .int a1)]) hx hb dX13_loadOf_3 rfl hl (by decide) rfl (fun ls hl => ?_)
  obtain ⟨y14, h13, hf⟩ := bd_x hf
  refine w_X13_loadOf_L4 S C0 a1 σ gFU 0 0 _ h13 _ _ _ M (lv_sub hl [2, 3, 1, 0] rfl) (fun _ eq H locs ls M hl => ?_)
  cases eq
  refine lv_iload_n hx hb dX13_loadOf_63 rfl (lv_at hl 0 rfl) ?_
  cases hf
  exact g_iret S M hr hlk (by decide) (by decide) dX13_loadOf_64 rfl
theorem k_X13_limits : gMV yX13_limits cX13_limits 4 (some .int) 2 := ⟨tw_6_227, tw_1_12, by decide⟩
set_option maxHeartbeats 400000 in
set_option maxRecDepth 100000 in
theorem c_X13_limits (l : Launch) (G : gT) (sz : Nat) (lo : Int64) (dd : UInt64) (σ : gM) (a1 : Int32) (a2 : Int32) {r : Int32} {o : gM} (hf : f_X13_limits σ a1 a2 = some (r, o)) : gCT l yX13_limits cX13_limits 4 (some .int) { frames := 2, cells := 0, slots := 0, locals := 42 } 0 0 G sz [.ref (G.1 219), .int a1, .int a2] lo dd σ (.inl (mkI r, o, lo, dd)) := by
  refine gCT_of (by decide) (Nat.le_of_ble_eq_true rfl) (fun p e s m args below meth c ls S hr hlk hnx hsz C0 hl H locs M => ?_)
  subst hsz
  have hx := S.1
  have hb := S.2.1
  unfold f_X13_limits at hf
  refine lv_iload_n hx hb dX13_limits_0 rfl (lv_at hl 1 rfl) ?_
  obtain ⟨r2, h1, hf⟩ := bd_x hf
  refine g_callR (st1 := [.int r2]) (cells' := 0) (slots' := 0) M (g_invS (index := 95) S M C0 hl (c_X13_isSack l G H.size lo dd σ a1  h1) k_X13_isSack tw_6_229 tw_6_228 rfl rfl rfl rfl dX13_limits_1) rfl rfl rfl (fun H locs M => ?_)
  refine lv_if_ne (tgt := 13) hx hb dX13_limits_4 (by decide) (fun c3 => ?_) (fun c3 => ?_)
  · have hf := it_n c3 hf
    refine lv_iload_n hx hb dX13_limits_13 rfl (lv_at hl 2 rfl) ?_
    refine lv_iconst (v := 1) hx hb dX13_limits_14 (by decide) ?_
    refine lv_bipush (v := 60) hx hb dX13_limits_15 (by decide) ?_
    obtain ⟨r5, h4, hf⟩ := bd_x hf
    refine g_callR (st1 := [.int r5]) (cells' := 0) (slots' := 0) M (g_invS (index := 52) S M C0 hl (c_X13_in l G H.size lo dd σ a2 1 60  h4) k_X13_in tw_6_182 tw_6_181 rfl rfl rfl rfl dX13_limits_17) rfl rfl rfl (fun H locs M => ?_)
    refine lv_if_ne (tgt := 29) hx hb dX13_limits_20 (by decide) (fun c6 => ?_) (fun c6 => ?_)
    · have hf := it_n c6 hf
      refine lv_aload_n hx hb dX13_limits_29 rfl (lv_at hl 0 rfl) ?_
      refine lv_iload_n hx hb dX13_limits_30 rfl (lv_at hl 1 rfl) ?_
      obtain ⟨r8, h7, hf⟩ := bd_x hf
      refine g_callR (st1 := [.int r8]) (cells' := 0) (slots' := 0) M (g_invV (index := 98) S M C0 hl (c_X13_loadOf l G H.size lo dd σ a1  h7) k_X13_loadOf tw_6_233 tw_0_34 tw_6_231 (by decide) (ge_13 rfl) rfl rfl rfl rfl rfl rfl dX13_limits_31) rfl rfl rfl (fun H locs M => ?_)
      refine lv_iload_n hx hb dX13_limits_34 rfl (lv_at hl 2 rfl) ?_
      refine lv_icmp_le (tgt := 44) hx hb dX13_limits_35 (by decide) (fun c9 => ?_) (fun c9 => ?_)
      · have hf := it_p c9 hf
        refine lv_aload_n hx hb dX13_limits_44 rfl (lv_at hl 0 rfl) ?_
        refine gf_X13_0 (i := 219) S M (by decide) rfl tw_6_107 dX13_limits_45 ?_
        refine lv_sipush (v := 131) hx hb dX13_limits_48 (by decide) ?_
        refine lv_iload_n hx hb dX13_limits_51 rfl (lv_at hl 1 rfl) ?_
        refine lv_iadd hx hb dX13_limits_52 ?_
        obtain ⟨h10, hf⟩ := gi_x hf
        refine gk_iald (i := 220) (k := (131 + a1).toNatClampNeg) S M (by decide) (gaa_134 rfl) h10 rfl dX13_limits_53 ?_
        obtain ⟨x11, ex11, hf⟩ := nm_x hf
        refine g_topi ex11 ?_
        refine lv_istore_n (lv' := [(3, .int x11), (0, .ref (G.1 219)), (1, .int a1), (2, .int a2)]) hx hb dX13_limits_54 rfl hl (by decide) rfl (fun ls hl => ?_)
        refine lv_aload_n hx hb dX13_limits_55 rfl (lv_at hl 1 rfl) ?_
        refine gf_X13_0 (i := 219) S M (by decide) rfl tw_6_107 dX13_limits_56 ?_
        refine lv_sipush (v := 131) hx hb dX13_limits_59 (by decide) ?_
        refine lv_iload_n hx hb dX13_limits_62 rfl (lv_at hl 2 rfl) ?_
        refine lv_iadd hx hb dX13_limits_63 ?_
        refine lv_iload_n hx hb dX13_limits_64 rfl (lv_at hl 3 rfl) ?_
        obtain ⟨h12, hf⟩ := gi_x hf
        obtain ⟨σ13, eσ13, hf⟩ := nm_x hf
        refine gk_iast (i := 220) (k := (131 + a1).toNatClampNeg) S M (by decide) (fun _ => (gaa_134 rfl)) h12 rfl dX13_limits_65 (fun H locs M => ?_)
        rw [← eσ13] at M
        refine lv_aload_n hx hb dX13_limits_66 rfl (lv_at hl 1 rfl) ?_
        refine lv_iload_n hx hb dX13_limits_67 rfl (lv_at hl 0 rfl) ?_
        obtain ⟨r15, σ16, h14, hf⟩ := bd2_x hf
        refine g_callR (st1 := [.int r15]) (cells' := 0) (slots' := 0) M (g_invV (index := 72) S M C0 hl (c_X13_done l G H.size lo dd σ13 x11  h14) k_X13_done tw_6_198 tw_0_29 tw_6_196 (by decide) (ge_13 rfl) rfl rfl rfl rfl rfl rfl dX13_limits_68) rfl rfl rfl (fun H locs M => ?_)
        cases hf
        exact g_iret S M hr hlk (by decide) (by decide) dX13_limits_71 rfl
      · have hf := it_n c9 hf
        refine lv_aload_n hx hb dX13_limits_38 rfl (lv_at hl 0 rfl) ?_
        refine lv_iconst (v := 3) hx hb dX13_limits_39 (by decide) ?_
        obtain ⟨r18, σ19, h17, hf⟩ := bd2_x hf
        refine g_callR (st1 := [.int r18]) (cells' := 0) (slots' := 0) M (g_invV (index := 64) S M C0 hl (c_X13_fails l G H.size lo dd σ 3  h17) k_X13_fails tw_6_186 tw_0_26 tw_6_184 (by decide) (ge_13 rfl) rfl rfl rfl rfl rfl rfl dX13_limits_40) rfl rfl rfl (fun H locs M => ?_)
        cases hf
        exact g_iret S M hr hlk (by decide) (by decide) dX13_limits_43 rfl
    · have hf := it_p c6 hf
      refine lv_aload_n hx hb dX13_limits_23 rfl (lv_at hl 0 rfl) ?_
      refine lv_iconst (v := 2) hx hb dX13_limits_24 (by decide) ?_
      obtain ⟨r21, σ22, h20, hf⟩ := bd2_x hf
      refine g_callR (st1 := [.int r21]) (cells' := 0) (slots' := 0) M (g_invV (index := 64) S M C0 hl (c_X13_fails l G H.size lo dd σ 2  h20) k_X13_fails tw_6_186 tw_0_26 tw_6_184 (by decide) (ge_13 rfl) rfl rfl rfl rfl rfl rfl dX13_limits_25) rfl rfl rfl (fun H locs M => ?_)
      cases hf
      exact g_iret S M hr hlk (by decide) (by decide) dX13_limits_28 rfl
  · have hf := it_p c3 hf
    refine lv_aload_n hx hb dX13_limits_7 rfl (lv_at hl 0 rfl) ?_
    refine lv_iconst (v := 1) hx hb dX13_limits_8 (by decide) ?_
    obtain ⟨r24, σ25, h23, hf⟩ := bd2_x hf
    refine g_callR (st1 := [.int r24]) (cells' := 0) (slots' := 0) M (g_invV (index := 64) S M C0 hl (c_X13_fails l G H.size lo dd σ 1  h23) k_X13_fails tw_6_186 tw_0_26 tw_6_184 (by decide) (ge_13 rfl) rfl rfl rfl rfl rfl rfl dX13_limits_9) rfl rfl rfl (fun H locs M => ?_)
    cases hf
    exact g_iret S M hr hlk (by decide) (by decide) dX13_limits_12 rfl
theorem k_X13_setCapacity : gMV yX13_setCapacity cX13_setCapacity 3 (some .int) 2 := ⟨tw_6_223, tw_1_12, by decide⟩
set_option maxHeartbeats 400000 in
set_option maxRecDepth 100000 in
theorem c_X13_setCapacity (l : Launch) (G : gT) (sz : Nat) (lo : Int64) (dd : UInt64) (σ : gM) (a1 : Int32) (a2 : Int32) {r : Int32} {o : gM} (hf : f_X13_setCapacity σ a1 a2 = some (r, o)) : gCT l yX13_setCapacity cX13_setCapacity 3 (some .int) { frames := 3, cells := 0, slots := 0, locals := 65 } 0 0 G sz [.ref (G.1 219), .int a1, .int a2] lo dd σ (.inl (mkI r, o, lo, dd)) := by
  refine gCT_of (by decide) (Nat.le_of_ble_eq_true rfl) (fun p e s m args below meth c ls S hr hlk hnx hsz C0 hl H locs M => ?_)
  subst hsz
  have hx := S.1
  have hb := S.2.1
  unfold f_X13_setCapacity at hf
  refine lv_aload_n hx hb dX13_setCapacity_0 rfl (lv_at hl 0 rfl) ?_
  obtain ⟨σ2, h1, hf⟩ := bd_x hf
  refine g_callR (st1 := []) (cells' := 0) (slots' := 0) M (g_invV (index := 75) S M C0 hl (c_X13_begin l G H.size lo dd σ   h1) k_X13_begin tw_6_169 tw_0_24 tw_6_167 (by decide) (ge_13 rfl) rfl rfl rfl rfl rfl rfl dX13_setCapacity_1) rfl rfl rfl (fun H locs M => ?_)
  refine lv_aload_n hx hb dX13_setCapacity_4 rfl (lv_at hl 0 rfl) ?_
  refine lv_aload_n hx hb dX13_setCapacity_5 rfl (lv_at hl 0 rfl) ?_
  refine lv_iload_n hx hb dX13_setCapacity_6 rfl (lv_at hl 1 rfl) ?_
  refine lv_iload_n hx hb dX13_setCapacity_7 rfl (lv_at hl 2 rfl) ?_
  obtain ⟨r4, σ5, h3, hf⟩ := bd2_x hf
  refine g_callR (st1 := [.int r4, .ref (G.1 219)]) (cells' := 0) (slots' := 0) M (g_invV (index := 101) S M C0 hl (c_X13_limits l G H.size lo dd σ2 a1 a2  h3) k_X13_limits tw_6_226 tw_0_33 tw_6_224 (by decide) (ge_13 rfl) rfl rfl rfl rfl rfl rfl dX13_setCapacity_8) rfl rfl rfl (fun H locs M => ?_)
  obtain ⟨r7, σ8, h6, hf⟩ := bd2_x hf
  refine g_callR (st1 := [.int r7]) (cells' := 0) (slots' := 0) M (g_invV (index := 82) S M C0 hl (c_X13_kept l G H.size lo dd σ5 r4  h6) k_X13_kept tw_6_202 tw_0_30 tw_6_200 (by decide) (ge_13 rfl) rfl rfl rfl rfl rfl rfl dX13_setCapacity_11) rfl rfl rfl (fun H locs M => ?_)
  cases hf
  exact g_iret S M hr hlk (by decide) (by decide) dX13_setCapacity_14 rfl
theorem k_X13_isBetter : gMV yX13_isBetter cX13_isBetter 4 (some .boolean) 2 := ⟨tw_7_18, tw_1_12, by decide⟩
set_option maxHeartbeats 400000 in
set_option maxRecDepth 100000 in
theorem c_X13_isBetter (l : Launch) (G : gT) (sz : Nat) (lo : Int64) (dd : UInt64) (σ : gM) (a1 : Int32) (a2 : Int32) {o : Int32} (hf : f_X13_isBetter σ a1 a2 = some o) : gCT l yX13_isBetter cX13_isBetter 4 (some .boolean) { frames := 0, cells := 0, slots := 0, locals := 0 } 0 0 G sz [.ref (G.1 219), .int a1, .int a2] lo dd σ (.inl (mkI o, σ, lo, dd)) := by
  refine gCT_of (by decide) (Nat.le_of_ble_eq_true rfl) (fun p e s m args below meth c ls S hr hlk hnx hsz C0 hl H locs M => ?_)
  subst hsz
  have hx := S.1
  have hb := S.2.1
  unfold f_X13_isBetter at hf
  refine lv_aload_n hx hb dX13_isBetter_0 rfl (lv_at hl 0 rfl) ?_
  refine gf_X13_0 (i := 219) S M (by decide) rfl tw_6_107 dX13_isBetter_1 ?_
  refine lv_bipush (v := 112) hx hb dX13_isBetter_4 (by decide) ?_
  refine lv_iload_n hx hb dX13_isBetter_6 rfl (lv_at hl 2 rfl) ?_
  refine lv_iadd hx hb dX13_isBetter_7 ?_
  obtain ⟨h1, hf⟩ := gi_x hf
  refine gk_iald (i := 220) (k := (112 + a2).toNatClampNeg) S M (by decide) (gaa_134 rfl) h1 rfl dX13_isBetter_8 ?_
  refine lv_aload_n hx hb dX13_isBetter_9 rfl (lv_at hl 0 rfl) ?_
  refine gf_X13_0 (i := 219) S M (by decide) rfl tw_6_107 dX13_isBetter_10 ?_
  refine lv_bipush (v := 112) hx hb dX13_isBetter_13 (by decide) ?_
  refine lv_iload_n hx hb dX13_isBetter_15 rfl (lv_at hl 1 rfl) ?_
  refine lv_iadd hx hb dX13_isBetter_16 ?_
  obtain ⟨h2, hf⟩ := gi_x hf
  refine gk_iald (i := 220) (k := (112 + a1).toNatClampNeg) S M (by decide) (gaa_134 rfl) h2 rfl dX13_isBetter_17 ?_
  refine lv_isub hx hb dX13_isBetter_18 ?_
  obtain ⟨x3, ex3, hf⟩ := nm_x hf
  refine g_topi ex3 ?_
  refine lv_istore_n (lv' := [(3, .int x3), (0, .ref (G.1 219)), (1, .int a1), (2, .int a2)]) hx hb dX13_isBetter_19 rfl hl (by decide) rfl (fun ls hl => ?_)
  refine lv_iload_n hx hb dX13_isBetter_20 rfl (lv_at hl 0 rfl) ?_
  refine lv_if_gt (tgt := 49) hx hb dX13_isBetter_21 (by decide) (fun c4 => ?_) (fun c4 => ?_)
  · have hf := it_p c4 hf
    refine lv_iconst (v := 1) hx hb dX13_isBetter_49 (by decide) ?_
    refine lv_goto (tgt := 54) hx hb dX13_isBetter_50 (by decide) ?_
    cases hf
    exact g_zret S M hr hlk (by decide) (by decide) (by decide) dX13_isBetter_54 rfl
  · have hf := it_n c4 hf
    refine lv_iload_n hx hb dX13_isBetter_24 rfl (lv_at hl 0 rfl) ?_
    refine lv_if_ne (tgt := 53) hx hb dX13_isBetter_25 (by decide) (fun c5 => ?_) (fun c5 => ?_)
    · have hf := it_n c5 hf
      refine lv_iconst (v := 0) hx hb dX13_isBetter_53 (by decide) ?_
      cases hf
      exact g_zret S M hr hlk (by decide) (by decide) (by decide) dX13_isBetter_54 rfl
    · have hf := it_p c5 hf
      refine lv_aload_n hx hb dX13_isBetter_28 rfl (lv_at hl 1 rfl) ?_
      refine gf_X13_0 (i := 219) S M (by decide) rfl tw_6_107 dX13_isBetter_29 ?_
      refine lv_bipush (v := 120) hx hb dX13_isBetter_32 (by decide) ?_
      refine lv_iload_n hx hb dX13_isBetter_34 rfl (lv_at hl 2 rfl) ?_
      refine lv_iadd hx hb dX13_isBetter_35 ?_
      obtain ⟨h6, hf⟩ := gi_x hf
      refine gk_iald (i := 220) (k := (120 + a1).toNatClampNeg) S M (by decide) (gaa_134 rfl) h6 rfl dX13_isBetter_36 ?_
      refine lv_aload_n hx hb dX13_isBetter_37 rfl (lv_at hl 1 rfl) ?_
      refine gf_X13_0 (i := 219) S M (by decide) rfl tw_6_107 dX13_isBetter_38 ?_
      refine lv_bipush (v := 120) hx hb dX13_isBetter_41 (by decide) ?_
      refine lv_iload_n hx hb dX13_isBetter_43 rfl (lv_at hl 3 rfl) ?_
      refine lv_iadd hx hb dX13_isBetter_44 ?_
      obtain ⟨h7, hf⟩ := gi_x hf
      refine gk_iald (i := 220) (k := (120 + a2).toNatClampNeg) S M (by decide) (gaa_134 rfl) h7 rfl dX13_isBetter_45 ?_
      refine lv_icmp_le (tgt := 53) hx hb dX13_isBetter_46 (by decide) (fun c8 => ?_) (fun c8 => ?_)
      · have hf := it_p c8 hf
        refine lv_iconst (v := 0) hx hb dX13_isBetter_53 (by decide) ?_
        cases hf
        exact g_zret S M hr hlk (by decide) (by decide) (by decide) dX13_isBetter_54 rfl
      · have hf := it_n c8 hf
        refine lv_iconst (v := 1) hx hb dX13_isBetter_49 (by decide) ?_
        refine lv_goto (tgt := 54) hx hb dX13_isBetter_50 (by decide) ?_
        cases hf
        exact g_zret S M hr hlk (by decide) (by decide) (by decide) dX13_isBetter_54 rfl
theorem k_X13_gloveOf : gMV yX13_gloveOf cX13_gloveOf 4 (some .int) 1 := ⟨tw_7_14, tw_1_12, by decide⟩
set_option maxHeartbeats 400000 in
set_option maxRecDepth 100000 in
theorem w_X13_gloveOf_L4 {p : Program} {l : Launch} {e : Env} {s : State} {m : MethodId} {args : Array Value} {below : List Frame} {meth : Method} {c : Code} {Q : State → Prop} {G : gT} {lo : Int64} {dd : UInt64} (S : CallFix p m c cX13_gloveOf 4 s args gTs RX13) (C0 : gCST G (gAA G s.heap.size) s) (p1 : Int32) (σ : gM) : ∀ (n : Nat) (v2 : Int32) (v3 : Int32) (res : Int32), f_X13_gloveOf_L4 p1 σ n v2 v3 = some res → ∀ (H : Heap) (locs : List Loc) (ls : Array Slot), gMS G (gAA G s.heap.size) lo dd σ s H locs → lv_has ls 4 [(0, .ref (G.1 219)), (1, .int p1), (2, .int v2), (3, .int v3)] → (k54 : ∀ (u2 : Int32), res = u2 → ∀ (H : Heap) (locs : List Loc) (ls : Array Slot), gMS G (gAA G s.heap.size) lo dd σ s H locs → lv_has ls 4 [(2, .int u2)] → W p l e ({ frames := 1, cells := 0, slots := 0, locals := 23 } : Room) s m args below meth c H locs 0 0 Q (F0 m 54 ls [])) → W p l e ({ frames := 1, cells := 0, slots := 0, locals := 23 } : Room) s m args below meth c H locs 0 0 Q (F0 m 4 ls []) := by
  have hx := S.1
  have hb := S.2.1
  intro n
  induction n with
  | zero =>
    intro v2 v3 res hf
    cases hf
  | succ n ih =>
    intro v2 v3 res hf H locs ls M hl k54
    rw [f_X13_gloveOf_L4] at hf
    refine lv_iload_n hx hb dX13_gloveOf_4 rfl (lv_at hl 3 rfl) ?_
    refine lv_aload_n hx hb dX13_gloveOf_5 rfl (lv_at hl 0 rfl) ?_
    refine gf_X13_0 (i := 219) S M (by decide) rfl tw_6_107 dX13_gloveOf_6 ?_
    refine lv_bipush (v := 37) hx hb dX13_gloveOf_9 (by decide) ?_
    refine gk_iald (i := 220) (k := 37) S M (by decide) (gaa_134 rfl) (by unfold vp_in; decide) (by decide) dX13_gloveOf_11 ?_
    refine lv_icmp_ge (tgt := 54) hx hb dX13_gloveOf_12 (by decide) (fun c1 => ?_) (fun c1 => ?_)
    · have hf := it_p c1 hf
      cases hf
      exact k54 _ rfl _ _ _ M (lv_sub hl [2] rfl)
    · have hf := it_n c1 hf
      refine lv_aload_n hx hb dX13_gloveOf_15 rfl (lv_at hl 0 rfl) ?_
      refine gf_X13_0 (i := 219) S M (by decide) rfl tw_6_107 dX13_gloveOf_16 ?_
      refine lv_bipush (v := 112) hx hb dX13_gloveOf_19 (by decide) ?_
      refine lv_iload_n hx hb dX13_gloveOf_21 rfl (lv_at hl 3 rfl) ?_
      refine lv_iadd hx hb dX13_gloveOf_22 ?_
      obtain ⟨h2, hf⟩ := gi_x hf
      refine gk_iald (i := 220) (k := (112 + v3).toNatClampNeg) S M (by decide) (gaa_134 rfl) h2 rfl dX13_gloveOf_23 ?_
      refine lv_iload_n hx hb dX13_gloveOf_24 rfl (lv_at hl 1 rfl) ?_
      refine lv_icmp_lt (tgt := 48) hx hb dX13_gloveOf_25 (by decide) (fun c3 => ?_) (fun c3 => ?_)
      · have hf := it_p c3 hf
        obtain ⟨x4, ex4, hf⟩ := nm_x hf
        refine lv_iinc (v := x4) (lv' := [(3, .int x4), (0, .ref (G.1 219)), (1, .int p1), (2, .int v2)]) hx hb dX13_gloveOf_48 hl (k := 3) rfl (by rw [ex4]; rfl) (by decide) rfl (fun ls hl => ?_)
        refine lv_goto (tgt := 4) hx hb dX13_gloveOf_51 (by decide) ?_
        exact ih _ _ _ hf _ _ _ M (lv_sub hl [1, 2, 3, 0] rfl) k54
      · have hf := it_n c3 hf
        refine lv_iload_n hx hb dX13_gloveOf_28 rfl (lv_at hl 2 rfl) ?_
        refine lv_iconst (v := (-1)) hx hb dX13_gloveOf_29 (by decide) ?_
        refine lv_icmp_eq (tgt := 42) hx hb dX13_gloveOf_30 (by decide) (fun c5 => ?_) (fun c5 => ?_)
        · have hf := it_p c5 hf
          refine lv_iload_n hx hb dX13_gloveOf_42 rfl (lv_at hl 3 rfl) ?_
          refine lv_goto (tgt := 47) hx hb dX13_gloveOf_43 (by decide) ?_
          refine lv_istore_n (lv' := [(2, .int v3), (0, .ref (G.1 219)), (1, .int p1), (3, .int v3)]) hx hb dX13_gloveOf_47 rfl hl (by decide) rfl (fun ls hl => ?_)
          obtain ⟨x6, ex6, hf⟩ := nm_x hf
          refine lv_iinc (v := x6) (lv' := [(3, .int x6), (2, .int v3), (0, .ref (G.1 219)), (1, .int p1)]) hx hb dX13_gloveOf_48 hl (k := 3) rfl (by rw [ex6]; rfl) (by decide) rfl (fun ls hl => ?_)
          refine lv_goto (tgt := 4) hx hb dX13_gloveOf_51 (by decide) ?_
          exact ih _ _ _ hf _ _ _ M (lv_sub hl [2, 3, 1, 0] rfl) k54
        · have hf := it_n c5 hf
          refine lv_aload_n hx hb dX13_gloveOf_33 rfl (lv_at hl 0 rfl) ?_
          refine lv_iload_n hx hb dX13_gloveOf_34 rfl (lv_at hl 3 rfl) ?_
          refine lv_iload_n hx hb dX13_gloveOf_35 rfl (lv_at hl 2 rfl) ?_
          obtain ⟨r8, h7, hf⟩ := bd_x hf
          refine g_callR (st1 := [.int r8]) (cells' := 0) (slots' := 0) M (g_invV (index := 104) S M C0 hl (c_X13_isBetter l G H.size lo dd σ v3 v2  h7) k_X13_isBetter tw_7_17 tw_0_39 tw_7_15 (by decide) (ge_13 rfl) rfl rfl rfl rfl rfl rfl dX13_gloveOf_36) rfl rfl rfl (fun H locs M => ?_)
          refine lv_if_eq (tgt := 46) hx hb dX13_gloveOf_39 (by decide) (fun c9 => ?_) (fun c9 => ?_)
          · have hf := it_p c9 hf
            refine lv_iload_n hx hb dX13_gloveOf_46 rfl (lv_at hl 2 rfl) ?_
            refine lv_istore_n (lv' := [(2, .int v2), (0, .ref (G.1 219)), (1, .int p1), (3, .int v3)]) hx hb dX13_gloveOf_47 rfl hl (by decide) rfl (fun ls hl => ?_)
            obtain ⟨x10, ex10, hf⟩ := nm_x hf
            refine lv_iinc (v := x10) (lv' := [(3, .int x10), (2, .int v2), (0, .ref (G.1 219)), (1, .int p1)]) hx hb dX13_gloveOf_48 hl (k := 3) rfl (by rw [ex10]; rfl) (by decide) rfl (fun ls hl => ?_)
            refine lv_goto (tgt := 4) hx hb dX13_gloveOf_51 (by decide) ?_
            exact ih _ _ _ hf _ _ _ M (lv_sub hl [2, 3, 1, 0] rfl) k54
          · have hf := it_n c9 hf
            refine lv_iload_n hx hb dX13_gloveOf_42 rfl (lv_at hl 3 rfl) ?_
            refine lv_goto (tgt := 47) hx hb dX13_gloveOf_43 (by decide) ?_
            refine lv_istore_n (lv' := [(2, .int v3), (0, .ref (G.1 219)), (1, .int p1), (3, .int v3)]) hx hb dX13_gloveOf_47 rfl hl (by decide) rfl (fun ls hl => ?_)
            obtain ⟨x11, ex11, hf⟩ := nm_x hf
            refine lv_iinc (v := x11) (lv' := [(3, .int x11), (2, .int v3), (0, .ref (G.1 219)), (1, .int p1)]) hx hb dX13_gloveOf_48 hl (k := 3) rfl (by rw [ex11]; rfl) (by decide) rfl (fun ls hl => ?_)
            refine lv_goto (tgt := 4) hx hb dX13_gloveOf_51 (by decide) ?_
            exact ih _ _ _ hf _ _ _ M (lv_sub hl [2, 3, 1, 0] rfl) k54
set_option maxHeartbeats 400000 in
set_option maxRecDepth 100000 in
theorem c_X13_gloveOf (l : Launch) (G : gT) (sz : Nat) (lo : Int64) (dd : UInt64) (σ : gM) (a1 : Int32) {o : Int32} (hf : f_X13_gloveOf σ a1 = some o) : gCT l yX13_gloveOf cX13_gloveOf 4 (some .int) { frames := 1, cells := 0, slots := 0, locals := 23 } 0 0 G sz [.ref (G.1 219), .int a1] lo dd σ (.inl (mkI o, σ, lo, dd)) := by
  refine gCT_of (by decide) (Nat.le_of_ble_eq_true rfl) (fun p e s m args below meth c ls S hr hlk hnx hsz C0 hl H locs M => ?_)
  subst hsz
  have hx := S.1
  have hb := S.2.1
  unfold f_X13_gloveOf at hf
  refine lv_iconst (v := (-1)) hx hb dX13_gloveOf_0 (by decide) ?_
  refine lv_istore_n (lv' := [(2, .int (-1)), (0, .ref (G.1 219)), (1, .int a1)]) hx hb dX13_gloveOf_1 rfl hl (by decide) rfl (fun ls hl => ?_)
  refine lv_iconst (v := 0) hx hb dX13_gloveOf_2 (by decide) ?_
  refine lv_istore_n (lv' := [(3, .int 0), (2, .int (-1)), (0, .ref (G.1 219)), (1, .int a1)]) hx hb dX13_gloveOf_3 rfl hl (by decide) rfl (fun ls hl => ?_)
  obtain ⟨y13, h12, hf⟩ := bd_x hf
  refine w_X13_gloveOf_L4 S C0 a1 σ gFU (-1) 0 _ h12 _ _ _ M (lv_sub hl [2, 3, 1, 0] rfl) (fun _ eq H locs ls M hl => ?_)
  cases eq
  refine lv_iload_n hx hb dX13_gloveOf_54 rfl (lv_at hl 0 rfl) ?_
  cases hf
  exact g_iret S M hr hlk (by decide) (by decide) dX13_gloveOf_55 rfl
theorem k_X13_isHandled : gMV yX13_isHandled cX13_isHandled 2 (some .boolean) 1 := ⟨tw_7_10, tw_1_12, by decide⟩
set_option maxHeartbeats 400000 in
set_option maxRecDepth 100000 in
theorem c_X13_isHandled (l : Launch) (G : gT) (sz : Nat) (lo : Int64) (dd : UInt64) (σ : gM) (a1 : Int32) {o : Int32} (hf : f_X13_isHandled σ a1 = some o) : gCT l yX13_isHandled cX13_isHandled 2 (some .boolean) { frames := 2, cells := 0, slots := 0, locals := 46 } 0 0 G sz [.ref (G.1 219), .int a1] lo dd σ (.inl (mkI o, σ, lo, dd)) := by
  refine gCT_of (by decide) (Nat.le_of_ble_eq_true rfl) (fun p e s m args below meth c ls S hr hlk hnx hsz C0 hl H locs M => ?_)
  subst hsz
  have hx := S.1
  have hb := S.2.1
  unfold f_X13_isHandled at hf
  refine lv_aload_n hx hb dX13_isHandled_0 rfl (lv_at hl 0 rfl) ?_
  refine gf_X13_0 (i := 219) S M (by decide) rfl tw_6_107 dX13_isHandled_1 ?_
  refine lv_bipush (v := 52) hx hb dX13_isHandled_4 (by decide) ?_
  refine lv_iload_n hx hb dX13_isHandled_6 rfl (lv_at hl 1 rfl) ?_
  refine lv_iadd hx hb dX13_isHandled_7 ?_
  obtain ⟨h1, hf⟩ := gi_x hf
  refine gk_iald (i := 220) (k := (52 + a1).toNatClampNeg) S M (by decide) (gaa_134 rfl) h1 rfl dX13_isHandled_8 ?_
  refine lv_if_eq (tgt := 29) hx hb dX13_isHandled_9 (by decide) (fun c2 => ?_) (fun c2 => ?_)
  · have hf := it_p c2 hf
    refine lv_iconst (v := 1) hx hb dX13_isHandled_29 (by decide) ?_
    refine lv_goto (tgt := 34) hx hb dX13_isHandled_30 (by decide) ?_
    cases hf
    exact g_zret S M hr hlk (by decide) (by decide) (by decide) dX13_isHandled_34 rfl
  · have hf := it_n c2 hf
    refine lv_aload_n hx hb dX13_isHandled_12 rfl (lv_at hl 0 rfl) ?_
    refine lv_aload_n hx hb dX13_isHandled_13 rfl (lv_at hl 0 rfl) ?_
    refine gf_X13_0 (i := 219) S M (by decide) rfl tw_6_107 dX13_isHandled_14 ?_
    refine lv_bipush (v := 52) hx hb dX13_isHandled_17 (by decide) ?_
    refine lv_iload_n hx hb dX13_isHandled_19 rfl (lv_at hl 1 rfl) ?_
    refine lv_iadd hx hb dX13_isHandled_20 ?_
    obtain ⟨h3, hf⟩ := gi_x hf
    refine gk_iald (i := 220) (k := (52 + a1).toNatClampNeg) S M (by decide) (gaa_134 rfl) h3 rfl dX13_isHandled_21 ?_
    obtain ⟨r5, h4, hf⟩ := bd_x hf
    refine g_callR (st1 := [.int r5]) (cells' := 0) (slots' := 0) M (g_invV (index := 108) S M C0 hl (c_X13_gloveOf l G H.size lo dd σ (σ 220 (52 + a1).toNatClampNeg)  h4) k_X13_gloveOf tw_7_13 tw_0_38 tw_7_11 (by decide) (ge_13 rfl) rfl rfl rfl rfl rfl rfl dX13_isHandled_22) rfl rfl rfl (fun H locs M => ?_)
    refine lv_iconst (v := (-1)) hx hb dX13_isHandled_25 (by decide) ?_
    refine lv_icmp_eq (tgt := 33) hx hb dX13_isHandled_26 (by decide) (fun c6 => ?_) (fun c6 => ?_)
    · have hf := it_p c6 hf
      refine lv_iconst (v := 0) hx hb dX13_isHandled_33 (by decide) ?_
      cases hf
      exact g_zret S M hr hlk (by decide) (by decide) (by decide) dX13_isHandled_34 rfl
    · have hf := it_n c6 hf
      refine lv_iconst (v := 1) hx hb dX13_isHandled_29 (by decide) ?_
      refine lv_goto (tgt := 34) hx hb dX13_isHandled_30 (by decide) ?_
      cases hf
      exact g_zret S M hr hlk (by decide) (by decide) (by decide) dX13_isHandled_34 rfl
theorem k_X13_handles : gMV yX13_handles cX13_handles 4 none 1 := ⟨tw_7_22, tw_1_12, by decide⟩
set_option maxHeartbeats 400000 in
set_option maxRecDepth 100000 in
theorem w_X13_handles_L55 {p : Program} {l : Launch} {e : Env} {s : State} {m : MethodId} {args : Array Value} {below : List Frame} {meth : Method} {c : Code} {Q : State → Prop} {G : gT} {lo : Int64} {dd : UInt64} (S : CallFix p m c cX13_handles 4 s args gTs RX13) (C0 : gCST G (gAA G s.heap.size) s) : ∀ (n : Nat) (v3 : Int32) (σ : gM) (res : gM), f_X13_handles_L55 n v3 σ = some res → ∀ (H : Heap) (locs : List Loc) (ls : Array Slot), gMS G (gAA G s.heap.size) lo dd σ s H locs → lv_has ls 4 [(0, .ref (G.1 219)), (3, .int v3)] → (k107 : ∀ (τ : gM), res = τ → ∀ (H : Heap) (locs : List Loc) (ls : Array Slot), gMS G (gAA G s.heap.size) lo dd τ s H locs → lv_has ls 4 [(0, .ref (G.1 219))] → W p l e ({ frames := 2, cells := 0, slots := 0, locals := 46 } : Room) s m args below meth c H locs 0 0 Q (F0 m 107 ls [])) → W p l e ({ frames := 2, cells := 0, slots := 0, locals := 46 } : Room) s m args below meth c H locs 0 0 Q (F0 m 55 ls []) := by
  have hx := S.1
  have hb := S.2.1
  intro n
  induction n with
  | zero =>
    intro v3 σ res hf
    cases hf
  | succ n ih =>
    intro v3 σ res hf H locs ls M hl k107
    rw [f_X13_handles_L55] at hf
    refine lv_iload_n hx hb dX13_handles_55 rfl (lv_at hl 1 rfl) ?_
    refine lv_bipush (v := 7) hx hb dX13_handles_56 (by decide) ?_
    refine lv_icmp_ge (tgt := 107) hx hb dX13_handles_58 (by decide) (fun c11 => ?_) (fun c11 => ?_)
    · have hf := it_p c11 hf
      cases hf
      exact k107 _ rfl _ _ _ M (lv_sub hl [0] rfl)
    · have hf := it_n c11 hf
      refine lv_aload_n hx hb dX13_handles_61 rfl (lv_at hl 0 rfl) ?_
      refine gf_X13_0 (i := 219) S M (by decide) rfl tw_6_107 dX13_handles_62 ?_
      refine lv_bipush (v := 112) hx hb dX13_handles_65 (by decide) ?_
      refine lv_iload_n hx hb dX13_handles_67 rfl (lv_at hl 1 rfl) ?_
      refine lv_iadd hx hb dX13_handles_68 ?_
      refine lv_aload_n hx hb dX13_handles_69 rfl (lv_at hl 0 rfl) ?_
      refine gf_X13_0 (i := 219) S M (by decide) rfl tw_6_107 dX13_handles_70 ?_
      refine lv_bipush (v := 112) hx hb dX13_handles_73 (by decide) ?_
      refine lv_iload_n hx hb dX13_handles_75 rfl (lv_at hl 1 rfl) ?_
      refine lv_iadd hx hb dX13_handles_76 ?_
      refine lv_iconst (v := 1) hx hb dX13_handles_77 (by decide) ?_
      refine lv_iadd hx hb dX13_handles_78 ?_
      obtain ⟨h12, hf⟩ := gi_x hf
      refine gk_iald (i := 220) (k := ((112 + v3) + 1).toNatClampNeg) S M (by decide) (gaa_134 rfl) h12 rfl dX13_handles_79 ?_
      obtain ⟨h13, hf⟩ := gi_x hf
      obtain ⟨σ14, eσ14, hf⟩ := nm_x hf
      refine gk_iast (i := 220) (k := (112 + v3).toNatClampNeg) S M (by decide) (fun _ => (gaa_134 rfl)) h13 rfl dX13_handles_80 (fun H locs M => ?_)
      rw [← eσ14] at M
      refine lv_aload_n hx hb dX13_handles_81 rfl (lv_at hl 0 rfl) ?_
      refine gf_X13_0 (i := 219) S M (by decide) rfl tw_6_107 dX13_handles_82 ?_
      refine lv_bipush (v := 120) hx hb dX13_handles_85 (by decide) ?_
      refine lv_iload_n hx hb dX13_handles_87 rfl (lv_at hl 1 rfl) ?_
      refine lv_iadd hx hb dX13_handles_88 ?_
      refine lv_aload_n hx hb dX13_handles_89 rfl (lv_at hl 0 rfl) ?_
      refine gf_X13_0 (i := 219) S M (by decide) rfl tw_6_107 dX13_handles_90 ?_
      refine lv_bipush (v := 120) hx hb dX13_handles_93 (by decide) ?_
      refine lv_iload_n hx hb dX13_handles_95 rfl (lv_at hl 1 rfl) ?_
      refine lv_iadd hx hb dX13_handles_96 ?_
      refine lv_iconst (v := 1) hx hb dX13_handles_97 (by decide) ?_
      refine lv_iadd hx hb dX13_handles_98 ?_
      obtain ⟨h15, hf⟩ := gi_x hf
      refine gk_iald (i := 220) (k := ((120 + v3) + 1).toNatClampNeg) S M (by decide) (gaa_134 rfl) h15 rfl dX13_handles_99 ?_
      obtain ⟨h16, hf⟩ := gi_x hf
      obtain ⟨σ17, eσ17, hf⟩ := nm_x hf
      refine gk_iast (i := 220) (k := (120 + v3).toNatClampNeg) S M (by decide) (fun _ => (gaa_134 rfl)) h16 rfl dX13_handles_100 (fun H locs M => ?_)
      rw [← eσ17] at M
      obtain ⟨x18, ex18, hf⟩ := nm_x hf
      refine lv_iinc (v := x18) (lv' := [(3, .int x18), (0, .ref (G.1 219))]) hx hb dX13_handles_101 hl (k := 1) rfl (by rw [ex18]; rfl) (by decide) rfl (fun ls hl => ?_)
      refine lv_goto (tgt := 55) hx hb dX13_handles_104 (by decide) ?_
      exact ih _ _ _ hf _ _ _ M (lv_sub hl [1, 0] rfl) k107
set_option maxHeartbeats 400000 in
set_option maxRecDepth 100000 in
theorem c_X13_handles (l : Launch) (G : gT) (sz : Nat) (lo : Int64) (dd : UInt64) (σ : gM) (a1 : Int32) {o : gM} (hf : f_X13_handles σ a1 = some o) : gCT l yX13_handles cX13_handles 4 none { frames := 2, cells := 0, slots := 0, locals := 46 } 0 0 G sz [.ref (G.1 219), .int a1] lo dd σ (.inl (none, o, lo, dd)) := by
  refine gCT_of (by decide) (Nat.le_of_ble_eq_true rfl) (fun p e s m args below meth c ls S hr hlk hnx hsz C0 hl H locs M => ?_)
  subst hsz
  have hx := S.1
  have hb := S.2.1
  unfold f_X13_handles at hf
  refine lv_aload_n hx hb dX13_handles_0 rfl (lv_at hl 0 rfl) ?_
  refine gf_X13_0 (i := 219) S M (by decide) rfl tw_6_107 dX13_handles_1 ?_
  refine lv_bipush (v := 52) hx hb dX13_handles_4 (by decide) ?_
  refine lv_iload_n hx hb dX13_handles_6 rfl (lv_at hl 1 rfl) ?_
  refine lv_iadd hx hb dX13_handles_7 ?_
  obtain ⟨h1, hf⟩ := gi_x hf
  refine gk_iald (i := 220) (k := (52 + a1).toNatClampNeg) S M (by decide) (gaa_134 rfl) h1 rfl dX13_handles_8 ?_
  refine lv_if_ne (tgt := 13) hx hb dX13_handles_9 (by decide) (fun c2 => ?_) (fun c2 => ?_)
  · have hf := it_n c2 hf
    refine lv_aload_n hx hb dX13_handles_13 rfl (lv_at hl 0 rfl) ?_
    refine lv_aload_n hx hb dX13_handles_14 rfl (lv_at hl 0 rfl) ?_
    refine gf_X13_0 (i := 219) S M (by decide) rfl tw_6_107 dX13_handles_15 ?_
    refine lv_bipush (v := 52) hx hb dX13_handles_18 (by decide) ?_
    refine lv_iload_n hx hb dX13_handles_20 rfl (lv_at hl 1 rfl) ?_
    refine lv_iadd hx hb dX13_handles_21 ?_
    obtain ⟨h3, hf⟩ := gi_x hf
    refine gk_iald (i := 220) (k := (52 + a1).toNatClampNeg) S M (by decide) (gaa_134 rfl) h3 rfl dX13_handles_22 ?_
    obtain ⟨r5, h4, hf⟩ := bd_x hf
    refine g_callR (st1 := [.int r5]) (cells' := 0) (slots' := 0) M (g_invV (index := 108) S M C0 hl (c_X13_gloveOf l G H.size lo dd σ (σ 220 (52 + a1).toNatClampNeg)  h4) k_X13_gloveOf tw_7_13 tw_0_38 tw_7_11 (by decide) (ge_13 rfl) rfl rfl rfl rfl rfl rfl dX13_handles_23) rfl rfl rfl (fun H locs M => ?_)
    refine lv_istore_n (lv' := [(2, .int r5), (0, .ref (G.1 219)), (1, .int a1)]) hx hb dX13_handles_26 rfl hl (by decide) rfl (fun ls hl => ?_)
    refine lv_aload_n hx hb dX13_handles_27 rfl (lv_at hl 1 rfl) ?_
    refine gf_X13_0 (i := 219) S M (by decide) rfl tw_6_107 dX13_handles_28 ?_
    refine lv_bipush (v := 120) hx hb dX13_handles_31 (by decide) ?_
    refine lv_iload_n hx hb dX13_handles_33 rfl (lv_at hl 0 rfl) ?_
    refine lv_iadd hx hb dX13_handles_34 ?_
    refine lv_dup2_11 hx hb dX13_handles_35 rfl rfl ?_
    obtain ⟨h6, hf⟩ := gi_x hf
    refine gk_iald (i := 220) (k := (120 + r5).toNatClampNeg) S M (by decide) (gaa_134 rfl) h6 rfl dX13_handles_36 ?_
    refine lv_iconst (v := 1) hx hb dX13_handles_37 (by decide) ?_
    refine lv_iadd hx hb dX13_handles_38 ?_
    obtain ⟨h7, hf⟩ := gi_x hf
    obtain ⟨σ8, eσ8, hf⟩ := nm_x hf
    refine gk_iast (i := 220) (k := (120 + r5).toNatClampNeg) S M (by decide) (fun _ => (gaa_134 rfl)) h7 rfl dX13_handles_39 (fun H locs M => ?_)
    rw [← eσ8] at M
    refine lv_aload_n hx hb dX13_handles_40 rfl (lv_at hl 1 rfl) ?_
    refine gf_X13_0 (i := 219) S M (by decide) rfl tw_6_107 dX13_handles_41 ?_
    refine lv_bipush (v := 120) hx hb dX13_handles_44 (by decide) ?_
    refine lv_iload_n hx hb dX13_handles_46 rfl (lv_at hl 0 rfl) ?_
    refine lv_iadd hx hb dX13_handles_47 ?_
    obtain ⟨h9, hf⟩ := gi_x hf
    refine gk_iald (i := 220) (k := (120 + r5).toNatClampNeg) S M (by decide) (gaa_134 rfl) h9 rfl dX13_handles_48 ?_
    refine lv_iconst (v := 3) hx hb dX13_handles_49 (by decide) ?_
    refine lv_icmp_ne (tgt := 129) hx hb dX13_handles_50 (by decide) (fun c10 => ?_) (fun c10 => ?_)
    · have hf := it_n c10 hf
      cases hf
      exact g_vret S M hr hlk (by decide) (by decide) dX13_handles_129 rfl
    · have hf := it_p c10 hf
      refine lv_iload_n hx hb dX13_handles_53 rfl (lv_at hl 0 rfl) ?_
      refine lv_istore_n (lv' := [(3, .int r5), (2, .int r5), (0, .ref (G.1 219)), (1, .int a1)]) hx hb dX13_handles_54 rfl hl (by decide) rfl (fun ls hl => ?_)
      obtain ⟨σ20, h19, hf⟩ := bd_x hf
      refine w_X13_handles_L55 S C0 gFU r5 σ8 _ h19 _ _ _ M (lv_sub hl [2, 0] rfl) (fun _ eq H locs ls M hl => ?_)
      cases eq
      refine lv_aload_n hx hb dX13_handles_107 rfl (lv_at hl 0 rfl) ?_
      refine gf_X13_0 (i := 219) S M (by decide) rfl tw_6_107 dX13_handles_108 ?_
      refine lv_bipush (v := 37) hx hb dX13_handles_111 (by decide) ?_
      refine lv_dup2_11 hx hb dX13_handles_113 rfl rfl ?_
      refine gk_iald (i := 220) (k := 37) S M (by decide) (gaa_134 rfl) (by unfold vp_in; decide) (by decide) dX13_handles_114 ?_
      refine lv_iconst (v := 1) hx hb dX13_handles_115 (by decide) ?_
      refine lv_isub hx hb dX13_handles_116 ?_
      obtain ⟨σ21, eσ21, hf⟩ := nm_x hf
      refine gk_iast (i := 220) (k := 37) S M (by decide) (fun _ => (gaa_134 rfl)) (by unfold vp_in; decide) (by decide) dX13_handles_117 (fun H locs M => ?_)
      rw [← eσ21] at M
      refine lv_aload_n hx hb dX13_handles_118 rfl (lv_at hl 0 rfl) ?_
      refine gf_X13_0 (i := 219) S M (by decide) rfl tw_6_107 dX13_handles_119 ?_
      refine lv_bipush (v := 39) hx hb dX13_handles_122 (by decide) ?_
      refine lv_dup2_11 hx hb dX13_handles_124 rfl rfl ?_
      refine gk_iald (i := 220) (k := 39) S M (by decide) (gaa_134 rfl) (by unfold vp_in; decide) (by decide) dX13_handles_125 ?_
      refine lv_iconst (v := 1) hx hb dX13_handles_126 (by decide) ?_
      refine lv_iadd hx hb dX13_handles_127 ?_
      obtain ⟨σ22, eσ22, hf⟩ := nm_x hf
      refine gk_iast (i := 220) (k := 39) S M (by decide) (fun _ => (gaa_134 rfl)) (by unfold vp_in; decide) (by decide) dX13_handles_128 (fun H locs M => ?_)
      rw [← eσ22] at M
      cases hf
      exact g_vret S M hr hlk (by decide) (by decide) dX13_handles_129 rfl
  · have hf := it_p c2 hf
    cases hf
    exact g_vret S M hr hlk (by decide) (by decide) dX13_handles_12 rfl
theorem k_X13_puts : gMV yX13_puts cX13_puts 4 (some .int) 2 := ⟨tw_7_2, tw_1_12, by decide⟩
set_option maxHeartbeats 400000 in
set_option maxRecDepth 100000 in
theorem c_X13_puts (l : Launch) (G : gT) (sz : Nat) (lo : Int64) (dd : UInt64) (σ : gM) (a1 : Int32) (a2 : Int32) {r : Int32} {o : gM} (hf : f_X13_puts σ a1 a2 = some (r, o)) : gCT l yX13_puts cX13_puts 4 (some .int) { frames := 3, cells := 0, slots := 0, locals := 69 } 0 0 G sz [.ref (G.1 219), .int a1, .int a2] lo dd σ (.inl (mkI r, o, lo, dd)) := by
  refine gCT_of (by decide) (Nat.le_of_ble_eq_true rfl) (fun p e s m args below meth c ls S hr hlk hnx hsz C0 hl H locs M => ?_)
  subst hsz
  have hx := S.1
  have hb := S.2.1
  unfold f_X13_puts at hf
  refine lv_aload_n hx hb dX13_puts_0 rfl (lv_at hl 0 rfl) ?_
  refine lv_iload_n hx hb dX13_puts_1 rfl (lv_at hl 1 rfl) ?_
  obtain ⟨r2, h1, hf⟩ := bd_x hf
  refine g_callR (st1 := [.int r2]) (cells' := 0) (slots' := 0) M (g_invV (index := 111) S M C0 hl (c_X13_isParcel l G H.size lo dd σ a1  h1) k_X13_isParcel tw_7_5 tw_0_36 tw_7_3 (by decide) (ge_13 rfl) rfl rfl rfl rfl rfl rfl dX13_puts_2) rfl rfl rfl (fun H locs M => ?_)
  refine lv_if_eq (tgt := 15) hx hb dX13_puts_5 (by decide) (fun c3 => ?_) (fun c3 => ?_)
  · have hf := it_p c3 hf
    refine lv_aload_n hx hb dX13_puts_15 rfl (lv_at hl 0 rfl) ?_
    refine lv_iconst (v := 1) hx hb dX13_puts_16 (by decide) ?_
    obtain ⟨r5, σ6, h4, hf⟩ := bd2_x hf
    refine g_callR (st1 := [.int r5]) (cells' := 0) (slots' := 0) M (g_invV (index := 64) S M C0 hl (c_X13_fails l G H.size lo dd σ 1  h4) k_X13_fails tw_6_186 tw_0_26 tw_6_184 (by decide) (ge_13 rfl) rfl rfl rfl rfl rfl rfl dX13_puts_17) rfl rfl rfl (fun H locs M => ?_)
    cases hf
    exact g_iret S M hr hlk (by decide) (by decide) dX13_puts_20 rfl
  · have hf := it_n c3 hf
    refine lv_iload_n hx hb dX13_puts_8 rfl (lv_at hl 2 rfl) ?_
    obtain ⟨r8, h7, hf⟩ := bd_x hf
    refine g_callR (st1 := [.int r8]) (cells' := 0) (slots' := 0) M (g_invS (index := 95) S M C0 hl (c_X13_isSack l G H.size lo dd σ a2  h7) k_X13_isSack tw_6_229 tw_6_228 rfl rfl rfl rfl dX13_puts_9) rfl rfl rfl (fun H locs M => ?_)
    refine lv_if_ne (tgt := 21) hx hb dX13_puts_12 (by decide) (fun c9 => ?_) (fun c9 => ?_)
    · have hf := it_n c9 hf
      refine lv_aload_n hx hb dX13_puts_21 rfl (lv_at hl 0 rfl) ?_
      refine gf_X13_0 (i := 219) S M (by decide) rfl tw_6_107 dX13_puts_22 ?_
      refine lv_bipush (v := 76) hx hb dX13_puts_25 (by decide) ?_
      refine lv_iload_n hx hb dX13_puts_27 rfl (lv_at hl 1 rfl) ?_
      refine lv_iadd hx hb dX13_puts_28 ?_
      obtain ⟨h10, hf⟩ := gi_x hf
      refine gk_iald (i := 220) (k := (76 + a1).toNatClampNeg) S M (by decide) (gaa_134 rfl) h10 rfl dX13_puts_29 ?_
      refine lv_if_eq (tgt := 39) hx hb dX13_puts_30 (by decide) (fun c11 => ?_) (fun c11 => ?_)
      · have hf := it_p c11 hf
        refine lv_aload_n hx hb dX13_puts_39 rfl (lv_at hl 0 rfl) ?_
        refine lv_iload_n hx hb dX13_puts_40 rfl (lv_at hl 2 rfl) ?_
        obtain ⟨r13, h12, hf⟩ := bd_x hf
        refine g_callR (st1 := [.int r13]) (cells' := 0) (slots' := 0) M (g_invV (index := 98) S M C0 hl (c_X13_loadOf l G H.size lo dd σ a2  h12) k_X13_loadOf tw_6_233 tw_0_34 tw_6_231 (by decide) (ge_13 rfl) rfl rfl rfl rfl rfl rfl dX13_puts_41) rfl rfl rfl (fun H locs M => ?_)
        refine lv_aload_n hx hb dX13_puts_44 rfl (lv_at hl 0 rfl) ?_
        refine gf_X13_0 (i := 219) S M (by decide) rfl tw_6_107 dX13_puts_45 ?_
        refine lv_bipush (v := 40) hx hb dX13_puts_48 (by decide) ?_
        refine lv_iload_n hx hb dX13_puts_50 rfl (lv_at hl 1 rfl) ?_
        refine lv_iadd hx hb dX13_puts_51 ?_
        obtain ⟨h14, hf⟩ := gi_x hf
        refine gk_iald (i := 220) (k := (40 + a1).toNatClampNeg) S M (by decide) (gaa_134 rfl) h14 rfl dX13_puts_52 ?_
        refine lv_iadd hx hb dX13_puts_53 ?_
        obtain ⟨x15, ex15, hf⟩ := nm_x hf
        refine g_topi ex15 ?_
        refine lv_istore_n (lv' := [(3, .int x15), (0, .ref (G.1 219)), (1, .int a1), (2, .int a2)]) hx hb dX13_puts_54 rfl hl (by decide) rfl (fun ls hl => ?_)
        refine lv_iload_n hx hb dX13_puts_55 rfl (lv_at hl 0 rfl) ?_
        refine lv_aload_n hx hb dX13_puts_56 rfl (lv_at hl 1 rfl) ?_
        refine gf_X13_0 (i := 219) S M (by decide) rfl tw_6_107 dX13_puts_57 ?_
        refine lv_sipush (v := 131) hx hb dX13_puts_60 (by decide) ?_
        refine lv_iload_n hx hb dX13_puts_63 rfl (lv_at hl 3 rfl) ?_
        refine lv_iadd hx hb dX13_puts_64 ?_
        obtain ⟨h16, hf⟩ := gi_x hf
        refine gk_iald (i := 220) (k := (131 + a2).toNatClampNeg) S M (by decide) (gaa_134 rfl) h16 rfl dX13_puts_65 ?_
        refine lv_icmp_le (tgt := 75) hx hb dX13_puts_66 (by decide) (fun c17 => ?_) (fun c17 => ?_)
        · have hf := it_p c17 hf
          refine lv_aload_n hx hb dX13_puts_75 rfl (lv_at hl 1 rfl) ?_
          refine lv_iload_n hx hb dX13_puts_76 rfl (lv_at hl 2 rfl) ?_
          obtain ⟨r19, h18, hf⟩ := bd_x hf
          refine g_callR (st1 := [.int r19]) (cells' := 0) (slots' := 0) M (g_invV (index := 114) S M C0 hl (c_X13_isHandled l G H.size lo dd σ a1  h18) k_X13_isHandled tw_7_9 tw_0_37 tw_7_7 (by decide) (ge_13 rfl) rfl rfl rfl rfl rfl rfl dX13_puts_77) rfl rfl rfl (fun H locs M => ?_)
          refine lv_if_ne (tgt := 89) hx hb dX13_puts_80 (by decide) (fun c20 => ?_) (fun c20 => ?_)
          · have hf := it_n c20 hf
            refine lv_aload_n hx hb dX13_puts_89 rfl (lv_at hl 1 rfl) ?_
            refine lv_iload_n hx hb dX13_puts_90 rfl (lv_at hl 2 rfl) ?_
            obtain ⟨σ22, h21, hf⟩ := bd_x hf
            refine g_callR (st1 := []) (cells' := 0) (slots' := 0) M (g_invV (index := 117) S M C0 hl (c_X13_handles l G H.size lo dd σ a1  h21) k_X13_handles tw_7_21 tw_0_40 tw_7_19 (by decide) (ge_13 rfl) rfl rfl rfl rfl rfl rfl dX13_puts_91) rfl rfl rfl (fun H locs M => ?_)
            refine lv_aload_n hx hb dX13_puts_94 rfl (lv_at hl 1 rfl) ?_
            refine gf_X13_0 (i := 219) S M (by decide) rfl tw_6_107 dX13_puts_95 ?_
            refine lv_bipush (v := 76) hx hb dX13_puts_98 (by decide) ?_
            refine lv_iload_n hx hb dX13_puts_100 rfl (lv_at hl 2 rfl) ?_
            refine lv_iadd hx hb dX13_puts_101 ?_
            refine lv_iconst (v := 1) hx hb dX13_puts_102 (by decide) ?_
            obtain ⟨h23, hf⟩ := gi_x hf
            obtain ⟨σ24, eσ24, hf⟩ := nm_x hf
            refine gk_iast (i := 220) (k := (76 + a1).toNatClampNeg) S M (by decide) (fun _ => (gaa_134 rfl)) h23 rfl dX13_puts_103 (fun H locs M => ?_)
            rw [← eσ24] at M
            refine lv_aload_n hx hb dX13_puts_104 rfl (lv_at hl 1 rfl) ?_
            refine gf_X13_0 (i := 219) S M (by decide) rfl tw_6_107 dX13_puts_105 ?_
            refine lv_bipush (v := 88) hx hb dX13_puts_108 (by decide) ?_
            refine lv_iload_n hx hb dX13_puts_110 rfl (lv_at hl 2 rfl) ?_
            refine lv_iadd hx hb dX13_puts_111 ?_
            refine lv_iload_n hx hb dX13_puts_112 rfl (lv_at hl 3 rfl) ?_
            obtain ⟨h25, hf⟩ := gi_x hf
            obtain ⟨σ26, eσ26, hf⟩ := nm_x hf
            refine gk_iast (i := 220) (k := (88 + a1).toNatClampNeg) S M (by decide) (fun _ => (gaa_134 rfl)) h25 rfl dX13_puts_113 (fun H locs M => ?_)
            rw [← eσ26] at M
            refine lv_aload_n hx hb dX13_puts_114 rfl (lv_at hl 1 rfl) ?_
            refine lv_iload_n hx hb dX13_puts_115 rfl (lv_at hl 0 rfl) ?_
            obtain ⟨r28, σ29, h27, hf⟩ := bd2_x hf
            refine g_callR (st1 := [.int r28]) (cells' := 0) (slots' := 0) M (g_invV (index := 72) S M C0 hl (c_X13_done l G H.size lo dd σ26 x15  h27) k_X13_done tw_6_198 tw_0_29 tw_6_196 (by decide) (ge_13 rfl) rfl rfl rfl rfl rfl rfl dX13_puts_116) rfl rfl rfl (fun H locs M => ?_)
            cases hf
            exact g_iret S M hr hlk (by decide) (by decide) dX13_puts_119 rfl
          · have hf := it_p c20 hf
            refine lv_aload_n hx hb dX13_puts_83 rfl (lv_at hl 1 rfl) ?_
            refine lv_iconst (v := 4) hx hb dX13_puts_84 (by decide) ?_
            obtain ⟨r31, σ32, h30, hf⟩ := bd2_x hf
            refine g_callR (st1 := [.int r31]) (cells' := 0) (slots' := 0) M (g_invV (index := 64) S M C0 hl (c_X13_fails l G H.size lo dd σ 4  h30) k_X13_fails tw_6_186 tw_0_26 tw_6_184 (by decide) (ge_13 rfl) rfl rfl rfl rfl rfl rfl dX13_puts_85) rfl rfl rfl (fun H locs M => ?_)
            cases hf
            exact g_iret S M hr hlk (by decide) (by decide) dX13_puts_88 rfl
        · have hf := it_n c17 hf
          refine lv_aload_n hx hb dX13_puts_69 rfl (lv_at hl 1 rfl) ?_
          refine lv_iconst (v := 3) hx hb dX13_puts_70 (by decide) ?_
          obtain ⟨r34, σ35, h33, hf⟩ := bd2_x hf
          refine g_callR (st1 := [.int r34]) (cells' := 0) (slots' := 0) M (g_invV (index := 64) S M C0 hl (c_X13_fails l G H.size lo dd σ 3  h33) k_X13_fails tw_6_186 tw_0_26 tw_6_184 (by decide) (ge_13 rfl) rfl rfl rfl rfl rfl rfl dX13_puts_71) rfl rfl rfl (fun H locs M => ?_)
          cases hf
          exact g_iret S M hr hlk (by decide) (by decide) dX13_puts_74 rfl
      · have hf := it_n c11 hf
        refine lv_aload_n hx hb dX13_puts_33 rfl (lv_at hl 0 rfl) ?_
        refine lv_iconst (v := 2) hx hb dX13_puts_34 (by decide) ?_
        obtain ⟨r37, σ38, h36, hf⟩ := bd2_x hf
        refine g_callR (st1 := [.int r37]) (cells' := 0) (slots' := 0) M (g_invV (index := 64) S M C0 hl (c_X13_fails l G H.size lo dd σ 2  h36) k_X13_fails tw_6_186 tw_0_26 tw_6_184 (by decide) (ge_13 rfl) rfl rfl rfl rfl rfl rfl dX13_puts_35) rfl rfl rfl (fun H locs M => ?_)
        cases hf
        exact g_iret S M hr hlk (by decide) (by decide) dX13_puts_38 rfl
    · have hf := it_p c9 hf
      refine lv_aload_n hx hb dX13_puts_15 rfl (lv_at hl 0 rfl) ?_
      refine lv_iconst (v := 1) hx hb dX13_puts_16 (by decide) ?_
      obtain ⟨r40, σ41, h39, hf⟩ := bd2_x hf
      refine g_callR (st1 := [.int r40]) (cells' := 0) (slots' := 0) M (g_invV (index := 64) S M C0 hl (c_X13_fails l G H.size lo dd σ 1  h39) k_X13_fails tw_6_186 tw_0_26 tw_6_184 (by decide) (ge_13 rfl) rfl rfl rfl rfl rfl rfl dX13_puts_17) rfl rfl rfl (fun H locs M => ?_)
      cases hf
      exact g_iret S M hr hlk (by decide) (by decide) dX13_puts_20 rfl
theorem k_X13_put : gMV yX13_put cX13_put 3 (some .int) 2 := ⟨tw_6_238, tw_1_12, by decide⟩
set_option maxHeartbeats 400000 in
set_option maxRecDepth 100000 in
theorem c_X13_put (l : Launch) (G : gT) (sz : Nat) (lo : Int64) (dd : UInt64) (σ : gM) (a1 : Int32) (a2 : Int32) {r : Int32} {o : gM} (hf : f_X13_put σ a1 a2 = some (r, o)) : gCT l yX13_put cX13_put 3 (some .int) { frames := 4, cells := 0, slots := 0, locals := 92 } 0 0 G sz [.ref (G.1 219), .int a1, .int a2] lo dd σ (.inl (mkI r, o, lo, dd)) := by
  refine gCT_of (by decide) (Nat.le_of_ble_eq_true rfl) (fun p e s m args below meth c ls S hr hlk hnx hsz C0 hl H locs M => ?_)
  subst hsz
  have hx := S.1
  have hb := S.2.1
  unfold f_X13_put at hf
  refine lv_aload_n hx hb dX13_put_0 rfl (lv_at hl 0 rfl) ?_
  obtain ⟨σ2, h1, hf⟩ := bd_x hf
  refine g_callR (st1 := []) (cells' := 0) (slots' := 0) M (g_invV (index := 75) S M C0 hl (c_X13_begin l G H.size lo dd σ   h1) k_X13_begin tw_6_169 tw_0_24 tw_6_167 (by decide) (ge_13 rfl) rfl rfl rfl rfl rfl rfl dX13_put_1) rfl rfl rfl (fun H locs M => ?_)
  refine lv_aload_n hx hb dX13_put_4 rfl (lv_at hl 0 rfl) ?_
  refine lv_aload_n hx hb dX13_put_5 rfl (lv_at hl 0 rfl) ?_
  refine lv_iload_n hx hb dX13_put_6 rfl (lv_at hl 1 rfl) ?_
  refine lv_iload_n hx hb dX13_put_7 rfl (lv_at hl 2 rfl) ?_
  obtain ⟨r4, σ5, h3, hf⟩ := bd2_x hf
  refine g_callR (st1 := [.int r4, .ref (G.1 219)]) (cells' := 0) (slots' := 0) M (g_invV (index := 120) S M C0 hl (c_X13_puts l G H.size lo dd σ2 a1 a2  h3) k_X13_puts tw_7_1 tw_0_35 tw_6_239 (by decide) (ge_13 rfl) rfl rfl rfl rfl rfl rfl dX13_put_8) rfl rfl rfl (fun H locs M => ?_)
  obtain ⟨r7, σ8, h6, hf⟩ := bd2_x hf
  refine g_callR (st1 := [.int r7]) (cells' := 0) (slots' := 0) M (g_invV (index := 82) S M C0 hl (c_X13_kept l G H.size lo dd σ5 r4  h6) k_X13_kept tw_6_202 tw_0_30 tw_6_200 (by decide) (ge_13 rfl) rfl rfl rfl rfl rfl rfl dX13_put_11) rfl rfl rfl (fun H locs M => ?_)
  cases hf
  exact g_iret S M hr hlk (by decide) (by decide) dX13_put_14 rfl
theorem k_X13_takes : gMV yX13_takes cX13_takes 2 (some .int) 1 := ⟨tw_7_30, tw_1_12, by decide⟩
set_option maxHeartbeats 400000 in
set_option maxRecDepth 100000 in
theorem c_X13_takes (l : Launch) (G : gT) (sz : Nat) (lo : Int64) (dd : UInt64) (σ : gM) (a1 : Int32) {r : Int32} {o : gM} (hf : f_X13_takes σ a1 = some (r, o)) : gCT l yX13_takes cX13_takes 2 (some .int) { frames := 3, cells := 0, slots := 0, locals := 69 } 0 0 G sz [.ref (G.1 219), .int a1] lo dd σ (.inl (mkI r, o, lo, dd)) := by
  refine gCT_of (by decide) (Nat.le_of_ble_eq_true rfl) (fun p e s m args below meth c ls S hr hlk hnx hsz C0 hl H locs M => ?_)
  subst hsz
  have hx := S.1
  have hb := S.2.1
  unfold f_X13_takes at hf
  refine lv_aload_n hx hb dX13_takes_0 rfl (lv_at hl 0 rfl) ?_
  refine lv_iload_n hx hb dX13_takes_1 rfl (lv_at hl 1 rfl) ?_
  obtain ⟨r2, h1, hf⟩ := bd_x hf
  refine g_callR (st1 := [.int r2]) (cells' := 0) (slots' := 0) M (g_invV (index := 111) S M C0 hl (c_X13_isParcel l G H.size lo dd σ a1  h1) k_X13_isParcel tw_7_5 tw_0_36 tw_7_3 (by decide) (ge_13 rfl) rfl rfl rfl rfl rfl rfl dX13_takes_2) rfl rfl rfl (fun H locs M => ?_)
  refine lv_if_ne (tgt := 14) hx hb dX13_takes_5 (by decide) (fun c3 => ?_) (fun c3 => ?_)
  · have hf := it_n c3 hf
    refine lv_aload_n hx hb dX13_takes_14 rfl (lv_at hl 0 rfl) ?_
    refine gf_X13_0 (i := 219) S M (by decide) rfl tw_6_107 dX13_takes_15 ?_
    refine lv_bipush (v := 76) hx hb dX13_takes_18 (by decide) ?_
    refine lv_iload_n hx hb dX13_takes_20 rfl (lv_at hl 1 rfl) ?_
    refine lv_iadd hx hb dX13_takes_21 ?_
    obtain ⟨h4, hf⟩ := gi_x hf
    refine gk_iald (i := 220) (k := (76 + a1).toNatClampNeg) S M (by decide) (gaa_134 rfl) h4 rfl dX13_takes_22 ?_
    refine lv_iconst (v := 1) hx hb dX13_takes_23 (by decide) ?_
    refine lv_icmp_eq (tgt := 33) hx hb dX13_takes_24 (by decide) (fun c5 => ?_) (fun c5 => ?_)
    · have hf := it_p c5 hf
      refine lv_aload_n hx hb dX13_takes_33 rfl (lv_at hl 0 rfl) ?_
      refine lv_iload_n hx hb dX13_takes_34 rfl (lv_at hl 1 rfl) ?_
      obtain ⟨r7, h6, hf⟩ := bd_x hf
      refine g_callR (st1 := [.int r7]) (cells' := 0) (slots' := 0) M (g_invV (index := 114) S M C0 hl (c_X13_isHandled l G H.size lo dd σ a1  h6) k_X13_isHandled tw_7_9 tw_0_37 tw_7_7 (by decide) (ge_13 rfl) rfl rfl rfl rfl rfl rfl dX13_takes_35) rfl rfl rfl (fun H locs M => ?_)
      refine lv_if_ne (tgt := 47) hx hb dX13_takes_38 (by decide) (fun c8 => ?_) (fun c8 => ?_)
      · have hf := it_n c8 hf
        refine lv_aload_n hx hb dX13_takes_47 rfl (lv_at hl 0 rfl) ?_
        refine lv_iload_n hx hb dX13_takes_48 rfl (lv_at hl 1 rfl) ?_
        obtain ⟨σ10, h9, hf⟩ := bd_x hf
        refine g_callR (st1 := []) (cells' := 0) (slots' := 0) M (g_invV (index := 117) S M C0 hl (c_X13_handles l G H.size lo dd σ a1  h9) k_X13_handles tw_7_21 tw_0_40 tw_7_19 (by decide) (ge_13 rfl) rfl rfl rfl rfl rfl rfl dX13_takes_49) rfl rfl rfl (fun H locs M => ?_)
        refine lv_aload_n hx hb dX13_takes_52 rfl (lv_at hl 0 rfl) ?_
        refine gf_X13_0 (i := 219) S M (by decide) rfl tw_6_107 dX13_takes_53 ?_
        refine lv_bipush (v := 76) hx hb dX13_takes_56 (by decide) ?_
        refine lv_iload_n hx hb dX13_takes_58 rfl (lv_at hl 1 rfl) ?_
        refine lv_iadd hx hb dX13_takes_59 ?_
        refine lv_iconst (v := 0) hx hb dX13_takes_60 (by decide) ?_
        obtain ⟨h11, hf⟩ := gi_x hf
        obtain ⟨σ12, eσ12, hf⟩ := nm_x hf
        refine gk_iast (i := 220) (k := (76 + a1).toNatClampNeg) S M (by decide) (fun _ => (gaa_134 rfl)) h11 rfl dX13_takes_61 (fun H locs M => ?_)
        rw [← eσ12] at M
        refine lv_aload_n hx hb dX13_takes_62 rfl (lv_at hl 0 rfl) ?_
        refine lv_aload_n hx hb dX13_takes_63 rfl (lv_at hl 0 rfl) ?_
        refine gf_X13_0 (i := 219) S M (by decide) rfl tw_6_107 dX13_takes_64 ?_
        refine lv_bipush (v := 88) hx hb dX13_takes_67 (by decide) ?_
        refine lv_iload_n hx hb dX13_takes_69 rfl (lv_at hl 1 rfl) ?_
        refine lv_iadd hx hb dX13_takes_70 ?_
        obtain ⟨h13, hf⟩ := gi_x hf
        refine gk_iald (i := 220) (k := (88 + a1).toNatClampNeg) S M (by decide) (gaa_134 rfl) h13 rfl dX13_takes_71 ?_
        obtain ⟨r15, σ16, h14, hf⟩ := bd2_x hf
        refine g_callR (st1 := [.int r15]) (cells' := 0) (slots' := 0) M (g_invV (index := 72) S M C0 hl (c_X13_done l G H.size lo dd σ12 (σ12 220 (88 + a1).toNatClampNeg)  h14) k_X13_done tw_6_198 tw_0_29 tw_6_196 (by decide) (ge_13 rfl) rfl rfl rfl rfl rfl rfl dX13_takes_72) rfl rfl rfl (fun H locs M => ?_)
        cases hf
        exact g_iret S M hr hlk (by decide) (by decide) dX13_takes_75 rfl
      · have hf := it_p c8 hf
        refine lv_aload_n hx hb dX13_takes_41 rfl (lv_at hl 0 rfl) ?_
        refine lv_iconst (v := 3) hx hb dX13_takes_42 (by decide) ?_
        obtain ⟨r18, σ19, h17, hf⟩ := bd2_x hf
        refine g_callR (st1 := [.int r18]) (cells' := 0) (slots' := 0) M (g_invV (index := 64) S M C0 hl (c_X13_fails l G H.size lo dd σ 3  h17) k_X13_fails tw_6_186 tw_0_26 tw_6_184 (by decide) (ge_13 rfl) rfl rfl rfl rfl rfl rfl dX13_takes_43) rfl rfl rfl (fun H locs M => ?_)
        cases hf
        exact g_iret S M hr hlk (by decide) (by decide) dX13_takes_46 rfl
    · have hf := it_n c5 hf
      refine lv_aload_n hx hb dX13_takes_27 rfl (lv_at hl 0 rfl) ?_
      refine lv_iconst (v := 2) hx hb dX13_takes_28 (by decide) ?_
      obtain ⟨r21, σ22, h20, hf⟩ := bd2_x hf
      refine g_callR (st1 := [.int r21]) (cells' := 0) (slots' := 0) M (g_invV (index := 64) S M C0 hl (c_X13_fails l G H.size lo dd σ 2  h20) k_X13_fails tw_6_186 tw_0_26 tw_6_184 (by decide) (ge_13 rfl) rfl rfl rfl rfl rfl rfl dX13_takes_29) rfl rfl rfl (fun H locs M => ?_)
      cases hf
      exact g_iret S M hr hlk (by decide) (by decide) dX13_takes_32 rfl
  · have hf := it_p c3 hf
    refine lv_aload_n hx hb dX13_takes_8 rfl (lv_at hl 0 rfl) ?_
    refine lv_iconst (v := 1) hx hb dX13_takes_9 (by decide) ?_
    obtain ⟨r24, σ25, h23, hf⟩ := bd2_x hf
    refine g_callR (st1 := [.int r24]) (cells' := 0) (slots' := 0) M (g_invV (index := 64) S M C0 hl (c_X13_fails l G H.size lo dd σ 1  h23) k_X13_fails tw_6_186 tw_0_26 tw_6_184 (by decide) (ge_13 rfl) rfl rfl rfl rfl rfl rfl dX13_takes_10) rfl rfl rfl (fun H locs M => ?_)
    cases hf
    exact g_iret S M hr hlk (by decide) (by decide) dX13_takes_13 rfl
theorem k_X13_takeOut : gMV yX13_takeOut cX13_takeOut 2 (some .int) 1 := ⟨tw_7_26, tw_1_12, by decide⟩
set_option maxHeartbeats 400000 in
set_option maxRecDepth 100000 in
theorem c_X13_takeOut (l : Launch) (G : gT) (sz : Nat) (lo : Int64) (dd : UInt64) (σ : gM) (a1 : Int32) {r : Int32} {o : gM} (hf : f_X13_takeOut σ a1 = some (r, o)) : gCT l yX13_takeOut cX13_takeOut 2 (some .int) { frames := 4, cells := 0, slots := 0, locals := 90 } 0 0 G sz [.ref (G.1 219), .int a1] lo dd σ (.inl (mkI r, o, lo, dd)) := by
  refine gCT_of (by decide) (Nat.le_of_ble_eq_true rfl) (fun p e s m args below meth c ls S hr hlk hnx hsz C0 hl H locs M => ?_)
  subst hsz
  have hx := S.1
  have hb := S.2.1
  unfold f_X13_takeOut at hf
  refine lv_aload_n hx hb dX13_takeOut_0 rfl (lv_at hl 0 rfl) ?_
  obtain ⟨σ2, h1, hf⟩ := bd_x hf
  refine g_callR (st1 := []) (cells' := 0) (slots' := 0) M (g_invV (index := 75) S M C0 hl (c_X13_begin l G H.size lo dd σ   h1) k_X13_begin tw_6_169 tw_0_24 tw_6_167 (by decide) (ge_13 rfl) rfl rfl rfl rfl rfl rfl dX13_takeOut_1) rfl rfl rfl (fun H locs M => ?_)
  refine lv_aload_n hx hb dX13_takeOut_4 rfl (lv_at hl 0 rfl) ?_
  refine lv_aload_n hx hb dX13_takeOut_5 rfl (lv_at hl 0 rfl) ?_
  refine lv_iload_n hx hb dX13_takeOut_6 rfl (lv_at hl 1 rfl) ?_
  obtain ⟨r4, σ5, h3, hf⟩ := bd2_x hf
  refine g_callR (st1 := [.int r4, .ref (G.1 219)]) (cells' := 0) (slots' := 0) M (g_invV (index := 123) S M C0 hl (c_X13_takes l G H.size lo dd σ2 a1  h3) k_X13_takes tw_7_29 tw_0_41 tw_7_27 (by decide) (ge_13 rfl) rfl rfl rfl rfl rfl rfl dX13_takeOut_7) rfl rfl rfl (fun H locs M => ?_)
  obtain ⟨r7, σ8, h6, hf⟩ := bd2_x hf
  refine g_callR (st1 := [.int r7]) (cells' := 0) (slots' := 0) M (g_invV (index := 82) S M C0 hl (c_X13_kept l G H.size lo dd σ5 r4  h6) k_X13_kept tw_6_202 tw_0_30 tw_6_200 (by decide) (ge_13 rfl) rfl rfl rfl rfl rfl rfl dX13_takeOut_10) rfl rfl rfl (fun H locs M => ?_)
  cases hf
  exact g_iret S M hr hlk (by decide) (by decide) dX13_takeOut_13 rfl
theorem k_X13_carries : gMV yX13_carries cX13_carries 6 (some .int) 2 := ⟨tw_7_38, tw_1_12, by decide⟩
set_option maxHeartbeats 400000 in
set_option maxRecDepth 100000 in
theorem w_X13_carries_L103 {p : Program} {l : Launch} {e : Env} {s : State} {m : MethodId} {args : Array Value} {below : List Frame} {meth : Method} {c : Code} {Q : State → Prop} {G : gT} {lo : Int64} {dd : UInt64} (S : CallFix p m c cX13_carries 6 s args gTs RX13) (C0 : gCST G (gAA G s.heap.size) s) (p1 : Int32) (p2 : Int32) : ∀ (n : Nat) (v4 : Int32) (v5 : Int32) (σ : gM) (res : Int32 × gM), f_X13_carries_L103 p1 p2 n v4 v5 σ = some res → ∀ (H : Heap) (locs : List Loc) (ls : Array Slot), gMS G (gAA G s.heap.size) lo dd σ s H locs → lv_has ls 6 [(0, .ref (G.1 219)), (1, .int p1), (2, .int p2), (4, .int v4), (5, .int v5)] → (k177 : ∀ (u4 : Int32) (τ : gM), res = (u4, τ) → ∀ (H : Heap) (locs : List Loc) (ls : Array Slot), gMS G (gAA G s.heap.size) lo dd τ s H locs → lv_has ls 6 [(0, .ref (G.1 219)), (4, .int u4)] → W p l e ({ frames := 3, cells := 0, slots := 0, locals := 70 } : Room) s m args below meth c H locs 0 0 Q (F0 m 177 ls [])) → W p l e ({ frames := 3, cells := 0, slots := 0, locals := 70 } : Room) s m args below meth c H locs 0 0 Q (F0 m 103 ls []) := by
  have hx := S.1
  have hb := S.2.1
  intro n
  induction n with
  | zero =>
    intro v4 v5 σ res hf
    cases hf
  | succ n ih =>
    intro v4 v5 σ res hf H locs ls M hl k177
    rw [f_X13_carries_L103] at hf
    refine lv_iload hx hb dX13_carries_103 (lv_at hl 4 rfl) ?_
    refine lv_aload_n hx hb dX13_carries_105 rfl (lv_at hl 0 rfl) ?_
    refine gf_X13_0 (i := 219) S M (by decide) rfl tw_6_107 dX13_carries_106 ?_
    refine lv_bipush (v := 36) hx hb dX13_carries_109 (by decide) ?_
    refine gk_iald (i := 220) (k := 36) S M (by decide) (gaa_134 rfl) (by unfold vp_in; decide) (by decide) dX13_carries_111 ?_
    refine lv_icmp_ge (tgt := 177) hx hb dX13_carries_112 (by decide) (fun c22 => ?_) (fun c22 => ?_)
    · have hf := it_p c22 hf
      cases hf
      exact k177 _ _ rfl _ _ _ M (lv_sub hl [0, 3] rfl)
    · have hf := it_n c22 hf
      refine lv_aload_n hx hb dX13_carries_115 rfl (lv_at hl 0 rfl) ?_
      refine gf_X13_0 (i := 219) S M (by decide) rfl tw_6_107 dX13_carries_116 ?_
      refine lv_bipush (v := 76) hx hb dX13_carries_119 (by decide) ?_
      refine lv_iload hx hb dX13_carries_121 (lv_at hl 4 rfl) ?_
      refine lv_iadd hx hb dX13_carries_123 ?_
      obtain ⟨h23, hf⟩ := gi_x hf
      refine gk_iald (i := 220) (k := (76 + v5).toNatClampNeg) S M (by decide) (gaa_134 rfl) h23 rfl dX13_carries_124 ?_
      refine lv_iconst (v := 1) hx hb dX13_carries_125 (by decide) ?_
      refine lv_icmp_ne (tgt := 171) hx hb dX13_carries_126 (by decide) (fun c24 => ?_) (fun c24 => ?_)
      · have hf := it_n c24 hf
        obtain ⟨x25, ex25, hf⟩ := nm_x hf
        refine lv_iinc (v := x25) (lv' := [(5, .int x25), (0, .ref (G.1 219)), (1, .int p1), (2, .int p2), (4, .int v4)]) hx hb dX13_carries_171 hl (k := 4) rfl (by rw [ex25]; rfl) (by decide) rfl (fun ls hl => ?_)
        refine lv_goto (tgt := 103) hx hb dX13_carries_174 (by decide) ?_
        exact ih _ _ _ _ hf _ _ _ M (lv_sub hl [1, 2, 3, 4, 0] rfl) k177
      · have hf := it_p c24 hf
        refine lv_aload_n hx hb dX13_carries_129 rfl (lv_at hl 0 rfl) ?_
        refine gf_X13_0 (i := 219) S M (by decide) rfl tw_6_107 dX13_carries_130 ?_
        refine lv_bipush (v := 88) hx hb dX13_carries_133 (by decide) ?_
        refine lv_iload hx hb dX13_carries_135 (lv_at hl 4 rfl) ?_
        refine lv_iadd hx hb dX13_carries_137 ?_
        obtain ⟨h26, hf⟩ := gi_x hf
        refine gk_iald (i := 220) (k := (88 + v5).toNatClampNeg) S M (by decide) (gaa_134 rfl) h26 rfl dX13_carries_138 ?_
        refine lv_iload_n hx hb dX13_carries_139 rfl (lv_at hl 1 rfl) ?_
        refine lv_icmp_ne (tgt := 171) hx hb dX13_carries_140 (by decide) (fun c27 => ?_) (fun c27 => ?_)
        · have hf := it_n c27 hf
          obtain ⟨x28, ex28, hf⟩ := nm_x hf
          refine lv_iinc (v := x28) (lv' := [(5, .int x28), (0, .ref (G.1 219)), (1, .int p1), (2, .int p2), (4, .int v4)]) hx hb dX13_carries_171 hl (k := 4) rfl (by rw [ex28]; rfl) (by decide) rfl (fun ls hl => ?_)
          refine lv_goto (tgt := 103) hx hb dX13_carries_174 (by decide) ?_
          exact ih _ _ _ _ hf _ _ _ M (lv_sub hl [1, 2, 3, 4, 0] rfl) k177
        · have hf := it_p c27 hf
          refine lv_aload_n hx hb dX13_carries_143 rfl (lv_at hl 0 rfl) ?_
          refine gf_X13_0 (i := 219) S M (by decide) rfl tw_6_107 dX13_carries_144 ?_
          refine lv_bipush (v := 64) hx hb dX13_carries_147 (by decide) ?_
          refine lv_iload hx hb dX13_carries_149 (lv_at hl 4 rfl) ?_
          refine lv_iadd hx hb dX13_carries_151 ?_
          obtain ⟨h29, hf⟩ := gi_x hf
          refine gk_iald (i := 220) (k := (64 + v5).toNatClampNeg) S M (by decide) (gaa_134 rfl) h29 rfl dX13_carries_152 ?_
          refine lv_iload_n hx hb dX13_carries_153 rfl (lv_at hl 2 rfl) ?_
          refine lv_icmp_ne (tgt := 171) hx hb dX13_carries_154 (by decide) (fun c30 => ?_) (fun c30 => ?_)
          · have hf := it_n c30 hf
            obtain ⟨x31, ex31, hf⟩ := nm_x hf
            refine lv_iinc (v := x31) (lv' := [(5, .int x31), (0, .ref (G.1 219)), (1, .int p1), (2, .int p2), (4, .int v4)]) hx hb dX13_carries_171 hl (k := 4) rfl (by rw [ex31]; rfl) (by decide) rfl (fun ls hl => ?_)
            refine lv_goto (tgt := 103) hx hb dX13_carries_174 (by decide) ?_
            exact ih _ _ _ _ hf _ _ _ M (lv_sub hl [1, 2, 3, 4, 0] rfl) k177
          · have hf := it_p c30 hf
            refine lv_aload_n hx hb dX13_carries_157 rfl (lv_at hl 0 rfl) ?_
            refine gf_X13_0 (i := 219) S M (by decide) rfl tw_6_107 dX13_carries_158 ?_
            refine lv_bipush (v := 76) hx hb dX13_carries_161 (by decide) ?_
            refine lv_iload hx hb dX13_carries_163 (lv_at hl 4 rfl) ?_
            refine lv_iadd hx hb dX13_carries_165 ?_
            refine lv_iconst (v := 2) hx hb dX13_carries_166 (by decide) ?_
            obtain ⟨h32, hf⟩ := gi_x hf
            obtain ⟨σ33, eσ33, hf⟩ := nm_x hf
            refine gk_iast (i := 220) (k := (76 + v5).toNatClampNeg) S M (by decide) (fun _ => (gaa_134 rfl)) h32 rfl dX13_carries_167 (fun H locs M => ?_)
            rw [← eσ33] at M
            obtain ⟨x34, ex34, hf⟩ := nm_x hf
            refine lv_iinc (v := x34) (lv' := [(4, .int x34), (0, .ref (G.1 219)), (1, .int p1), (2, .int p2), (5, .int v5)]) hx hb dX13_carries_168 hl (k := 3) rfl (by rw [ex34]; rfl) (by decide) rfl (fun ls hl => ?_)
            obtain ⟨x35, ex35, hf⟩ := nm_x hf
            refine lv_iinc (v := x35) (lv' := [(5, .int x35), (4, .int x34), (0, .ref (G.1 219)), (1, .int p1), (2, .int p2)]) hx hb dX13_carries_171 hl (k := 4) rfl (by rw [ex35]; rfl) (by decide) rfl (fun ls hl => ?_)
            refine lv_goto (tgt := 103) hx hb dX13_carries_174 (by decide) ?_
            exact ih _ _ _ _ hf _ _ _ M (lv_sub hl [2, 3, 4, 1, 0] rfl) k177
set_option maxHeartbeats 400000 in
set_option maxRecDepth 100000 in
theorem c_X13_carries (l : Launch) (G : gT) (sz : Nat) (lo : Int64) (dd : UInt64) (σ : gM) (a1 : Int32) (a2 : Int32) {r : Int32} {o : gM} (hf : f_X13_carries σ a1 a2 = some (r, o)) : gCT l yX13_carries cX13_carries 6 (some .int) { frames := 3, cells := 0, slots := 0, locals := 70 } 0 0 G sz [.ref (G.1 219), .int a1, .int a2] lo dd σ (.inl (mkI r, o, lo, dd)) := by
  refine gCT_of (by decide) (Nat.le_of_ble_eq_true rfl) (fun p e s m args below meth c ls S hr hlk hnx hsz C0 hl H locs M => ?_)
  subst hsz
  have hx := S.1
  have hb := S.2.1
  unfold f_X13_carries at hf
  refine lv_iload_n hx hb dX13_carries_0 rfl (lv_at hl 1 rfl) ?_
  obtain ⟨r2, h1, hf⟩ := bd_x hf
  refine g_callR (st1 := [.int r2]) (cells' := 0) (slots' := 0) M (g_invS (index := 95) S M C0 hl (c_X13_isSack l G H.size lo dd σ a1  h1) k_X13_isSack tw_6_229 tw_6_228 rfl rfl rfl rfl dX13_carries_1) rfl rfl rfl (fun H locs M => ?_)
  refine lv_if_eq (tgt := 14) hx hb dX13_carries_4 (by decide) (fun c3 => ?_) (fun c3 => ?_)
  · have hf := it_p c3 hf
    refine lv_aload_n hx hb dX13_carries_14 rfl (lv_at hl 0 rfl) ?_
    refine lv_iconst (v := 1) hx hb dX13_carries_15 (by decide) ?_
    obtain ⟨r5, σ6, h4, hf⟩ := bd2_x hf
    refine g_callR (st1 := [.int r5]) (cells' := 0) (slots' := 0) M (g_invV (index := 64) S M C0 hl (c_X13_fails l G H.size lo dd σ 1  h4) k_X13_fails tw_6_186 tw_0_26 tw_6_184 (by decide) (ge_13 rfl) rfl rfl rfl rfl rfl rfl dX13_carries_16) rfl rfl rfl (fun H locs M => ?_)
    cases hf
    exact g_iret S M hr hlk (by decide) (by decide) dX13_carries_19 rfl
  · have hf := it_n c3 hf
    refine lv_iload_n hx hb dX13_carries_7 rfl (lv_at hl 2 rfl) ?_
    obtain ⟨r8, h7, hf⟩ := bd_x hf
    refine g_callR (st1 := [.int r8]) (cells' := 0) (slots' := 0) M (g_invS (index := 60) S M C0 hl (c_X13_isPlace l G H.size lo dd σ a2  h7) k_X13_isPlace tw_6_179 tw_6_178 rfl rfl rfl rfl dX13_carries_8) rfl rfl rfl (fun H locs M => ?_)
    refine lv_if_ne (tgt := 20) hx hb dX13_carries_11 (by decide) (fun c9 => ?_) (fun c9 => ?_)
    · have hf := it_n c9 hf
      refine lv_aload_n hx hb dX13_carries_20 rfl (lv_at hl 0 rfl) ?_
      refine gf_X13_0 (i := 219) S M (by decide) rfl tw_6_107 dX13_carries_21 ?_
      refine lv_sipush (v := 128) hx hb dX13_carries_24 (by decide) ?_
      refine lv_iload_n hx hb dX13_carries_27 rfl (lv_at hl 1 rfl) ?_
      refine lv_iadd hx hb dX13_carries_28 ?_
      obtain ⟨h10, hf⟩ := gi_x hf
      refine gk_iald (i := 220) (k := (128 + a1).toNatClampNeg) S M (by decide) (gaa_134 rfl) h10 rfl dX13_carries_29 ?_
      refine lv_iload_n hx hb dX13_carries_30 rfl (lv_at hl 2 rfl) ?_
      refine lv_icmp_ne (tgt := 40) hx hb dX13_carries_31 (by decide) (fun c11 => ?_) (fun c11 => ?_)
      · have hf := it_n c11 hf
        refine lv_aload_n hx hb dX13_carries_40 rfl (lv_at hl 0 rfl) ?_
        refine lv_aload_n hx hb dX13_carries_41 rfl (lv_at hl 0 rfl) ?_
        refine gf_X13_0 (i := 219) S M (by decide) rfl tw_6_107 dX13_carries_42 ?_
        refine lv_sipush (v := 128) hx hb dX13_carries_45 (by decide) ?_
        refine lv_iload_n hx hb dX13_carries_48 rfl (lv_at hl 1 rfl) ?_
        refine lv_iadd hx hb dX13_carries_49 ?_
        obtain ⟨h12, hf⟩ := gi_x hf
        refine gk_iald (i := 220) (k := (128 + a1).toNatClampNeg) S M (by decide) (gaa_134 rfl) h12 rfl dX13_carries_50 ?_
        refine lv_iload_n hx hb dX13_carries_51 rfl (lv_at hl 2 rfl) ?_
        obtain ⟨r14, σ15, h13, hf⟩ := bd2_x hf
        refine g_callR (st1 := [.int r14]) (cells' := 0) (slots' := 0) M (g_invV (index := 126) S M C0 hl (c_X13_distanceOf l G H.size lo dd σ (σ 220 (128 + a1).toNatClampNeg) a2  h13) k_X13_distanceOf tw_7_41 tw_0_43 tw_7_39 (by decide) (ge_13 rfl) rfl rfl rfl rfl rfl rfl dX13_carries_52) rfl rfl rfl (fun H locs M => ?_)
        refine lv_istore_n (lv' := [(3, .int r14), (0, .ref (G.1 219)), (1, .int a1), (2, .int a2)]) hx hb dX13_carries_55 rfl hl (by decide) rfl (fun ls hl => ?_)
        refine lv_iload_n hx hb dX13_carries_56 rfl (lv_at hl 0 rfl) ?_
        refine lv_sipush (v := 1000) hx hb dX13_carries_57 (by decide) ?_
        refine lv_icmp_ne (tgt := 69) hx hb dX13_carries_60 (by decide) (fun c16 => ?_) (fun c16 => ?_)
        · have hf := it_n c16 hf
          refine lv_aload_n hx hb dX13_carries_69 rfl (lv_at hl 1 rfl) ?_
          refine gf_X13_0 (i := 219) S M (by decide) rfl tw_6_107 dX13_carries_70 ?_
          refine lv_bipush (v := 38) hx hb dX13_carries_73 (by decide) ?_
          refine lv_dup2_11 hx hb dX13_carries_75 rfl rfl ?_
          refine gk_iald (i := 220) (k := 38) S M (by decide) (gaa_134 rfl) (by unfold vp_in; decide) (by decide) dX13_carries_76 ?_
          refine lv_iload_n hx hb dX13_carries_77 rfl (lv_at hl 0 rfl) ?_
          refine lv_aload_n hx hb dX13_carries_78 rfl (lv_at hl 1 rfl) ?_
          refine lv_iload_n hx hb dX13_carries_79 rfl (lv_at hl 2 rfl) ?_
          obtain ⟨r18, h17, hf⟩ := bd_x hf
          refine g_callR (st1 := [.int r18, .int r14, .int (σ15 220 38), .int 38, .ref (G.1 220)]) (cells' := 0) (slots' := 0) M (g_invV (index := 98) S M C0 hl (c_X13_loadOf l G H.size lo dd σ15 a1  h17) k_X13_loadOf tw_6_233 tw_0_34 tw_6_231 (by decide) (ge_13 rfl) rfl rfl rfl rfl rfl rfl dX13_carries_80) rfl rfl rfl (fun H locs M => ?_)
          refine lv_imul hx hb dX13_carries_83 ?_
          refine lv_iadd hx hb dX13_carries_84 ?_
          obtain ⟨σ19, eσ19, hf⟩ := nm_x hf
          refine gk_iast (i := 220) (k := 38) S M (by decide) (fun _ => (gaa_134 rfl)) (by unfold vp_in; decide) (by decide) dX13_carries_85 (fun H locs M => ?_)
          rw [← eσ19] at M
          refine lv_aload_n hx hb dX13_carries_86 rfl (lv_at hl 1 rfl) ?_
          refine gf_X13_0 (i := 219) S M (by decide) rfl tw_6_107 dX13_carries_87 ?_
          refine lv_sipush (v := 128) hx hb dX13_carries_90 (by decide) ?_
          refine lv_iload_n hx hb dX13_carries_93 rfl (lv_at hl 2 rfl) ?_
          refine lv_iadd hx hb dX13_carries_94 ?_
          refine lv_iload_n hx hb dX13_carries_95 rfl (lv_at hl 3 rfl) ?_
          obtain ⟨h20, hf⟩ := gi_x hf
          obtain ⟨σ21, eσ21, hf⟩ := nm_x hf
          refine gk_iast (i := 220) (k := (128 + a1).toNatClampNeg) S M (by decide) (fun _ => (gaa_134 rfl)) h20 rfl dX13_carries_96 (fun H locs M => ?_)
          rw [← eσ21] at M
          refine lv_iconst (v := 0) hx hb dX13_carries_97 (by decide) ?_
          refine lv_istore (lv' := [(4, .int 0), (3, .int r14), (0, .ref (G.1 219)), (1, .int a1), (2, .int a2)]) hx hb dX13_carries_98 hl (by decide) rfl (fun ls hl => ?_)
          refine lv_iconst (v := 0) hx hb dX13_carries_100 (by decide) ?_
          refine lv_istore (lv' := [(5, .int 0), (4, .int 0), (3, .int r14), (0, .ref (G.1 219)), (1, .int a1), (2, .int a2)]) hx hb dX13_carries_101 hl (by decide) rfl (fun ls hl => ?_)
          obtain ⟨y37, σ38, h36, hf⟩ := bd2_x hf
          refine w_X13_carries_L103 S C0 a1 a2 gFU 0 0 σ21 _ h36 _ _ _ M (lv_sub hl [3, 4, 5, 1, 0] rfl) (fun _ _ eq H locs ls M hl => ?_)
          cases eq
          refine lv_aload_n hx hb dX13_carries_177 rfl (lv_at hl 0 rfl) ?_
          refine lv_iload hx hb dX13_carries_178 (lv_at hl 1 rfl) ?_
          obtain ⟨r40, σ41, h39, hf⟩ := bd2_x hf
          refine g_callR (st1 := [.int r40]) (cells' := 0) (slots' := 0) M (g_invV (index := 72) S M C0 hl (c_X13_done l G H.size lo dd σ38 y37  h39) k_X13_done tw_6_198 tw_0_29 tw_6_196 (by decide) (ge_13 rfl) rfl rfl rfl rfl rfl rfl dX13_carries_180) rfl rfl rfl (fun H locs M => ?_)
          cases hf
          exact g_iret S M hr hlk (by decide) (by decide) dX13_carries_183 rfl
        · have hf := it_p c16 hf
          refine lv_aload_n hx hb dX13_carries_63 rfl (lv_at hl 1 rfl) ?_
          refine lv_iconst (v := 3) hx hb dX13_carries_64 (by decide) ?_
          obtain ⟨r43, σ44, h42, hf⟩ := bd2_x hf
          refine g_callR (st1 := [.int r43]) (cells' := 0) (slots' := 0) M (g_invV (index := 64) S M C0 hl (c_X13_fails l G H.size lo dd σ15 3  h42) k_X13_fails tw_6_186 tw_0_26 tw_6_184 (by decide) (ge_13 rfl) rfl rfl rfl rfl rfl rfl dX13_carries_65) rfl rfl rfl (fun H locs M => ?_)
          cases hf
          exact g_iret S M hr hlk (by decide) (by decide) dX13_carries_68 rfl
      · have hf := it_p c11 hf
        refine lv_aload_n hx hb dX13_carries_34 rfl (lv_at hl 0 rfl) ?_
        refine lv_iconst (v := 2) hx hb dX13_carries_35 (by decide) ?_
        obtain ⟨r46, σ47, h45, hf⟩ := bd2_x hf
        refine g_callR (st1 := [.int r46]) (cells' := 0) (slots' := 0) M (g_invV (index := 64) S M C0 hl (c_X13_fails l G H.size lo dd σ 2  h45) k_X13_fails tw_6_186 tw_0_26 tw_6_184 (by decide) (ge_13 rfl) rfl rfl rfl rfl rfl rfl dX13_carries_36) rfl rfl rfl (fun H locs M => ?_)
        cases hf
        exact g_iret S M hr hlk (by decide) (by decide) dX13_carries_39 rfl
    · have hf := it_p c9 hf
      refine lv_aload_n hx hb dX13_carries_14 rfl (lv_at hl 0 rfl) ?_
      refine lv_iconst (v := 1) hx hb dX13_carries_15 (by decide) ?_
      obtain ⟨r49, σ50, h48, hf⟩ := bd2_x hf
      refine g_callR (st1 := [.int r49]) (cells' := 0) (slots' := 0) M (g_invV (index := 64) S M C0 hl (c_X13_fails l G H.size lo dd σ 1  h48) k_X13_fails tw_6_186 tw_0_26 tw_6_184 (by decide) (ge_13 rfl) rfl rfl rfl rfl rfl rfl dX13_carries_16) rfl rfl rfl (fun H locs M => ?_)
      cases hf
      exact g_iret S M hr hlk (by decide) (by decide) dX13_carries_19 rfl
