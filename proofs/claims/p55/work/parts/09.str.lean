/-! String.length() and charAt(k) of the forms' texts -/
/-- a text of the heap that no method changes -/
def gOkc (x : Int32) : Prop := ((x &&& 255).toUInt32 % 65536).toInt32 = x ∧ narrow .char (.int x) = .int x
def gStr (G : gT) (q v : Nat) (tx : List Int32) : Prop := (∀ (A : Nat → Prop) (U : State), gCST G A U → vk_S 1 [tx.length] [tx] (fun _ => q) (fun _ => v) A U U.heap) ∧ tx.length ≤ 65536 ∧ ∀ j, j < tx.length → gOkc (tx.getD j 0)
theorem gByt_ok : ∀ k, k < 34 → (gByt.getD k []).length = gLen.getD k 0 ∧ (gByt.getD k []).length ≤ 65536 ∧ ∀ j, j < (gByt.getD k []).length → gOkc ((gByt.getD k []).getD j 0) := by unfold gOkc; decide +kernel
theorem gStr_f (G : gT) {k : Nat} (hk : k < 7) : gStr G (gtK G k) (gtV G k) (gByt.getD k []) := by
  obtain ⟨e1, e2, e3⟩ := gByt_ok k (by omega)
  refine ⟨fun A U C => ⟨fun i hi => ?_, fun i j hi hj _ => by omega⟩, e2, e3⟩
  obtain rfl : i = 0 := by omega
  have h := C.2.2.2.2.2.2.2.2.1.1 k hk
  rw [← e1] at h
  exact h
theorem gStr_k (G : gT) {k : Nat} (h16 : 16 ≤ k) (h34 : k < 34) : gStr G (gtK G k) (gtV G k) (gByt.getD k []) := by
  obtain ⟨e1, e2, e3⟩ := gByt_ok k h34
  refine ⟨fun A U C => ?_, e2, e3⟩
  have h := C.2.2.2.1.2.2.2 k h16 h34
  rw [← e1] at h
  exact h
theorem gStr_b (G : gT) {x : Nat × Nat × List Int32} (hx : x ∈ gtS G) (e2 : x.2.2.length ≤ 65536) (e3 : ∀ j, j < x.2.2.length → gOkc (x.2.2.getD j 0)) : gStr G x.1 x.2.1 x.2.2 := ⟨fun A U C => C.2.2.2.1.2.2.1 x hx, e2, e3⟩
abbrev gRs (f lo : Nat) : Room := { frames := f, cells := 0, slots := 0, locals := lo }
theorem k_Jcoder : gMV yJ0_coder_7d493 cJ0_coder_7d493 1 (some .byte) 0 := ⟨tw_4_198, tw_1_17, by decide⟩
theorem c_Jcoder (l : Launch) (G : gT) (sz : Nat) (lo : Int64) (dd : UInt64) (σ : gM) {q v : Nat} {tx : List Int32} (hq : gStr G q v tx) : gCT l yJ0_coder_7d493 cJ0_coder_7d493 1 (some .byte) (gRs 0 0) 0 0 G sz [.ref (q)] lo dd σ (.inl (some (.int 0), σ, lo, dd)) := by
  refine gCT_of (by decide) (Nat.le_of_ble_eq_true rfl) (fun p e s m args below meth c ls S hr hlk hnx hsz C0 hl H locs M => ?_)
  subst hsz
  have hx := S.1
  have hb := S.2.1
  refine va_gets hx hb C0.2.2.2.2.2.2.2.2.2.1 M.2.2.2 S.2.2.2.1 (S.2.2.2.2 _ tw_4_199) (fun _ h => h) dJ0_coder_7d493_0 ?_
  refine lv_if_eq (tgt := 13) hx hb dJ0_coder_7d493_3 (by decide) (fun c1 => absurd c1 (by decide)) (fun c1 => ?_)
  refine lv_aload_n hx hb dJ0_coder_7d493_6 rfl (lv_at hl 0 rfl) ?_
  refine vk_getf hx hb ((hq.1 _ _ C0).1 0 (by decide)).2.1 M.2.2.2 S.2.2.2.1 (S.2.2.2.2 _ tw_6_214) (fun _ h => h) dJ0_coder_7d493_7 ?_
  refine lv_goto (tgt := 14) hx hb dJ0_coder_7d493_10 (by decide) ?_
  exact g_zret S M hr hlk rfl (by decide) (by decide) dJ0_coder_7d493_14 rfl
theorem k_Jlat : gMV yJ0_isLatin1_aae02 cJ0_isLatin1_aae02 1 (some .boolean) 0 := ⟨tw_4_208, tw_1_17, by decide⟩
theorem c_Jlat (l : Launch) (G : gT) (sz : Nat) (lo : Int64) (dd : UInt64) (σ : gM) {q v : Nat} {tx : List Int32} (hq : gStr G q v tx) : gCT l yJ0_isLatin1_aae02 cJ0_isLatin1_aae02 1 (some .boolean) (gRs 0 0) 0 0 G sz [.ref (q)] lo dd σ (.inl (some (.int 1), σ, lo, dd)) := by
  refine gCT_of (by decide) (Nat.le_of_ble_eq_true rfl) (fun p e s m args below meth c ls S hr hlk hnx hsz C0 hl H locs M => ?_)
  subst hsz
  have hx := S.1
  have hb := S.2.1
  refine va_gets hx hb C0.2.2.2.2.2.2.2.2.2.1 M.2.2.2 S.2.2.2.1 (S.2.2.2.2 _ tw_4_199) (fun _ h => h) dJ0_isLatin1_aae02_0 ?_
  refine lv_if_eq (tgt := 17) hx hb dJ0_isLatin1_aae02_3 (by decide) (fun c1 => absurd c1 (by decide)) (fun c1 => ?_)
  refine lv_aload_n hx hb dJ0_isLatin1_aae02_6 rfl (lv_at hl 0 rfl) ?_
  refine vk_getf hx hb ((hq.1 _ _ C0).1 0 (by decide)).2.1 M.2.2.2 S.2.2.2.1 (S.2.2.2.2 _ tw_6_214) (fun _ h => h) dJ0_isLatin1_aae02_7 ?_
  refine lv_if_ne (tgt := 17) hx hb dJ0_isLatin1_aae02_10 (by decide) (fun c1 => absurd rfl c1) (fun c1 => ?_)
  refine lv_iconst (v := 1) hx hb dJ0_isLatin1_aae02_13 (by decide) ?_
  refine lv_goto (tgt := 18) hx hb dJ0_isLatin1_aae02_14 (by decide) ?_
  exact g_zret S M hr hlk (by decide) (by decide) (by decide) dJ0_isLatin1_aae02_18 rfl
theorem k_J3chk : gMV yJ3_checkIndex_8e157 cJ3_checkIndex_8e157 3 (some .int) 3 := ⟨tw_4_219, tw_1_29, by decide⟩
theorem c_J3chk (l : Launch) (G : gT) (sz : Nat) (lo : Int64) (dd : UInt64) (σ : gM) {i n : Int32} {v : Value} (hv : v = .null ∨ ∃ t, v = .ref t) (h0 : ¬ i < 0) (h1 : i < n) : gCT l yJ3_checkIndex_8e157 cJ3_checkIndex_8e157 3 (some .int) (gRs 0 0) 0 0 G sz [.int i, .int n, v] lo dd σ (.inl (some (.int i), σ, lo, dd)) := by
  have hcat : v.category = 1 := by rcases hv with rfl | ⟨t, rfl⟩ <;> rfl
  refine gCT_of (by decide) ?_ (fun p e s m args below meth c ls S hr hlk hnx hsz C0 hl H locs M => ?_)
  · rcases hv with rfl | ⟨t, rfl⟩ <;> exact Nat.le_of_ble_eq_true rfl
  subst hsz
  have hx := S.1
  have hb := S.2.1
  refine lv_iload_n (i := 0) hx hb dJ3_checkIndex_8e157_0 rfl (lv_at hl 0 rfl) ?_
  refine lv_if_lt (tgt := 9) hx hb dJ3_checkIndex_8e157_1 (by decide) (fun c1 => absurd c1 h0) (fun c1 => ?_)
  refine lv_iload_n (i := 0) hx hb dJ3_checkIndex_8e157_4 rfl (lv_at hl 0 rfl) ?_
  refine lv_iload_n (i := 1) hx hb dJ3_checkIndex_8e157_5 rfl (lv_at hl 1 rfl) ?_
  refine lv_icmp_lt (tgt := 16) hx hb dJ3_checkIndex_8e157_6 (by decide) (fun c1 => ?_) (fun c1 => absurd h1 c1)
  refine lv_iload_n (i := 0) hx hb dJ3_checkIndex_8e157_16 rfl (lv_at hl 0 rfl) ?_
  exact g_iret S M hr hlk (by decide) (by decide) dJ3_checkIndex_8e157_17 rfl
theorem k_J0chk : gMV yJ0_checkIndex_df160 cJ0_checkIndex_df160 2 none 2 := ⟨tw_4_214, tw_1_17, by decide⟩
theorem c_J0chk (l : Launch) (G : gT) (sz : Nat) (lo : Int64) (dd : UInt64) (σ : gM) {i n : Int32} (h0 : ¬ i < 0) (h1 : i < n) : gCT l yJ0_checkIndex_df160 cJ0_checkIndex_df160 2 none (gRs 1 22) 0 0 G sz [.int i, .int n] lo dd σ (.inl (none, σ, lo, dd)) := by
  refine gCT_of (by decide) (Nat.le_of_ble_eq_true rfl) (fun p e s m args below meth c ls S hr hlk hnx hsz C0 hl H locs M => ?_)
  subst hsz
  have hx := S.1
  have hb := S.2.1
  refine lv_iload_n hx hb dJ0_checkIndex_df160_0 rfl (lv_at hl 0 rfl) ?_
  refine lv_iload_n hx hb dJ0_checkIndex_df160_1 rfl (lv_at hl 1 rfl) ?_
  have go : ∀ v : Value, (v = .null ∨ ∃ t, v = .ref t) → va_Z "jdk/internal/util/Preconditions" "SIOOBE_FORMATTER" "Ljava/util/function/BiFunction;" v (gAA G s.heap.size) s s.heap → W p l e (gRs 1 22) s m args below meth c H locs 0 0 (vx_MQ below (gQc G s.heap.size (.inl (none, σ, lo, dd))) (gXC G s.heap.size (.inl (none, σ, lo, dd))) args s 0 0 (gAA G s.heap.size)) (F0 m 2 ls [.int n, .int i]) := by
    intro v hv hZ
    refine va_gets hx hb hZ M.2.2.2 S.2.2.2.1 (S.2.2.2.2 _ tw_4_215) (fun _ h => h) dJ0_checkIndex_df160_2 ?_
    refine g_callR (st1 := [.int i]) (cells' := 0) (slots' := 0) M (g_invS (index := 1059) S M C0 hl (c_J3chk l G H.size lo dd σ hv h0 h1) k_J3chk tw_4_218 tw_4_217 rfl rfl rfl rfl dJ0_checkIndex_df160_5) rfl rfl rfl (fun H locs M => ?_)
    refine lv_pop hx hb dJ0_checkIndex_df160_8 rfl ?_
    exact g_vret S M hr hlk (by decide) (by decide) dJ0_checkIndex_df160_9 rfl
  rcases C0.2.2.2.2.2.2.2.2.2.2.1 with h | ⟨t, h⟩
  · exact go _ (Or.inl rfl) h
  · exact go _ (Or.inr ⟨t, rfl⟩) h
theorem k_J1chr : gMV yJ1_charAt_3b067 cJ1_charAt_3b067 2 (some .char) 2 := ⟨tw_4_211, tw_1_30, by decide⟩
theorem c_J1chr (l : Launch) (G : gT) (sz : Nat) (lo : Int64) (dd : UInt64) (σ : gM) {q v : Nat} {tx : List Int32} {x : Int32} (hq : gStr G q v tx) (hin : vp_in x (tx.length)) : gCT l yJ1_charAt_3b067 cJ1_charAt_3b067 2 (some .char) (gRs 2 43) 0 0 G sz [.ref (v), .int x] lo dd σ (.inl (some (.int (tx.getD x.toNatClampNeg 0)), σ, lo, dd)) := by
  refine gCT_of (by decide) (Nat.le_of_ble_eq_true rfl) (fun p e s m args below meth c ls S hr hlk hnx hsz C0 hl H locs M => ?_)
  subst hsz
  have hx := S.1
  have hb := S.2.1
  have hT := ((hq.1 _ _ C0).1 0 (by decide)).2.2.2
  have hlen : tx.length < 2 ^ 31 := by have := hq.2.1; omega
  obtain ⟨j, hj, ej⟩ := vp_in_of hin hlen
  refine lv_iload_n hx hb dJ1_charAt_3b067_0 rfl (lv_at hl 1 rfl) ?_
  refine lv_aload_n hx hb dJ1_charAt_3b067_1 rfl (lv_at hl 0 rfl) ?_
  refine va_tlen hx hb hT M.2.2.2 (v := nI (tx.length)) rfl dJ1_charAt_3b067_2 ?_
  refine g_callR (st1 := []) (cells' := 0) (slots' := 0) M (g_invS (index := 9) S M C0 hl (c_J0chk l G H.size lo dd σ (by rw [ej]; exact nI_pos (by omega)) (by rw [ej]; exact nI_lt hj hlen)) k_J0chk tw_4_213 tw_4_212 rfl rfl rfl rfl dJ1_charAt_3b067_3) rfl rfl rfl (fun H locs M => ?_)
  refine lv_aload_n hx hb dJ1_charAt_3b067_6 rfl (lv_at hl 0 rfl) ?_
  refine lv_iload_n hx hb dJ1_charAt_3b067_7 rfl (lv_at hl 1 rfl) ?_
  refine va_tb hx hb hT M.2.2.2 hin (v := .int (tx.getD x.toNatClampNeg 0)) rfl dJ1_charAt_3b067_8 ?_
  refine lv_sipush (v := 255) hx hb dJ1_charAt_3b067_9 (by decide) ?_
  refine lv_iand hx hb dJ1_charAt_3b067_12 ?_
  refine lv_i2c hx hb dJ1_charAt_3b067_13 (hq.2.2 _ (vp_lt hin)).1 ?_
  exact g_zret S M hr hlk (hq.2.2 _ (vp_lt hin)).2 (by decide) (by decide) dJ1_charAt_3b067_14 rfl
section GSTR
variable {p : Program} {l : Launch} {e : Env} {R : Room} {s : State} {m : MethodId} {args : Array Value} {below : List Frame} {meth : Method} {c : Code} {H : Heap} {locs : List Loc} {cells slots : Nat} {Q : State → Prop} {cc : ByteArray} {nL : Nat} {own : String} {pc : Nat} {ls : Array Slot} {rest As : List Value} {G : gT} {lo : Int64} {dd : UInt64} {σ : gM} {lv : List (Nat × Value)}
variable {y : MethodName} {bytes : ByteArray} {maxL n index k : Nat} {ret : Option FieldType} {rm : Room} {out : gO}
theorem g_invK (S : CallFix p m c cc nL s args gTs own) (M : gMS G (gAA G s.heap.size) lo dd σ s H locs) (C0 : gCST G (gAA G s.heap.size) s) (hl : lv_has ls nL lv) {q v : Nat} {tx : List Int32} (hq0 : gStr G q v tx) (hM : gCT l y bytes maxL ret rm rm.cells rm.slots G H.size (.ref (q) :: As) lo dd σ out) (hk : gMV y bytes maxL ret n) (hin : Cond.instanceMethod y ∈ gTs) (hsel : Cond.selects y.cls y y ∈ gTs) (hlink : Cond.methodLink own index y ∈ gTs)
    (hq : y.cls = "java/lang/String") (hn : As.length = n) {st0 : List Value} (hst : st0 = As.reverse ++ .ref (q) :: rest) (hW : Nat.ble (0 + (rest.map fun v => v.category).sum) 8 = true) (hR : gRm R rm cells slots maxL = true) (hdg : decode cc pc = .ok (.invokevirtual index, 3)) :
    vx_Run p l e R s m args below meth c H locs cells slots rm.cells rm.slots (F0 m pc ls st0) rest (gQc G H.size out (Value.ref (q) :: As).toArray) (gXC G H.size out) (gAA G H.size) := by
  obtain ⟨k1, k2, k3⟩ := hk
  obtain ⟨r1, r2⟩ := gRm_of hR
  have hts := S.2.2.2.2
  exact vx_runV S hM ⟨callB_of n hts (gGood k1) rfl rfl rfl (hts _ k2) (hts _ hlink) k3 r1, hts _ hin, hts _ hsel⟩ ⟨(g_pre M C0).1, by rw [hq]; exact vk_recv (i := 0) (hq0.1 _ _ C0) (by decide) M.2.2.2, (g_pre M C0).2⟩ rfl hn hl.1 hst (Nat.le_of_ble_eq_true hW) hdg r2
end GSTR
theorem g_shr0 (n : Nat) : (nI n) >>> ((0 : Int32) &&& 31) = nI n := sb_shr0 (nI n)
theorem k_Jlen : gMV yJ0_length_8abf5 cJ0_length_8abf5 1 (some .int) 0 := ⟨tw_4_194, tw_1_17, by decide⟩
theorem c_Jlen (l : Launch) (G : gT) (sz : Nat) (lo : Int64) (dd : UInt64) (σ : gM) {q v : Nat} {tx : List Int32} (hq : gStr G q v tx) : gCT l yJ0_length_8abf5 cJ0_length_8abf5 1 (some .int) (gRs 1 20) 0 0 G sz [.ref (q)] lo dd σ (.inl (some (.int (nI (tx.length))), σ, lo, dd)) := by
  refine gCT_of (by decide) (Nat.le_of_ble_eq_true rfl) (fun p e s m args below meth c ls S hr hlk hnx hsz C0 hl H locs M => ?_)
  subst hsz
  have hx := S.1
  have hb := S.2.1
  have hS := (hq.1 _ _ C0).1 0 (by decide)
  refine lv_aload_n hx hb dJ0_length_8abf5_0 rfl (lv_at hl 0 rfl) ?_
  refine vk_getf hx hb hS.2.2.1 M.2.2.2 S.2.2.2.1 (S.2.2.2.2 _ tw_6_213) (fun _ h => h) dJ0_length_8abf5_1 ?_
  refine va_tlen hx hb hS.2.2.2 M.2.2.2 (v := nI (tx.length)) rfl dJ0_length_8abf5_4 ?_
  refine lv_aload_n hx hb dJ0_length_8abf5_5 rfl (lv_at hl 0 rfl) ?_
  refine g_callR (st1 := [.int 0, .int (nI (tx.length))]) (cells' := 0) (slots' := 0) M (g_invK (index := 335) S M C0 hl hq (c_Jcoder l G H.size lo dd σ hq) k_Jcoder tw_4_196 tw_4_197 tw_4_195 rfl rfl rfl rfl rfl dJ0_length_8abf5_6) rfl rfl rfl (fun H locs M => ?_)
  refine lv_ishr hx hb dJ0_length_8abf5_9 ?_
  rw [g_shr0 tx.length]
  exact g_iret S M hr hlk (by decide) (by decide) dJ0_length_8abf5_10 rfl
theorem k_Jchr : gMV yJ0_charAt_5068e cJ0_charAt_5068e 2 (some .char) 1 := ⟨tw_4_204, tw_1_17, by decide⟩
theorem c_Jchr (l : Launch) (G : gT) (sz : Nat) (lo : Int64) (dd : UInt64) (σ : gM) {q v : Nat} {tx : List Int32} {x : Int32} (hq : gStr G q v tx) (hin : vp_in x (tx.length)) : gCT l yJ0_charAt_5068e cJ0_charAt_5068e 2 (some .char) (gRs 3 64) 0 0 G sz [.ref (q), .int x] lo dd σ (.inl (some (.int (tx.getD x.toNatClampNeg 0)), σ, lo, dd)) := by
  refine gCT_of (by decide) (Nat.le_of_ble_eq_true rfl) (fun p e s m args below meth c ls S hr hlk hnx hsz C0 hl H locs M => ?_)
  subst hsz
  have hx := S.1
  have hb := S.2.1
  have hS := (hq.1 _ _ C0).1 0 (by decide)
  refine lv_aload_n hx hb dJ0_charAt_5068e_0 rfl (lv_at hl 0 rfl) ?_
  refine g_callR (st1 := [.int 1]) (cells' := 0) (slots' := 0) M (g_invK (index := 492) S M C0 hl hq (c_Jlat l G H.size lo dd σ hq) k_Jlat tw_4_206 tw_4_207 tw_4_205 rfl rfl rfl rfl rfl dJ0_charAt_5068e_1) rfl rfl rfl (fun H locs M => ?_)
  refine lv_if_eq (tgt := 16) hx hb dJ0_charAt_5068e_4 (by decide) (fun c1 => absurd c1 (by decide)) (fun c1 => ?_)
  refine lv_aload_n hx hb dJ0_charAt_5068e_7 rfl (lv_at hl 0 rfl) ?_
  refine vk_getf hx hb hS.2.2.1 M.2.2.2 S.2.2.2.1 (S.2.2.2.2 _ tw_6_213) (fun _ h => h) dJ0_charAt_5068e_8 ?_
  refine lv_iload_n hx hb dJ0_charAt_5068e_11 rfl (lv_at hl 1 rfl) ?_
  refine g_callR (st1 := [.int (tx.getD x.toNatClampNeg 0)]) (cells' := 0) (slots' := 0) M (g_invS (index := 495) S M C0 hl (c_J1chr l G H.size lo dd σ hq hin) k_J1chr tw_4_210 tw_4_209 rfl rfl rfl rfl dJ0_charAt_5068e_12) rfl rfl rfl (fun H locs M => ?_)
  exact g_zret S M hr hlk (hq.2.2 _ (vp_lt hin)).2 (by decide) (by decide) dJ0_charAt_5068e_15 rfl
theorem c_JlenF (l : Launch) (G : gT) (sz : Nat) (lo : Int64) (dd : UInt64) (σ : gM) {k : Nat} (hk : k < 7) : gCT l yJ0_length_8abf5 cJ0_length_8abf5 1 (some .int) (gRs 1 20) 0 0 G sz [.ref (gtK G k)] lo dd σ (.inl (some (.int (nI (gLen.getD k 0))), σ, lo, dd)) := by
  have h := c_Jlen l G sz lo dd σ (gStr_f G hk)
  rw [(gByt_ok k (by omega)).1] at h
  exact h
theorem c_JchrF (l : Launch) (G : gT) (sz : Nat) (lo : Int64) (dd : UInt64) (σ : gM) {k : Nat} {x : Int32} (hk : k < 7) (hin : vp_in x (gLen.getD k 0)) : gCT l yJ0_charAt_5068e cJ0_charAt_5068e 2 (some .char) (gRs 3 64) 0 0 G sz [.ref (gtK G k), .int x] lo dd σ (.inl (some (.int ((gByt.getD k []).getD x.toNatClampNeg 0)), σ, lo, dd)) := by
  rw [← (gByt_ok k (by omega)).1] at hin
  exact c_Jchr l G sz lo dd σ (gStr_f G hk) hin
section GSTR2
variable {p : Program} {l : Launch} {e : Env} {R : Room} {s : State} {m : MethodId} {args : Array Value} {below : List Frame} {meth : Method} {c : Code} {H : Heap} {locs : List Loc} {cells slots : Nat} {Q : State → Prop} {cc : ByteArray} {nL pc kf : Nat} {ls : Array Slot} {rest : List Value} {G : gT} {lo : Int64} {dd : UInt64} {σ : gM} {lv : List (Nat × Value)}
theorem g_slen (S : CallFix p m c cc nL s args gTs RX2) (M : gMS G (gAA G s.heap.size) lo dd σ s H locs) (C0 : gCST G (gAA G s.heap.size) s) (hl : lv_has ls nL lv) (hkf : kf < 7) (hW : Nat.ble (0 + (rest.map fun v => v.category).sum) 8 = true) (hR : gRm R (gRs 1 20) cells slots 1 = true) (hdg : decode cc pc = .ok (.invokevirtual 64, 3))
    (kk : ∀ (H : Heap) (locs : List Loc), gMS G (gAA G s.heap.size) lo dd σ s H locs → W p l e R s m args below meth c H locs cells slots Q (F0 m (pc + 3) ls (.int (nI (gLen.getD kf 0)) :: rest))) : W p l e R s m args below meth c H locs cells slots Q (F0 m pc ls (.ref (gtK G kf) :: rest)) :=
  g_callR (st1 := .int (nI (gLen.getD kf 0)) :: rest) (cells' := cells) (slots' := slots) M (g_invK (index := 64) S M C0 hl (gStr_f G hkf) (c_JlenF l G H.size lo dd σ hkf) k_Jlen tw_4_192 tw_4_193 tw_4_191 rfl rfl rfl hW hR hdg) rfl rfl rfl kk
theorem g_schar {x : Int32} (S : CallFix p m c cc nL s args gTs RX2) (M : gMS G (gAA G s.heap.size) lo dd σ s H locs) (C0 : gCST G (gAA G s.heap.size) s) (hl : lv_has ls nL lv) (hkf : kf < 7) (hin : vp_in x (gLen.getD kf 0)) (hW : Nat.ble (0 + (rest.map fun v => v.category).sum) 8 = true) (hR : gRm R (gRs 3 64) cells slots 2 = true) (hdg : decode cc pc = .ok (.invokevirtual 69, 3))
    (kk : ∀ (H : Heap) (locs : List Loc), gMS G (gAA G s.heap.size) lo dd σ s H locs → W p l e R s m args below meth c H locs cells slots Q (F0 m (pc + 3) ls (.int ((gByt.getD kf []).getD x.toNatClampNeg 0) :: rest))) : W p l e R s m args below meth c H locs cells slots Q (F0 m pc ls (.int x :: .ref (gtK G kf) :: rest)) :=
  g_callR (st1 := .int ((gByt.getD kf []).getD x.toNatClampNeg 0) :: rest) (cells' := cells) (slots' := slots) M (g_invK (index := 69) S M C0 hl (gStr_f G hkf) (c_JchrF l G H.size lo dd σ hkf hin) k_Jchr tw_4_202 tw_4_203 tw_4_201 rfl rfl rfl hW hR hdg) rfl rfl rfl kk
theorem g_slenL (S : CallFix p m c cc nL s args gTs RL) (M : gMS G (gAA G s.heap.size) lo dd σ s H locs) (C0 : gCST G (gAA G s.heap.size) s) (hl : lv_has ls nL lv) {q v : Nat} {tx : List Int32} (hq : gStr G q v tx) (hW : Nat.ble (0 + (rest.map fun v => v.category).sum) 8 = true) (hR : gRm R (gRs 1 20) cells slots 1 = true) (hdg : decode cc pc = .ok (.invokevirtual 7, 3))
    (kk : ∀ (H : Heap) (locs : List Loc), gMS G (gAA G s.heap.size) lo dd σ s H locs → W p l e R s m args below meth c H locs cells slots Q (F0 m (pc + 3) ls (.int (nI (tx.length)) :: rest))) : W p l e R s m args below meth c H locs cells slots Q (F0 m pc ls (.ref (q) :: rest)) :=
  g_callR (st1 := .int (nI (tx.length)) :: rest) (cells' := cells) (slots' := slots) M (g_invK (index := 7) S M C0 hl hq (c_Jlen l G H.size lo dd σ hq) k_Jlen tw_4_192 tw_4_193 tw_5_134 rfl rfl rfl hW hR hdg) rfl rfl rfl kk
theorem g_scharL {x : Int32} (S : CallFix p m c cc nL s args gTs RL) (M : gMS G (gAA G s.heap.size) lo dd σ s H locs) (C0 : gCST G (gAA G s.heap.size) s) (hl : lv_has ls nL lv) {q v : Nat} {tx : List Int32} (hq : gStr G q v tx) (hin : vp_in x (tx.length)) (hW : Nat.ble (0 + (rest.map fun v => v.category).sum) 8 = true) (hR : gRm R (gRs 3 64) cells slots 2 = true) (hdg : decode cc pc = .ok (.invokevirtual 13, 3))
    (kk : ∀ (H : Heap) (locs : List Loc), gMS G (gAA G s.heap.size) lo dd σ s H locs → W p l e R s m args below meth c H locs cells slots Q (F0 m (pc + 3) ls (.int (tx.getD x.toNatClampNeg 0) :: rest))) : W p l e R s m args below meth c H locs cells slots Q (F0 m pc ls (.int x :: .ref (q) :: rest)) :=
  g_callR (st1 := .int (tx.getD x.toNatClampNeg 0) :: rest) (cells' := cells) (slots' := slots) M (g_invK (index := 13) S M C0 hl hq (c_Jchr l G H.size lo dd σ hq hin) k_Jchr tw_4_202 tw_4_203 tw_5_135 rfl rfl rfl hW hR hdg) rfl rfl rfl kk
end GSTR2
