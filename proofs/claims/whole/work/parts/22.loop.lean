set_option maxHeartbeats 4000000 in
set_option maxRecDepth 100000 in
theorem t_turn {p : Program} {l : Launch} {e : Env} {s : State} {m : MethodId} {args : Array Value} {below : List Frame} {meth : Method} {c : Code} {Q : State → Prop} {G : gT} {lo : Int64} {dd : UInt64} {σ : gM} {b L : Nat} {xs : Nat → Int32} (hfl : l.stackTraces = false) (S : CallFix p m c cL_law 9 s args gTs "ParcelDepotLaw") (C0 : gCST G (gAA G s.heap.size) s) (hX : va_X b L xs s s.heap) (hbl : b < s.heap.size) (hbA : ¬ gAA G s.heap.size b) {i : Int32} (h0 : vp_in i L) (h1 : vp_in (i + 1) L) (h2 : vp_in (i + 2) L) (h3 : vp_in (i + 3) L) {cells slots : Nat} (hc : cells + 3 ≤ room_1.cells) (hs : slots + 18 ≤ room_1.slots) {o : gM × Int64 × UInt64} (hf : f_T σ lo dd (xs i.toNatClampNeg) (xs (i + 1).toNatClampNeg) (xs (i + 2).toNatClampNeg) (xs (i + 3).toNatClampNeg) = some o) (H : Heap) (locs : List Loc) (ls : Array Slot) (M : gMS G (gAA G s.heap.size) lo dd σ s H locs) (hl : lv_has ls 9 [(0, .ref b), (1, .ref (G.1 0)), (2, .ref (G.1 219)), (3, .ref (G.1 228)), (4, .ref (G.1 229)), (5, .int i)]) (kk : ∀ (H : Heap) (locs : List Loc) (ls : Array Slot), gMS G (gAA G s.heap.size) o.2.1 o.2.2 o.1 s H locs → lv_has ls 9 [(0, .ref b), (1, .ref (G.1 0)), (2, .ref (G.1 219)), (3, .ref (G.1 228)), (4, .ref (G.1 229)), (5, .int i)] → W p l e room_1 s m args below meth c H locs (cells + 3) (slots + 18) Q (F0 m 2764 ls [])) : W p l e room_1 s m args below meth c H locs cells slots Q (F0 m 37 ls []) := by
  have hx := S.1
  have hb := S.2.1
  unfold f_T at hf
  refine lv_aload_n hx hb dL_law_37 rfl (lv_at hl 0 rfl) ?_
  refine lv_iload hx hb dL_law_38 (lv_at hl 5 rfl) ?_
  refine va_sld hx hb hX hbl hbA M.2.2.2 h0 dL_law_40 ?_
  refine lv_bipush (v := 63) hx hb dL_law_41 (by decide) ?_
  refine lv_iand hx hb dL_law_43 ?_
  by_cases c0 : xs i.toNatClampNeg &&& 63 = 0
  · have hf := it_p c0 hf
    refine g_top c0 ?_
    refine lv_tableIn (off := 224) (tgt := 268) hx hb dL_law_44 (by decide) (by decide) rfl (by decide) ?_
    exact t_0 hfl S C0 hX hbl hbA h1 h2 h3 hc hs hf H locs ls M hl kk
  have hf := it_n c0 hf
  by_cases c1 : xs i.toNatClampNeg &&& 63 = 1
  · have hf := it_p c1 hf
    refine g_top c1 ?_
    refine lv_tableIn (off := 304) (tgt := 348) hx hb dL_law_44 (by decide) (by decide) rfl (by decide) ?_
    exact t_1 hfl S C0 hX hbl hbA h1 h2 h3 hc hs hf H locs ls M hl kk
  have hf := it_n c1 hf
  by_cases c2 : xs i.toNatClampNeg &&& 63 = 2
  · have hf := it_p c2 hf
    refine g_top c2 ?_
    refine lv_tableIn (off := 384) (tgt := 428) hx hb dL_law_44 (by decide) (by decide) rfl (by decide) ?_
    exact t_2 hfl S C0 hX hbl hbA h1 h2 h3 hc hs hf H locs ls M hl kk
  have hf := it_n c2 hf
  by_cases c3 : xs i.toNatClampNeg &&& 63 = 3
  · have hf := it_p c3 hf
    refine g_top c3 ?_
    refine lv_tableIn (off := 440) (tgt := 484) hx hb dL_law_44 (by decide) (by decide) rfl (by decide) ?_
    exact t_3 hfl S C0 hX hbl hbA h1 h2 h3 hc hs hf H locs ls M hl kk
  have hf := it_n c3 hf
  by_cases c4 : xs i.toNatClampNeg &&& 63 = 4
  · have hf := it_p c4 hf
    refine g_top c4 ?_
    refine lv_tableIn (off := 508) (tgt := 552) hx hb dL_law_44 (by decide) (by decide) rfl (by decide) ?_
    exact t_4 hfl S C0 hX hbl hbA h1 h2 h3 hc hs hf H locs ls M hl kk
  have hf := it_n c4 hf
  by_cases c5 : xs i.toNatClampNeg &&& 63 = 5
  · have hf := it_p c5 hf
    refine g_top c5 ?_
    refine lv_tableIn (off := 576) (tgt := 620) hx hb dL_law_44 (by decide) (by decide) rfl (by decide) ?_
    exact t_5 hfl S C0 hX hbl hbA h1 h2 h3 hc hs hf H locs ls M hl kk
  have hf := it_n c5 hf
  by_cases c6 : xs i.toNatClampNeg &&& 63 = 6
  · have hf := it_p c6 hf
    refine g_top c6 ?_
    refine lv_tableIn (off := 632) (tgt := 676) hx hb dL_law_44 (by decide) (by decide) rfl (by decide) ?_
    exact t_6 hfl S C0 hX hbl hbA h1 h2 h3 hc hs hf H locs ls M hl kk
  have hf := it_n c6 hf
  by_cases c7 : xs i.toNatClampNeg &&& 63 = 7
  · have hf := it_p c7 hf
    refine g_top c7 ?_
    refine lv_tableIn (off := 700) (tgt := 744) hx hb dL_law_44 (by decide) (by decide) rfl (by decide) ?_
    exact t_7 hfl S C0 hX hbl hbA h1 h2 h3 hc hs hf H locs ls M hl kk
  have hf := it_n c7 hf
  by_cases c8 : xs i.toNatClampNeg &&& 63 = 8
  · have hf := it_p c8 hf
    refine g_top c8 ?_
    refine lv_tableIn (off := 756) (tgt := 800) hx hb dL_law_44 (by decide) (by decide) rfl (by decide) ?_
    exact t_8 hfl S C0 hX hbl hbA h1 h2 h3 hc hs hf H locs ls M hl kk
  have hf := it_n c8 hf
  by_cases c9 : xs i.toNatClampNeg &&& 63 = 9
  · have hf := it_p c9 hf
    refine g_top c9 ?_
    refine lv_tableIn (off := 769) (tgt := 813) hx hb dL_law_44 (by decide) (by decide) rfl (by decide) ?_
    exact t_9 hfl S C0 hX hbl hbA h1 h2 h3 hc hs hf H locs ls M hl kk
  have hf := it_n c9 hf
  by_cases c10 : xs i.toNatClampNeg &&& 63 = 10
  · have hf := it_p c10 hf
    refine g_top c10 ?_
    refine lv_tableIn (off := 837) (tgt := 881) hx hb dL_law_44 (by decide) (by decide) rfl (by decide) ?_
    exact t_10 hfl S C0 hX hbl hbA h1 h2 h3 hc hs hf H locs ls M hl kk
  have hf := it_n c10 hf
  by_cases c11 : xs i.toNatClampNeg &&& 63 = 11
  · have hf := it_p c11 hf
    refine g_top c11 ?_
    refine lv_tableIn (off := 905) (tgt := 949) hx hb dL_law_44 (by decide) (by decide) rfl (by decide) ?_
    exact t_11 hfl S C0 hX hbl hbA h1 h2 h3 hc hs hf H locs ls M hl kk
  have hf := it_n c11 hf
  by_cases c12 : xs i.toNatClampNeg &&& 63 = 12
  · have hf := it_p c12 hf
    refine g_top c12 ?_
    refine lv_tableIn (off := 973) (tgt := 1017) hx hb dL_law_44 (by decide) (by decide) rfl (by decide) ?_
    exact t_12 hfl S C0 hX hbl hbA h1 h2 h3 hc hs hf H locs ls M hl kk
  have hf := it_n c12 hf
  by_cases c13 : xs i.toNatClampNeg &&& 63 = 13
  · have hf := it_p c13 hf
    refine g_top c13 ?_
    refine lv_tableIn (off := 1029) (tgt := 1073) hx hb dL_law_44 (by decide) (by decide) rfl (by decide) ?_
    exact t_13 hfl S C0 hX hbl hbA h1 h2 h3 hc hs hf H locs ls M hl kk
  have hf := it_n c13 hf
  by_cases c14 : xs i.toNatClampNeg &&& 63 = 14
  · have hf := it_p c14 hf
    refine g_top c14 ?_
    refine lv_tableIn (off := 1042) (tgt := 1086) hx hb dL_law_44 (by decide) (by decide) rfl (by decide) ?_
    exact t_14 hfl S C0 hX hbl hbA h1 h2 h3 hc hs hf H locs ls M hl kk
  have hf := it_n c14 hf
  by_cases c15 : xs i.toNatClampNeg &&& 63 = 15
  · have hf := it_p c15 hf
    refine g_top c15 ?_
    refine lv_tableIn (off := 1098) (tgt := 1142) hx hb dL_law_44 (by decide) (by decide) rfl (by decide) ?_
    exact t_15 hfl S C0 hX hbl hbA h1 h2 h3 hc hs hf H locs ls M hl kk
  have hf := it_n c15 hf
  by_cases c16 : xs i.toNatClampNeg &&& 63 = 16
  · have hf := it_p c16 hf
    refine g_top c16 ?_
    refine lv_tableIn (off := 1154) (tgt := 1198) hx hb dL_law_44 (by decide) (by decide) rfl (by decide) ?_
    exact t_16 hfl S C0 hX hbl hbA h1 h2 h3 hc hs hf H locs ls M hl kk
  have hf := it_n c16 hf
  by_cases c17 : xs i.toNatClampNeg &&& 63 = 17
  · have hf := it_p c17 hf
    refine g_top c17 ?_
    refine lv_tableIn (off := 1210) (tgt := 1254) hx hb dL_law_44 (by decide) (by decide) rfl (by decide) ?_
    exact t_17 hfl S C0 hX hbl hbA h1 h2 h3 hc hs hf H locs ls M hl kk
  have hf := it_n c17 hf
  by_cases c18 : xs i.toNatClampNeg &&& 63 = 18
  · have hf := it_p c18 hf
    refine g_top c18 ?_
    refine lv_tableIn (off := 1266) (tgt := 1310) hx hb dL_law_44 (by decide) (by decide) rfl (by decide) ?_
    exact t_18 hfl S C0 hX hbl hbA h1 h2 h3 hc hs hf H locs ls M hl kk
  have hf := it_n c18 hf
  by_cases c19 : xs i.toNatClampNeg &&& 63 = 19
  · have hf := it_p c19 hf
    refine g_top c19 ?_
    refine lv_tableIn (off := 1322) (tgt := 1366) hx hb dL_law_44 (by decide) (by decide) rfl (by decide) ?_
    exact t_19 hfl S C0 hX hbl hbA h1 h2 h3 hc hs hf H locs ls M hl kk
  have hf := it_n c19 hf
  by_cases c20 : xs i.toNatClampNeg &&& 63 = 20
  · have hf := it_p c20 hf
    refine g_top c20 ?_
    refine lv_tableIn (off := 1378) (tgt := 1422) hx hb dL_law_44 (by decide) (by decide) rfl (by decide) ?_
    exact t_20 hfl S C0 hX hbl hbA h1 h2 h3 hc hs hf H locs ls M hl kk
  have hf := it_n c20 hf
  by_cases c21 : xs i.toNatClampNeg &&& 63 = 21
  · have hf := it_p c21 hf
    refine g_top c21 ?_
    refine lv_tableIn (off := 1391) (tgt := 1435) hx hb dL_law_44 (by decide) (by decide) rfl (by decide) ?_
    exact t_21 hfl S C0 hX hbl hbA h1 h2 h3 hc hs hf H locs ls M hl kk
  have hf := it_n c21 hf
  by_cases c22 : xs i.toNatClampNeg &&& 63 = 22
  · have hf := it_p c22 hf
    refine g_top c22 ?_
    refine lv_tableIn (off := 1404) (tgt := 1448) hx hb dL_law_44 (by decide) (by decide) rfl (by decide) ?_
    exact t_22 hfl S C0 hX hbl hbA h1 h2 h3 hc hs hf H locs ls M hl kk
  have hf := it_n c22 hf
  by_cases c23 : xs i.toNatClampNeg &&& 63 = 23
  · have hf := it_p c23 hf
    refine g_top c23 ?_
    refine lv_tableIn (off := 1417) (tgt := 1461) hx hb dL_law_44 (by decide) (by decide) rfl (by decide) ?_
    exact t_23 hfl S C0 hX hbl hbA h1 h2 h3 hc hs hf H locs ls M hl kk
  have hf := it_n c23 hf
  by_cases c24 : xs i.toNatClampNeg &&& 63 = 24
  · have hf := it_p c24 hf
    refine g_top c24 ?_
    refine lv_tableIn (off := 1473) (tgt := 1517) hx hb dL_law_44 (by decide) (by decide) rfl (by decide) ?_
    exact t_24 hfl S C0 hX hbl hbA h1 h2 h3 hc hs hf H locs ls M hl kk
  have hf := it_n c24 hf
  by_cases c25 : xs i.toNatClampNeg &&& 63 = 25
  · have hf := it_p c25 hf
    refine g_top c25 ?_
    refine lv_tableIn (off := 1529) (tgt := 1573) hx hb dL_law_44 (by decide) (by decide) rfl (by decide) ?_
    exact t_25 hfl S C0 hX hbl hbA h1 h2 h3 hc hs hf H locs ls M hl kk
  have hf := it_n c25 hf
  by_cases c26 : xs i.toNatClampNeg &&& 63 = 26
  · have hf := it_p c26 hf
    refine g_top c26 ?_
    refine lv_tableIn (off := 1585) (tgt := 1629) hx hb dL_law_44 (by decide) (by decide) rfl (by decide) ?_
    exact t_26 hfl S C0 hX hbl hbA h1 h2 h3 hc hs hf H locs ls M hl kk
  have hf := it_n c26 hf
  by_cases c27 : xs i.toNatClampNeg &&& 63 = 27
  · have hf := it_p c27 hf
    refine g_top c27 ?_
    refine lv_tableIn (off := 1648) (tgt := 1692) hx hb dL_law_44 (by decide) (by decide) rfl (by decide) ?_
    exact t_27 hfl S C0 hX hbl hbA h1 h2 h3 hc hs hf H locs ls M hl kk
  have hf := it_n c27 hf
  by_cases c28 : xs i.toNatClampNeg &&& 63 = 28
  · have hf := it_p c28 hf
    refine g_top c28 ?_
    refine lv_tableIn (off := 1661) (tgt := 1705) hx hb dL_law_44 (by decide) (by decide) rfl (by decide) ?_
    exact t_28 hfl S C0 hX hbl hbA h1 h2 h3 hc hs hf H locs ls M hl kk
  have hf := it_n c28 hf
  by_cases c29 : xs i.toNatClampNeg &&& 63 = 29
  · have hf := it_p c29 hf
    refine g_top c29 ?_
    refine lv_tableIn (off := 1674) (tgt := 1718) hx hb dL_law_44 (by decide) (by decide) rfl (by decide) ?_
    exact t_29 hfl S C0 hX hbl hbA h1 h2 h3 hc hs hf H locs ls M hl kk
  have hf := it_n c29 hf
  by_cases c30 : xs i.toNatClampNeg &&& 63 = 30
  · have hf := it_p c30 hf
    refine g_top c30 ?_
    refine lv_tableIn (off := 1730) (tgt := 1774) hx hb dL_law_44 (by decide) (by decide) rfl (by decide) ?_
    exact t_30 hfl S C0 hX hbl hbA h1 h2 h3 hc hs hf H locs ls M hl kk
  have hf := it_n c30 hf
  by_cases c31 : xs i.toNatClampNeg &&& 63 = 31
  · have hf := it_p c31 hf
    refine g_top c31 ?_
    refine lv_tableIn (off := 1786) (tgt := 1830) hx hb dL_law_44 (by decide) (by decide) rfl (by decide) ?_
    exact t_31 hfl S C0 hX hbl hbA h1 h2 h3 hc hs hf H locs ls M hl kk
  have hf := it_n c31 hf
  by_cases c32 : xs i.toNatClampNeg &&& 63 = 32
  · have hf := it_p c32 hf
    refine g_top c32 ?_
    refine lv_tableIn (off := 1842) (tgt := 1886) hx hb dL_law_44 (by decide) (by decide) rfl (by decide) ?_
    exact t_32 hfl S C0 hX hbl hbA h1 h2 h3 hc hs hf H locs ls M hl kk
  have hf := it_n c32 hf
  by_cases c33 : xs i.toNatClampNeg &&& 63 = 33
  · have hf := it_p c33 hf
    refine g_top c33 ?_
    refine lv_tableIn (off := 1898) (tgt := 1942) hx hb dL_law_44 (by decide) (by decide) rfl (by decide) ?_
    exact t_33 hfl S C0 hX hbl hbA h1 h2 h3 hc hs hf H locs ls M hl kk
  have hf := it_n c33 hf
  by_cases c34 : xs i.toNatClampNeg &&& 63 = 34
  · have hf := it_p c34 hf
    refine g_top c34 ?_
    refine lv_tableIn (off := 1954) (tgt := 1998) hx hb dL_law_44 (by decide) (by decide) rfl (by decide) ?_
    exact t_34 hfl S C0 hX hbl hbA h1 h2 h3 hc hs hf H locs ls M hl kk
  have hf := it_n c34 hf
  by_cases c35 : xs i.toNatClampNeg &&& 63 = 35
  · have hf := it_p c35 hf
    refine g_top c35 ?_
    refine lv_tableIn (off := 2010) (tgt := 2054) hx hb dL_law_44 (by decide) (by decide) rfl (by decide) ?_
    exact t_35 hfl S C0 hX hbl hbA h1 h2 h3 hc hs hf H locs ls M hl kk
  have hf := it_n c35 hf
  by_cases c36 : xs i.toNatClampNeg &&& 63 = 36
  · have hf := it_p c36 hf
    refine g_top c36 ?_
    refine lv_tableIn (off := 2078) (tgt := 2122) hx hb dL_law_44 (by decide) (by decide) rfl (by decide) ?_
    exact t_36 hfl S C0 hX hbl hbA h1 h2 h3 hc hs hf H locs ls M hl kk
  have hf := it_n c36 hf
  by_cases c37 : xs i.toNatClampNeg &&& 63 = 37
  · have hf := it_p c37 hf
    refine g_top c37 ?_
    refine lv_tableIn (off := 2091) (tgt := 2135) hx hb dL_law_44 (by decide) (by decide) rfl (by decide) ?_
    exact t_37 hfl S C0 hX hbl hbA h1 h2 h3 hc hs hf H locs ls M hl kk
  have hf := it_n c37 hf
  by_cases c38 : xs i.toNatClampNeg &&& 63 = 38
  · have hf := it_p c38 hf
    refine g_top c38 ?_
    refine lv_tableIn (off := 2104) (tgt := 2148) hx hb dL_law_44 (by decide) (by decide) rfl (by decide) ?_
    exact t_38 hfl S C0 hX hbl hbA h1 h2 h3 hc hs hf H locs ls M hl kk
  have hf := it_n c38 hf
  by_cases c39 : xs i.toNatClampNeg &&& 63 = 39
  · have hf := it_p c39 hf
    refine g_top c39 ?_
    refine lv_tableIn (off := 2160) (tgt := 2204) hx hb dL_law_44 (by decide) (by decide) rfl (by decide) ?_
    exact t_39 hfl S C0 hX hbl hbA h1 h2 h3 hc hs hf H locs ls M hl kk
  have hf := it_n c39 hf
  by_cases c40 : xs i.toNatClampNeg &&& 63 = 40
  · have hf := it_p c40 hf
    refine g_top c40 ?_
    refine lv_tableIn (off := 2225) (tgt := 2269) hx hb dL_law_44 (by decide) (by decide) rfl (by decide) ?_
    exact t_40 hfl S C0 hX hbl hbA h1 h2 h3 hc hs hf H locs ls M hl kk
  have hf := it_n c40 hf
  by_cases c41 : xs i.toNatClampNeg &&& 63 = 41
  · have hf := it_p c41 hf
    refine g_top c41 ?_
    refine lv_tableIn (off := 2291) (tgt := 2335) hx hb dL_law_44 (by decide) (by decide) rfl (by decide) ?_
    exact t_41 hfl S C0 hX hbl hbA h1 h2 h3 hc hs hf H locs ls M hl kk
  have hf := it_n c41 hf
  by_cases c42 : xs i.toNatClampNeg &&& 63 = 42
  · have hf := it_p c42 hf
    refine g_top c42 ?_
    refine lv_tableIn (off := 2304) (tgt := 2348) hx hb dL_law_44 (by decide) (by decide) rfl (by decide) ?_
    exact t_42 hfl S C0 hX hbl hbA h1 h2 h3 hc hs hf H locs ls M hl kk
  have hf := it_n c42 hf
  by_cases c43 : xs i.toNatClampNeg &&& 63 = 43
  · have hf := it_p c43 hf
    refine g_top c43 ?_
    refine lv_tableIn (off := 2362) (tgt := 2406) hx hb dL_law_44 (by decide) (by decide) rfl (by decide) ?_
    exact t_43 hfl S C0 hX hbl hbA h1 h2 h3 hc hs hf H locs ls M hl kk
  have hf := it_n c43 hf
  by_cases c44 : xs i.toNatClampNeg &&& 63 = 44
  · have hf := it_p c44 hf
    refine g_top c44 ?_
    refine lv_tableIn (off := 2406) (tgt := 2450) hx hb dL_law_44 (by decide) (by decide) rfl (by decide) ?_
    exact t_44 hfl S C0 hX hbl hbA h1 h2 h3 hc hs hf H locs ls M hl kk
  have hf := it_n c44 hf
  by_cases c45 : xs i.toNatClampNeg &&& 63 = 45
  · have hf := it_p c45 hf
    refine g_top c45 ?_
    refine lv_tableIn (off := 2450) (tgt := 2494) hx hb dL_law_44 (by decide) (by decide) rfl (by decide) ?_
    exact t_45 hfl S C0 hX hbl hbA h1 h2 h3 hc hs hf H locs ls M hl kk
  have hf := it_n c45 hf
  by_cases c46 : xs i.toNatClampNeg &&& 63 = 46
  · have hf := it_p c46 hf
    refine g_top c46 ?_
    refine lv_tableIn (off := 2494) (tgt := 2538) hx hb dL_law_44 (by decide) (by decide) rfl (by decide) ?_
    exact t_46 hfl S C0 hX hbl hbA h1 h2 h3 hc hs hf H locs ls M hl kk
  have hf := it_n c46 hf
  by_cases c47 : xs i.toNatClampNeg &&& 63 = 47
  · have hf := it_p c47 hf
    refine g_top c47 ?_
    refine lv_tableIn (off := 2550) (tgt := 2594) hx hb dL_law_44 (by decide) (by decide) rfl (by decide) ?_
    exact t_47 hfl S C0 hX hbl hbA h1 h2 h3 hc hs hf H locs ls M hl kk
  have hf := it_n c47 hf
  by_cases c48 : xs i.toNatClampNeg &&& 63 = 48
  · have hf := it_p c48 hf
    refine g_top c48 ?_
    refine lv_tableIn (off := 2606) (tgt := 2650) hx hb dL_law_44 (by decide) (by decide) rfl (by decide) ?_
    exact t_48 hfl S C0 hX hbl hbA h1 h2 h3 hc hs hf H locs ls M hl kk
  have hf := it_n c48 hf
  by_cases c49 : xs i.toNatClampNeg &&& 63 = 49
  · have hf := it_p c49 hf
    refine g_top c49 ?_
    refine lv_tableIn (off := 2619) (tgt := 2663) hx hb dL_law_44 (by decide) (by decide) rfl (by decide) ?_
    exact t_49 hfl S C0 hX hbl hbA h1 h2 h3 hc hs hf H locs ls M hl kk
  have hf := it_n c49 hf
  by_cases c50 : xs i.toNatClampNeg &&& 63 = 50
  · have hf := it_p c50 hf
    refine g_top c50 ?_
    refine lv_tableIn (off := 2663) (tgt := 2707) hx hb dL_law_44 (by decide) (by decide) rfl (by decide) ?_
    exact t_50 hfl S C0 hX hbl hbA h1 h2 h3 hc hs hf H locs ls M hl kk
  have hf := it_n c50 hf
  by_cases c51 : xs i.toNatClampNeg &&& 63 = 51
  · have hf := it_p c51 hf
    refine g_top c51 ?_
    refine lv_tableIn (off := 2676) (tgt := 2720) hx hb dL_law_44 (by decide) (by decide) rfl (by decide) ?_
    exact t_51 hfl S C0 hX hbl hbA h1 h2 h3 hc hs hf H locs ls M hl kk
  have hf := it_n c51 hf
  refine g_tswD (tgt := 2764) hx hb dL_law_44 (by decide) (by decide) (fun i hi => ?_) ?_
  · have hi : i < 52 := hi
    refine Or.inr (fun q => ?_)
    have hd : ∀ j : Nat, j < 52 → (j = 0 ∨ j = 1 ∨ j = 2 ∨ j = 3 ∨ j = 4 ∨ j = 5 ∨ j = 6 ∨ j = 7 ∨ j = 8 ∨ j = 9 ∨ j = 10 ∨ j = 11 ∨ j = 12 ∨ j = 13 ∨ j = 14 ∨ j = 15 ∨ j = 16 ∨ j = 17 ∨ j = 18 ∨ j = 19 ∨ j = 20 ∨ j = 21 ∨ j = 22 ∨ j = 23 ∨ j = 24 ∨ j = 25 ∨ j = 26 ∨ j = 27 ∨ j = 28 ∨ j = 29 ∨ j = 30 ∨ j = 31 ∨ j = 32 ∨ j = 33 ∨ j = 34 ∨ j = 35 ∨ j = 36 ∨ j = 37 ∨ j = 38 ∨ j = 39 ∨ j = 40 ∨ j = 41 ∨ j = 42 ∨ j = 43 ∨ j = 44 ∨ j = 45 ∨ j = 46 ∨ j = 47 ∨ j = 48 ∨ j = 49 ∨ j = 50 ∨ j = 51) := by
      intro j hj; omega
    rcases hd i hi with rfl | rfl | rfl | rfl | rfl | rfl | rfl | rfl | rfl | rfl | rfl | rfl | rfl | rfl | rfl | rfl | rfl | rfl | rfl | rfl | rfl | rfl | rfl | rfl | rfl | rfl | rfl | rfl | rfl | rfl | rfl | rfl | rfl | rfl | rfl | rfl | rfl | rfl | rfl | rfl | rfl | rfl | rfl | rfl | rfl | rfl | rfl | rfl | rfl | rfl | rfl | rfl
    · exact c0 (g_toInt_inj (q.trans (by decide)))
    · exact c1 (g_toInt_inj (q.trans (by decide)))
    · exact c2 (g_toInt_inj (q.trans (by decide)))
    · exact c3 (g_toInt_inj (q.trans (by decide)))
    · exact c4 (g_toInt_inj (q.trans (by decide)))
    · exact c5 (g_toInt_inj (q.trans (by decide)))
    · exact c6 (g_toInt_inj (q.trans (by decide)))
    · exact c7 (g_toInt_inj (q.trans (by decide)))
    · exact c8 (g_toInt_inj (q.trans (by decide)))
    · exact c9 (g_toInt_inj (q.trans (by decide)))
    · exact c10 (g_toInt_inj (q.trans (by decide)))
    · exact c11 (g_toInt_inj (q.trans (by decide)))
    · exact c12 (g_toInt_inj (q.trans (by decide)))
    · exact c13 (g_toInt_inj (q.trans (by decide)))
    · exact c14 (g_toInt_inj (q.trans (by decide)))
    · exact c15 (g_toInt_inj (q.trans (by decide)))
    · exact c16 (g_toInt_inj (q.trans (by decide)))
    · exact c17 (g_toInt_inj (q.trans (by decide)))
    · exact c18 (g_toInt_inj (q.trans (by decide)))
    · exact c19 (g_toInt_inj (q.trans (by decide)))
    · exact c20 (g_toInt_inj (q.trans (by decide)))
    · exact c21 (g_toInt_inj (q.trans (by decide)))
    · exact c22 (g_toInt_inj (q.trans (by decide)))
    · exact c23 (g_toInt_inj (q.trans (by decide)))
    · exact c24 (g_toInt_inj (q.trans (by decide)))
    · exact c25 (g_toInt_inj (q.trans (by decide)))
    · exact c26 (g_toInt_inj (q.trans (by decide)))
    · exact c27 (g_toInt_inj (q.trans (by decide)))
    · exact c28 (g_toInt_inj (q.trans (by decide)))
    · exact c29 (g_toInt_inj (q.trans (by decide)))
    · exact c30 (g_toInt_inj (q.trans (by decide)))
    · exact c31 (g_toInt_inj (q.trans (by decide)))
    · exact c32 (g_toInt_inj (q.trans (by decide)))
    · exact c33 (g_toInt_inj (q.trans (by decide)))
    · exact c34 (g_toInt_inj (q.trans (by decide)))
    · exact c35 (g_toInt_inj (q.trans (by decide)))
    · exact c36 (g_toInt_inj (q.trans (by decide)))
    · exact c37 (g_toInt_inj (q.trans (by decide)))
    · exact c38 (g_toInt_inj (q.trans (by decide)))
    · exact c39 (g_toInt_inj (q.trans (by decide)))
    · exact c40 (g_toInt_inj (q.trans (by decide)))
    · exact c41 (g_toInt_inj (q.trans (by decide)))
    · exact c42 (g_toInt_inj (q.trans (by decide)))
    · exact c43 (g_toInt_inj (q.trans (by decide)))
    · exact c44 (g_toInt_inj (q.trans (by decide)))
    · exact c45 (g_toInt_inj (q.trans (by decide)))
    · exact c46 (g_toInt_inj (q.trans (by decide)))
    · exact c47 (g_toInt_inj (q.trans (by decide)))
    · exact c48 (g_toInt_inj (q.trans (by decide)))
    · exact c49 (g_toInt_inj (q.trans (by decide)))
    · exact c50 (g_toInt_inj (q.trans (by decide)))
    · exact c51 (g_toInt_inj (q.trans (by decide)))
  · cases hf
    refine W.widen (k := cells + 3) (n := slots + 18) (by omega) (by omega) ?_
    exact kk _ _ _ M hl
def f_run (L : Nat) (xs : Nat → Int32) : Nat → Nat → gM → Int64 → UInt64 → Option Unit
  | 0, _, _, _, _ => none
  | n + 1, t, σ, lo, dd => if L < 4 * t + 4 then some () else
    bd3 (f_T σ lo dd (xs (4 * t)) (xs (4 * t + 1)) (xs (4 * t + 2)) (xs (4 * t + 3))) fun σ lo dd => f_run L xs n (t + 1) σ lo dd
theorem g_nIt {t : Nat} (h : t ≤ 4096) : (nI t).toInt = t := by
  unfold nI
  rw [Int32.toInt_ofNat_of_lt (by omega)]
theorem g_nIc {t : Nat} (h : t ≤ 4096) : (nI t).toNatClampNeg = t := by
  rw [Int32.toNatClampNeg, g_nIt h]
  rfl
theorem g_vin {t L : Nat} (h : t ≤ 4096) (hL : t < L) : vp_in (nI t) L := by
  unfold vp_in
  rw [g_nIc h]
  intro q
  rcases q with q | q
  · rw [Int32.lt_iff_toInt_lt, g_nIt h] at q
    simp at q
    omega
  · omega
theorem g_nIadd {t j : Nat} (h : t + j ≤ 4096) : nI t + nI j = nI (t + j) := by
  apply g_toInt_inj
  rw [Int32.toInt_add, g_nIt (by omega), g_nIt (by omega), g_nIt h]
  unfold Int.bmod
  dsimp only
  split <;> omega
theorem g_nIsub {t j : Nat} (h : t ≤ 4096) (hj : j ≤ 4096) : (nI t - nI j).toInt = (t : Int) - j := by
  rw [Int32.toInt_sub, g_nIt h, g_nIt hj]
  unfold Int.bmod
  dsimp only
  split <;> omega
set_option maxHeartbeats 400000 in
set_option maxRecDepth 100000 in
theorem law_loop {p : Program} {l : Launch} {e : Env} {s : State} {m : MethodId} {args : Array Value} {below : List Frame} {meth : Method} {c : Code} {Q : State → Prop} {G : gT} {b L : Nat} {xs : Nat → Int32} (hL : L ≤ 2048) (hfl : l.stackTraces = false) (S : CallFix p m c cL_law 9 s args gTs "ParcelDepotLaw") (C0 : gCST G (gAA G s.heap.size) s) (hX : va_X b L xs s s.heap) (hbl : b < s.heap.size) (hbA : ¬ gAA G s.heap.size b) {c0 s0 : Nat} (hc : c0 + 3 * 512 ≤ room_1.cells) (hs : s0 + 18 * 512 ≤ room_1.slots)
    (kend : ∀ (σ : gM) (lo : Int64) (dd : UInt64) (H : Heap) (locs : List Loc) (ls : Array Slot), gMS G (gAA G s.heap.size) lo dd σ s H locs → W p l e room_1 s m args below meth c H locs (c0 + 3 * 512) (s0 + 18 * 512) Q (F0 m 2770 ls [])) :
    ∀ (n t : Nat) (σ : gM) (lo : Int64) (dd : UInt64), t ≤ 512 → f_run L xs n t σ lo dd = some () → ∀ (H : Heap) (locs : List Loc) (ls : Array Slot), gMS G (gAA G s.heap.size) lo dd σ s H locs → lv_has ls 9 [(0, .ref b), (1, .ref (G.1 0)), (2, .ref (G.1 219)), (3, .ref (G.1 228)), (4, .ref (G.1 229)), (5, .int (nI (4 * t)))] → W p l e room_1 s m args below meth c H locs (c0 + 3 * t) (s0 + 18 * t) Q (F0 m 28 ls []) := by
  have hx := S.1
  have hb := S.2.1
  intro n
  induction n with
  | zero =>
    intro t σ lo dd _ hf
    cases hf
  | succ n ih =>
    intro t σ lo dd ht hf H locs ls M hl
    rw [f_run] at hf
    refine lv_iload hx hb dL_law_28 (lv_at hl 5 rfl) ?_
    refine lv_aload_n hx hb dL_law_30 rfl (lv_at hl 0 rfl) ?_
    refine va_slen hx hb hX hbl hbA M.2.2.2 dL_law_31 ?_
    refine lv_iconst (v := 4) hx hb dL_law_32 (by decide) ?_
    refine lv_isub hx hb dL_law_33 ?_
    have e4 : (Int32.ofNat L - 4 : Int32).toInt = (L : Int) - 4 := g_nIsub (t := L) (j := 4) (by omega) (by decide)
    have e5 : (nI (4 * t)).toInt = ((4 * t : Nat) : Int) := g_nIt (by omega)
    refine lv_icmp_gt (tgt := 2770) hx hb dL_law_34 (by decide) (fun c1 => ?_) (fun c1 => ?_)
    · refine W.widen (k := c0 + 3 * 512) (n := s0 + 18 * 512) (by omega) (by omega) ?_
      exact kend σ lo dd H locs ls M
    · rw [Int32.lt_iff_toInt_lt, e4, e5] at c1
      have h4 : 4 * t + 4 ≤ L := by omega
      have hf := it_n (show ¬ L < 4 * t + 4 by omega) hf
      obtain ⟨σ2, lo2, dd2, h9, hf⟩ := bd3_x hf
      have a1 : nI (4 * t) + 1 = nI (4 * t + 1) := g_nIadd (j := 1) (by omega)
      have a2 : nI (4 * t) + 2 = nI (4 * t + 2) := g_nIadd (j := 2) (by omega)
      have a3 : nI (4 * t) + 3 = nI (4 * t + 3) := g_nIadd (j := 3) (by omega)
      have h9 : f_T σ lo dd (xs (nI (4 * t)).toNatClampNeg) (xs (nI (4 * t) + 1).toNatClampNeg) (xs (nI (4 * t) + 2).toNatClampNeg) (xs (nI (4 * t) + 3).toNatClampNeg) = some (σ2, lo2, dd2) := by
        rw [a1, a2, a3, g_nIc (by omega), g_nIc (by omega), g_nIc (by omega), g_nIc (by omega)]
        exact h9
      refine t_turn hfl S C0 hX hbl hbA (g_vin (by omega) (by omega)) (by rw [a1]; exact g_vin (by omega) (by omega)) (by rw [a2]; exact g_vin (by omega) (by omega)) (by rw [a3]; exact g_vin (by omega) (by omega)) (by omega) (by omega) h9 H locs ls M hl (fun H locs ls M hl => ?_)
      refine lv_iinc (v := nI (4 * (t + 1))) (lv' := [(5, .int (nI (4 * (t + 1)))), (0, .ref b), (1, .ref (G.1 0)), (2, .ref (G.1 219)), (3, .ref (G.1 228)), (4, .ref (G.1 229))]) hx hb dL_law_2764 hl (k := 5) rfl (g_nIadd (t := 4 * t) (j := 4) (by omega)) (by decide) rfl (fun ls hl => ?_)
      refine lv_goto (tgt := 28) hx hb dL_law_2767 (by decide) ?_
      exact ih (t + 1) σ2 lo2 dd2 (by omega) hf H locs ls M (lv_sub hl [1, 2, 3, 4, 5, 0] rfl)
