set_option maxHeartbeats 20000000 in
set_option maxRecDepth 100000 in
theorem law_walk {p : Program} {l : Launch} {e : Env} {s : State} {m : MethodId} {args : Array Value} {below : List Frame} {meth : Method} {c : Code} {Q : State → Prop} {B : gB} {H : Heap} {locs : List Loc} {ls : Array Slot} (hfl : l.stackTraces = false) (S : CallFix p m c cL_law 10 s args gTs RL) (M : lM B [] s H locs) (Cs : lCs B s) (Cx : lCx B s) (hl : lv_has ls 10 [(0, .ref (gtX (lz B) 2))]) (hf : f_law (gtX (lz B) 3) (gtI (lz B)) = some ()) (kend : ∀ (B : gB) (Ds : lDs) (H : Heap) (locs : List Loc) (ls : Array Slot), lM B Ds s H locs → W p l e room_1 s m args below meth c H locs 9491 62488 Q (F0 m 1312 ls [.int 1])) : W p l e room_1 s m args below meth c H locs 0 0 Q (F0 m 0 ls []) := by
  have hx := S.1
  have hb := S.2.1
  unfold f_law at hf
  refine lv_aload_n hx hb dL_law_0 rfl (lv_at hl 0 rfl) ?_
  obtain ⟨σ1, h2, hf⟩ := bd_x hf
  refine l_build (index := 145) (cells' := 627) (slots' := 4821) hfl S M Cs hl h2 tw_5_149 tw_5_148 rfl rfl rfl dL_law_1 rfl rfl (fun A0 H locs M => ?_)
  have M : lM B [(A0, σ1)] s H locs := M
  refine lv_astore_n (lv' := [(1, .ref (A0 0)), (0, .ref (gtX (lz B) 2))]) hx hb dL_law_4 rfl hl (by decide) rfl (fun ls hl => ?_)
  refine lv_aload_n hx hb dL_law_5 rfl (lv_at hl 1 rfl) ?_
  obtain ⟨σ3, h4, hf⟩ := bd_x hf
  refine l_build (index := 145) (cells' := 1254) (slots' := 9642) hfl S M Cs hl h4 tw_5_149 tw_5_148 rfl rfl rfl dL_law_6 rfl rfl (fun A1 H locs M => ?_)
  have M : lM B [(A0, σ1), (A1, σ3)] s H locs := M
  refine lv_astore_n (lv' := [(2, .ref (A1 0)), (1, .ref (A0 0)), (0, .ref (gtX (lz B) 2))]) hx hb dL_law_9 rfl hl (by decide) rfl (fun ls hl => ?_)
  refine lv_aload_n hx hb dL_law_10 rfl (lv_at hl 1 rfl) ?_
  obtain ⟨r6, σ7, h5, hf⟩ := bd2_x hf
  refine l_runR (k := 0) (st1 := [.int r6]) (cells' := 1254) (slots' := 9642) (Ds' := [(A0, σ7), (A1, σ3)]) M rfl (l_invV (k := 0) (index := 149) S M Cs rfl hl (c_X12_save l (A0, B) H.size 0 0 σ1  h5) k_X12_save tw_5_115 tw_5_116 tw_5_114 rfl rfl rfl rfl rfl rfl dL_law_11) rfl rfl rfl rfl (fun H locs M => ?_)
  refine lv_istore_n (lv' := [(3, .int r6), (2, .ref (A1 0)), (1, .ref (A0 0)), (0, .ref (gtX (lz B) 2))]) hx hb dL_law_14 rfl hl (by decide) rfl (fun ls hl => ?_)
  refine lv_aload_n hx hb dL_law_15 rfl (lv_at hl 2 rfl) ?_
  obtain ⟨r9, h8, hf⟩ := bd_x hf
  refine l_runR (k := 0) (st1 := [.int r9]) (cells' := 2010) (slots' := 14178) (Ds' := [(A0, σ7), (A1, σ3)]) M rfl (l_invS (k := 0) (index := 152) S M Cs rfl hl (c_L_state l hfl (A0, B) H.size 0 0 σ7  h8) k_L_state tw_5_193 tw_5_192 rfl rfl rfl rfl dL_law_16) rfl rfl rfl rfl (fun H locs M => ?_)
  refine lv_istore (lv' := [(4, .int r9), (3, .int r6), (2, .ref (A1 0)), (1, .ref (A0 0)), (0, .ref (gtX (lz B) 2))]) hx hb dL_law_19 hl (by decide) rfl (fun ls hl => ?_)
  refine lv_aload_n hx hb dL_law_21 rfl (lv_at hl 3 rfl) ?_
  refine lv_iconst (v := 0) hx hb dL_law_22 (by decide) ?_
  obtain ⟨r11, h10, hf⟩ := btn_x hf
  refine l_runR (k := 0) (st1 := [.int r11]) (cells' := 2011) (slots' := 14184) (Ds' := [(A0, σ7), (A1, σ3)]) M rfl (l_invV (k := 0) (index := 134) S M Cs rfl hl (c_X12_place l hfl (A0, B) H.size 0 0 σ7 0 h10) k_X12_place tw_4_43 tw_4_44 tw_4_42 rfl rfl rfl rfl rfl rfl dL_law_23) rfl rfl rfl rfl (fun H locs M => ?_)
  refine lv_iconst (v := 1) hx hb dL_law_26 (by decide) ?_
  obtain ⟨x13, hj14, hf⟩ := bd_x hf
  refine l_join (J := 35) (st := [.int x13]) (CJ := 2011) (SJ := 14184) (P := fun H locs ls => lM B [(A0, σ7), (A1, σ3)] s H locs ∧ lv_has ls 10 [(4, .int r9), (3, .int r6), (2, .ref (A1 0)), (1, .ref (A0 0)), (0, .ref (gtX (lz B) 2))]) (fun H locs ls hPJ => ?_) (fun kJ => ?_)
  · obtain ⟨M, hl⟩ := hPJ
    refine lv_istore (lv' := [(5, .int x13), (4, .int r9), (3, .int r6), (2, .ref (A1 0)), (1, .ref (A0 0)), (0, .ref (gtX (lz B) 2))]) hx hb dL_law_35 hl (by decide) rfl (fun ls hl => ?_)
    refine lv_aload_n hx hb dL_law_37 rfl (lv_at hl 4 rfl) ?_
    refine l_sbNew (i0 := 155) (i4 := 157) (cells' := 2013) (slots' := 14204) S M Cs Cx hl tw_6_10 tw_6_11 tw_1_25 tw_6_13 tw_6_12 rfl rfl dL_law_38 dL_law_41 dL_law_42 rfl rfl (fun q15 stq15 H locs M => ?_)
    refine l_sbS (k := 16) (i0 := 158) (i1 := 160) (cp' := 42) (text := "carry 0 ") (cells' := 2014) (slots' := 14246) (tx' := [] ++ (gByt.getD 16 [])) S M Cs Cx hl (by decide) (by decide) rfl tw_1_25 tw_6_41 tw_6_42 tw_6_40 rfl (Nat.le_of_ble_eq_true rfl) (by decide) rfl dL_law_45 dL_law_47 rfl rfl rfl (fun H locs M => ?_)
    refine lv_iload hx hb dL_law_50 (lv_at hl 0 rfl) ?_
    obtain ⟨h16, hf⟩ := gi_x hf
    refine l_sbI (i1 := 164) (cp' := 95) (cells' := 2015) (slots' := 14341) (tx' := ([] ++ (gByt.getD 16 [])) ++ [x13 + 48]) S M Cs Cx hl h16 tw_1_25 tw_6_136 tw_6_137 tw_6_135 rfl (Nat.le_of_ble_eq_true rfl) (by decide) rfl dL_law_52 rfl rfl rfl (fun H locs M => ?_)
    refine l_sbS (k := 17) (i0 := 167) (i1 := 160) (cp' := 210) (text := ";carry 0 ") (cells' := 2016) (slots' := 14551) (tx' := (([] ++ (gByt.getD 16 [])) ++ [x13 + 48]) ++ (gByt.getD 17 [])) S M Cs Cx hl (by decide) (by decide) rfl tw_1_25 tw_6_41 tw_6_42 tw_6_40 rfl (Nat.le_of_ble_eq_true rfl) (by decide) rfl dL_law_55 dL_law_57 rfl rfl rfl (fun H locs M => ?_)
    refine lv_iconst (v := 1) hx hb dL_law_60 (by decide) ?_
    refine lv_iload hx hb dL_law_61 (lv_at hl 0 rfl) ?_
    refine lv_isub hx hb dL_law_63 ?_
    obtain ⟨h17, hf⟩ := gi_x hf
    refine l_sbI (i1 := 164) (cp' := 441) (cells' := 2017) (slots' := 14992) (tx' := ((([] ++ (gByt.getD 16 [])) ++ [x13 + 48]) ++ (gByt.getD 17 [])) ++ [(1 - x13) + 48]) S M Cs Cx hl h17 tw_1_25 tw_6_136 tw_6_137 tw_6_135 rfl (Nat.le_of_ble_eq_true rfl) (by decide) rfl dL_law_64 rfl rfl rfl (fun H locs M => ?_)
    obtain ⟨t18, et18, hf⟩ := nm_x hf
    obtain ⟨h19, hf⟩ := gb_x hf
    refine l_sbEnd (i1 := 169) (t := t18) (cells' := 2019) (slots' := 15437) S M Cs Cx hl et18 h19 (by decide) tw_1_25 tw_6_161 tw_6_162 tw_6_160 rfl rfl dL_law_67 rfl rfl (fun q20 v21 H locs hs22 M => ?_)
    have M : lM (lBs B (q20, v21, t18)) [(A0, σ7), (A1, σ3)] s H locs := M
    have Cs : lCs (lBs B (q20, v21, t18)) s := Cs
    have Cx : lCx (lBs B (q20, v21, t18)) s := Cx
    obtain ⟨σ24, h23, hf⟩ := bd_x hf
    refine l_runR (k := 0) (st1 := []) (cells' := 2089) (slots' := 15857) (Ds' := [(A0, σ24), (A1, σ3)]) M rfl (l_invS (k := 0) (index := 173) S M Cs rfl hl (c_L_put l hfl (A0, lBs B (q20, v21, t18)) H.size 0 0 σ7 (hs22 A0) h23) k_L_put tw_5_132 tw_5_131 rfl rfl rfl rfl dL_law_70) rfl rfl rfl rfl (fun H locs M => ?_)
    refine lv_aload_n hx hb dL_law_73 rfl (lv_at hl 4 rfl) ?_
    obtain ⟨r26, σ27, h25, hf⟩ := btn2_x hf
    refine l_runR (k := 0) (st1 := [.int r26]) (cells' := 2090) (slots' := 15863) (Ds' := [(A0, σ27), (A1, σ3)]) M rfl (l_invV (k := 0) (index := 176) S M Cs rfl hl (c_X12_runCommands l hfl (A0, lBs B (q20, v21, t18)) H.size 0 0 σ24  h25) k_X12_runCommands tw_4_174 tw_4_175 tw_4_173 rfl rfl rfl rfl rfl rfl dL_law_74) rfl rfl rfl rfl (fun H locs M => ?_)
    refine lv_iconst (v := 2) hx hb dL_law_77 (by decide) ?_
    refine lv_icmp_ne (tgt := 114) hx hb dL_law_78 (by decide) (fun c28 => ?_) (fun c28 => ?_)
    · exact absurd (gtc_x hf).1 c28
    · obtain ⟨-, hf⟩ := gtc_x hf
      refine lv_aload_n hx hb dL_law_81 rfl (lv_at hl 3 rfl) ?_
      refine lv_iconst (v := 0) hx hb dL_law_82 (by decide) ?_
      refine lv_iload hx hb dL_law_83 (lv_at hl 0 rfl) ?_
      obtain ⟨r30, σ31, h29, hf⟩ := btn2_x hf
      refine l_runR (k := 1) (st1 := [.int r30]) (cells' := 2091) (slots' := 15869) (Ds' := [(A0, σ27), (A1, σ31)]) M rfl (l_invV (k := 1) (index := 63) S M Cs rfl hl (c_X12_carry l hfl (A1, lBs B (q20, v21, t18)) H.size 0 0 σ3 0 x13 h29) k_X12_carry tw_3_79 tw_3_80 tw_3_78 rfl rfl rfl rfl rfl rfl dL_law_85) rfl rfl rfl rfl (fun H locs M => ?_)
      refine lv_if_lt (tgt := 114) hx hb dL_law_88 (by decide) (fun c32 => ?_) (fun c32 => ?_)
      · exact absurd c32 (gfc_x hf).1
      · obtain ⟨-, hf⟩ := gfc_x hf
        refine lv_aload_n hx hb dL_law_91 rfl (lv_at hl 3 rfl) ?_
        refine lv_iconst (v := 0) hx hb dL_law_92 (by decide) ?_
        refine lv_iconst (v := 1) hx hb dL_law_93 (by decide) ?_
        refine lv_iload hx hb dL_law_94 (lv_at hl 0 rfl) ?_
        refine lv_isub hx hb dL_law_96 ?_
        obtain ⟨r34, σ35, h33, hf⟩ := btn2_x hf
        refine l_runR (k := 1) (st1 := [.int r34]) (cells' := 2092) (slots' := 15875) (Ds' := [(A0, σ27), (A1, σ35)]) M rfl (l_invV (k := 1) (index := 63) S M Cs rfl hl (c_X12_carry l hfl (A1, lBs B (q20, v21, t18)) H.size 0 0 σ31 0 (1 - x13) h33) k_X12_carry tw_3_79 tw_3_80 tw_3_78 rfl rfl rfl rfl rfl rfl dL_law_97) rfl rfl rfl rfl (fun H locs M => ?_)
        refine lv_if_lt (tgt := 114) hx hb dL_law_100 (by decide) (fun c36 => ?_) (fun c36 => ?_)
        · exact absurd c36 (gfc_x hf).1
        · obtain ⟨-, hf⟩ := gfc_x hf
          refine lv_aload_n hx hb dL_law_103 rfl (lv_at hl 4 rfl) ?_
          obtain ⟨r38, h37, hf⟩ := bd_x hf
          refine l_runR (k := 0) (st1 := [.int r38]) (cells' := 2848) (slots' := 20411) (Ds' := [(A0, σ27), (A1, σ35)]) M rfl (l_invS (k := 0) (index := 152) S M Cs rfl hl (c_L_state l hfl (A0, lBs B (q20, v21, t18)) H.size 0 0 σ27  h37) k_L_state tw_5_193 tw_5_192 rfl rfl rfl rfl dL_law_104) rfl rfl rfl rfl (fun H locs M => ?_)
          refine lv_aload_n hx hb dL_law_107 rfl (lv_at hl 3 rfl) ?_
          obtain ⟨r40, h39, hf⟩ := bd_x hf
          refine l_runR (k := 1) (st1 := [.int r40, .int r38]) (cells' := 3604) (slots' := 24947) (Ds' := [(A0, σ27), (A1, σ35)]) M rfl (l_invS (k := 1) (index := 152) S M Cs rfl hl (c_L_state l hfl (A1, lBs B (q20, v21, t18)) H.size 0 0 σ35  h39) k_L_state tw_5_193 tw_5_192 rfl rfl rfl rfl dL_law_108) rfl rfl rfl rfl (fun H locs M => ?_)
          refine lv_icmp_eq (tgt := 116) hx hb dL_law_111 (by decide) (fun c41 => ?_) (fun c41 => ?_)
          · obtain ⟨-, hf⟩ := gtc_x hf
            refine lv_aload_n hx hb dL_law_116 rfl (lv_at hl 4 rfl) ?_
            obtain ⟨r43, σ44, h42, hf⟩ := btn2_x hf
            refine l_runR (k := 0) (st1 := [.int r43]) (cells' := 3605) (slots' := 24953) (Ds' := [(A0, σ44), (A1, σ35)]) M rfl (l_invV (k := 0) (index := 179) S M Cs rfl hl (c_X12_undo l hfl (A0, lBs B (q20, v21, t18)) H.size 0 0 σ27  h42) k_X12_undo tw_5_102 tw_5_103 tw_5_101 rfl rfl rfl rfl rfl rfl dL_law_117) rfl rfl rfl rfl (fun H locs M => ?_)
            refine lv_if_lt (tgt := 155) hx hb dL_law_120 (by decide) (fun c45 => ?_) (fun c45 => ?_)
            · exact absurd c45 (gfc_x hf).1
            · obtain ⟨-, hf⟩ := gfc_x hf
              refine lv_aload_n hx hb dL_law_123 rfl (lv_at hl 4 rfl) ?_
              obtain ⟨r47, h46, hf⟩ := bd_x hf
              refine l_runR (k := 0) (st1 := [.int r47]) (cells' := 4361) (slots' := 29489) (Ds' := [(A0, σ44), (A1, σ35)]) M rfl (l_invS (k := 0) (index := 152) S M Cs rfl hl (c_L_state l hfl (A0, lBs B (q20, v21, t18)) H.size 0 0 σ44  h46) k_L_state tw_5_193 tw_5_192 rfl rfl rfl rfl dL_law_124) rfl rfl rfl rfl (fun H locs M => ?_)
              refine lv_iload hx hb dL_law_127 (lv_at hl 1 rfl) ?_
              refine lv_icmp_ne (tgt := 155) hx hb dL_law_129 (by decide) (fun c48 => ?_) (fun c48 => ?_)
              · exact absurd (gtc_x hf).1 c48
              · obtain ⟨-, hf⟩ := gtc_x hf
                refine lv_aload_n hx hb dL_law_132 rfl (lv_at hl 3 rfl) ?_
                obtain ⟨r50, σ51, h49, hf⟩ := btn2_x hf
                refine l_runR (k := 1) (st1 := [.int r50]) (cells' := 4362) (slots' := 29495) (Ds' := [(A0, σ44), (A1, σ51)]) M rfl (l_invV (k := 1) (index := 179) S M Cs rfl hl (c_X12_undo l hfl (A1, lBs B (q20, v21, t18)) H.size 0 0 σ35  h49) k_X12_undo tw_5_102 tw_5_103 tw_5_101 rfl rfl rfl rfl rfl rfl dL_law_133) rfl rfl rfl rfl (fun H locs M => ?_)
                refine lv_if_lt (tgt := 155) hx hb dL_law_136 (by decide) (fun c52 => ?_) (fun c52 => ?_)
                · exact absurd c52 (gfc_x hf).1
                · obtain ⟨-, hf⟩ := gfc_x hf
                  refine lv_aload_n hx hb dL_law_139 rfl (lv_at hl 3 rfl) ?_
                  obtain ⟨r54, σ55, h53, hf⟩ := btn2_x hf
                  refine l_runR (k := 1) (st1 := [.int r54]) (cells' := 4363) (slots' := 29501) (Ds' := [(A0, σ44), (A1, σ55)]) M rfl (l_invV (k := 1) (index := 179) S M Cs rfl hl (c_X12_undo l hfl (A1, lBs B (q20, v21, t18)) H.size 0 0 σ51  h53) k_X12_undo tw_5_102 tw_5_103 tw_5_101 rfl rfl rfl rfl rfl rfl dL_law_140) rfl rfl rfl rfl (fun H locs M => ?_)
                  refine lv_if_lt (tgt := 155) hx hb dL_law_143 (by decide) (fun c56 => ?_) (fun c56 => ?_)
                  · exact absurd c56 (gfc_x hf).1
                  · obtain ⟨-, hf⟩ := gfc_x hf
                    refine lv_aload_n hx hb dL_law_146 rfl (lv_at hl 3 rfl) ?_
                    obtain ⟨r58, h57, hf⟩ := bd_x hf
                    refine l_runR (k := 1) (st1 := [.int r58]) (cells' := 5119) (slots' := 34037) (Ds' := [(A0, σ44), (A1, σ55)]) M rfl (l_invS (k := 1) (index := 152) S M Cs rfl hl (c_L_state l hfl (A1, lBs B (q20, v21, t18)) H.size 0 0 σ55  h57) k_L_state tw_5_193 tw_5_192 rfl rfl rfl rfl dL_law_147) rfl rfl rfl rfl (fun H locs M => ?_)
                    refine lv_iload hx hb dL_law_150 (lv_at hl 1 rfl) ?_
                    refine lv_icmp_eq (tgt := 157) hx hb dL_law_152 (by decide) (fun c59 => ?_) (fun c59 => ?_)
                    · obtain ⟨-, hf⟩ := gtc_x hf
                      refine lv_aload_n hx hb dL_law_157 rfl (lv_at hl 4 rfl) ?_
                      refine l_sbNew (i0 := 155) (i4 := 157) (cells' := 5121) (slots' := 34057) S M Cs Cx hl tw_6_10 tw_6_11 tw_1_25 tw_6_13 tw_6_12 rfl rfl dL_law_158 dL_law_161 dL_law_162 rfl rfl (fun q60 stq60 H locs M => ?_)
                      refine l_sbS (k := 16) (i0 := 158) (i1 := 160) (cp' := 42) (text := "carry 0 ") (cells' := 5122) (slots' := 34099) (tx' := [] ++ (gByt.getD 16 [])) S M Cs Cx hl (by decide) (by decide) rfl tw_1_25 tw_6_41 tw_6_42 tw_6_40 rfl (Nat.le_of_ble_eq_true rfl) (by decide) rfl dL_law_165 dL_law_167 rfl rfl rfl (fun H locs M => ?_)
                      refine lv_iload hx hb dL_law_170 (lv_at hl 0 rfl) ?_
                      obtain ⟨h61, hf⟩ := gi_x hf
                      refine l_sbI (i1 := 164) (cp' := 95) (cells' := 5123) (slots' := 34194) (tx' := ([] ++ (gByt.getD 16 [])) ++ [x13 + 48]) S M Cs Cx hl h61 tw_1_25 tw_6_136 tw_6_137 tw_6_135 rfl (Nat.le_of_ble_eq_true rfl) (by decide) rfl dL_law_172 rfl rfl rfl (fun H locs M => ?_)
                      refine l_sbS (k := 18) (i0 := 182) (i1 := 160) (cp' := 212) (text := ";road 2-2 1") (cells' := 5124) (slots' := 34406) (tx' := (([] ++ (gByt.getD 16 [])) ++ [x13 + 48]) ++ (gByt.getD 18 [])) S M Cs Cx hl (by decide) (by decide) rfl tw_1_25 tw_6_41 tw_6_42 tw_6_40 rfl (Nat.le_of_ble_eq_true rfl) (by decide) rfl dL_law_175 dL_law_177 rfl rfl rfl (fun H locs M => ?_)
                      obtain ⟨t62, et62, hf⟩ := nm_x hf
                      obtain ⟨h63, hf⟩ := gb_x hf
                      refine l_sbEnd (i1 := 169) (t := t62) (cells' := 5126) (slots' := 34622) S M Cs Cx hl et62 h63 (by decide) tw_1_25 tw_6_161 tw_6_162 tw_6_160 rfl rfl dL_law_180 rfl rfl (fun q64 v65 H locs hs66 M => ?_)
                      have M : lM (lBs (lBs B (q20, v21, t18)) (q64, v65, t62)) [(A0, σ44), (A1, σ55)] s H locs := M
                      have Cs : lCs (lBs (lBs B (q20, v21, t18)) (q64, v65, t62)) s := Cs
                      have Cx : lCx (lBs (lBs B (q20, v21, t18)) (q64, v65, t62)) s := Cx
                      obtain ⟨σ68, h67, hf⟩ := bd_x hf
                      refine l_runR (k := 0) (st1 := []) (cells' := 5196) (slots' := 35042) (Ds' := [(A0, σ68), (A1, σ55)]) M rfl (l_invS (k := 0) (index := 173) S M Cs rfl hl (c_L_put l hfl (A0, lBs (lBs B (q20, v21, t18)) (q64, v65, t62)) H.size 0 0 σ44 (hs66 A0) h67) k_L_put tw_5_132 tw_5_131 rfl rfl rfl rfl dL_law_183) rfl rfl rfl rfl (fun H locs M => ?_)
                      refine lv_aload_n hx hb dL_law_186 rfl (lv_at hl 4 rfl) ?_
                      obtain ⟨r70, σ71, h69, hf⟩ := bd2_x hf
                      refine l_runR (k := 0) (st1 := [.int r70]) (cells' := 5197) (slots' := 35048) (Ds' := [(A0, σ71), (A1, σ55)]) M rfl (l_invW (k := 0) (index := 184) S M Cs rfl hl (c_L_runs l hfl (A0, lBs (lBs B (q20, v21, t18)) (q64, v65, t62)) H.size 0 0 σ68  h69) k_L_runs tw_6_1 tw_6_0 rfl rfl rfl rfl dL_law_187) rfl rfl rfl rfl (fun H locs M => ?_)
                      refine lv_bipush (v := (-2)) hx hb dL_law_190 (by decide) ?_
                      refine lv_icmp_ne (tgt := 212) hx hb dL_law_192 (by decide) (fun c72 => ?_) (fun c72 => ?_)
                      · exact absurd (gtc_x hf).1 c72
                      · obtain ⟨-, hf⟩ := gtc_x hf
                        refine lv_aload_n hx hb dL_law_195 rfl (lv_at hl 4 rfl) ?_
                        obtain ⟨r74, h73, hf⟩ := btn_x hf
                        refine l_runR (k := 0) (st1 := [.int r74]) (cells' := 5198) (slots' := 35054) (Ds' := [(A0, σ71), (A1, σ55)]) M rfl (l_invV (k := 0) (index := 187) S M Cs rfl hl (c_X12_failedCommand l hfl (A0, lBs (lBs B (q20, v21, t18)) (q64, v65, t62)) H.size 0 0 σ71  h73) k_X12_failedCommand tw_5_69 tw_5_70 tw_5_68 rfl rfl rfl rfl rfl rfl dL_law_196) rfl rfl rfl rfl (fun H locs M => ?_)
                        refine lv_iconst (v := 1) hx hb dL_law_199 (by decide) ?_
                        refine lv_icmp_ne (tgt := 212) hx hb dL_law_200 (by decide) (fun c75 => ?_) (fun c75 => ?_)
                        · exact absurd (gtc_x hf).1 c75
                        · obtain ⟨-, hf⟩ := gtc_x hf
                          refine lv_aload_n hx hb dL_law_203 rfl (lv_at hl 4 rfl) ?_
                          obtain ⟨r77, h76, hf⟩ := bd_x hf
                          refine l_runR (k := 0) (st1 := [.int r77]) (cells' := 5954) (slots' := 39590) (Ds' := [(A0, σ71), (A1, σ55)]) M rfl (l_invS (k := 0) (index := 152) S M Cs rfl hl (c_L_state l hfl (A0, lBs (lBs B (q20, v21, t18)) (q64, v65, t62)) H.size 0 0 σ71  h76) k_L_state tw_5_193 tw_5_192 rfl rfl rfl rfl dL_law_204) rfl rfl rfl rfl (fun H locs M => ?_)
                          refine lv_iload hx hb dL_law_207 (lv_at hl 1 rfl) ?_
                          refine lv_icmp_eq (tgt := 214) hx hb dL_law_209 (by decide) (fun c78 => ?_) (fun c78 => ?_)
                          · obtain ⟨-, hf⟩ := gtc_x hf
                            refine lv_aload_n hx hb dL_law_214 rfl (lv_at hl 4 rfl) ?_
                            refine va_ldcS hx hb S.2.2.2.1 (show vk_R "ParcelDepotLaw" 190 "glove 4" (gtK (lz B) 19) s from Cs.2.2.1 19 (by decide)) dL_law_215 ?_
                            obtain ⟨σ80, h79, hf⟩ := bd_x hf
                            refine l_runR (k := 0) (st1 := []) (cells' := 6024) (slots' := 40010) (Ds' := [(A0, σ80), (A1, σ55)]) M rfl (l_invS (k := 0) (index := 173) S M Cs rfl hl (c_L_put l hfl (A0, lBs (lBs B (q20, v21, t18)) (q64, v65, t62)) H.size 0 0 σ71 (gStr_k (A0, lBs (lBs B (q20, v21, t18)) (q64, v65, t62)) (k := 19) (by decide) (by decide)) h79) k_L_put tw_5_132 tw_5_131 rfl rfl rfl rfl dL_law_217) rfl rfl rfl rfl (fun H locs M => ?_)
                            refine lv_aload_n hx hb dL_law_220 rfl (lv_at hl 4 rfl) ?_
                            obtain ⟨r82, σ83, h81, hf⟩ := bd2_x hf
                            refine l_runR (k := 0) (st1 := [.int r82]) (cells' := 6025) (slots' := 40016) (Ds' := [(A0, σ83), (A1, σ55)]) M rfl (l_invW (k := 0) (index := 184) S M Cs rfl hl (c_L_runs l hfl (A0, lBs (lBs B (q20, v21, t18)) (q64, v65, t62)) H.size 0 0 σ80  h81) k_L_runs tw_6_1 tw_6_0 rfl rfl rfl rfl dL_law_221) rfl rfl rfl rfl (fun H locs M => ?_)
                            refine lv_bipush (v := (-2)) hx hb dL_law_224 (by decide) ?_
                            refine lv_icmp_ne (tgt := 245) hx hb dL_law_226 (by decide) (fun c84 => ?_) (fun c84 => ?_)
                            · exact absurd (gtc_x hf).1 c84
                            · obtain ⟨-, hf⟩ := gtc_x hf
                              refine lv_aload_n hx hb dL_law_229 rfl (lv_at hl 4 rfl) ?_
                              obtain ⟨r86, h85, hf⟩ := btn_x hf
                              refine l_runR (k := 0) (st1 := [.int r86]) (cells' := 6026) (slots' := 40022) (Ds' := [(A0, σ83), (A1, σ55)]) M rfl (l_invV (k := 0) (index := 187) S M Cs rfl hl (c_X12_failedCommand l hfl (A0, lBs (lBs B (q20, v21, t18)) (q64, v65, t62)) H.size 0 0 σ83  h85) k_X12_failedCommand tw_5_69 tw_5_70 tw_5_68 rfl rfl rfl rfl rfl rfl dL_law_230) rfl rfl rfl rfl (fun H locs M => ?_)
                              refine lv_if_ne (tgt := 245) hx hb dL_law_233 (by decide) (fun c87 => ?_) (fun c87 => ?_)
                              · exact absurd (gtc_x hf).1 c87
                              · obtain ⟨-, hf⟩ := gtc_x hf
                                refine lv_aload_n hx hb dL_law_236 rfl (lv_at hl 4 rfl) ?_
                                obtain ⟨r89, h88, hf⟩ := bd_x hf
                                refine l_runR (k := 0) (st1 := [.int r89]) (cells' := 6782) (slots' := 44558) (Ds' := [(A0, σ83), (A1, σ55)]) M rfl (l_invS (k := 0) (index := 152) S M Cs rfl hl (c_L_state l hfl (A0, lBs (lBs B (q20, v21, t18)) (q64, v65, t62)) H.size 0 0 σ83  h88) k_L_state tw_5_193 tw_5_192 rfl rfl rfl rfl dL_law_237) rfl rfl rfl rfl (fun H locs M => ?_)
                                refine lv_iload hx hb dL_law_240 (lv_at hl 1 rfl) ?_
                                refine lv_icmp_eq (tgt := 247) hx hb dL_law_242 (by decide) (fun c90 => ?_) (fun c90 => ?_)
                                · obtain ⟨-, hf⟩ := gtc_x hf
                                  refine lv_aload_n hx hb dL_law_247 rfl (lv_at hl 4 rfl) ?_
                                  refine va_ldcS hx hb S.2.2.2.1 (show vk_R "ParcelDepotLaw" 192 "p" (gtK (lz B) 20) s from Cs.2.2.1 20 (by decide)) dL_law_248 ?_
                                  refine lv_iconst (v := 1) hx hb dL_law_250 (by decide) ?_
                                  obtain ⟨r92, σ93, h91, hf⟩ := bd2_x hf
                                  refine l_runR (k := 0) (st1 := [.int r92]) (cells' := 6854) (slots' := 44990) (Ds' := [(A0, σ93), (A1, σ55)]) M rfl (l_invS (k := 0) (index := 194) S M Cs rfl hl (c_L_fails l hfl (A0, lBs (lBs B (q20, v21, t18)) (q64, v65, t62)) H.size 0 0 σ83 1 (gStr_k (A0, lBs (lBs B (q20, v21, t18)) (q64, v65, t62)) (k := 20) (by decide) (by decide)) h91) k_L_fails tw_6_4 tw_6_3 rfl rfl rfl rfl dL_law_251) rfl rfl rfl rfl (fun H locs M => ?_)
                                  refine lv_if_eq (tgt := 379) hx hb dL_law_254 (by decide) (fun c94 => ?_) (fun c94 => ?_)
                                  · exact absurd c94 (gfc_x hf).1
                                  · obtain ⟨-, hf⟩ := gfc_x hf
                                    refine lv_aload_n hx hb dL_law_257 rfl (lv_at hl 4 rfl) ?_
                                    refine va_ldcS hx hb S.2.2.2.1 (show vk_R "ParcelDepotLaw" 198 "road 0-5" (gtK (lz B) 21) s from Cs.2.2.1 21 (by decide)) dL_law_258 ?_
                                    refine lv_bipush (v := 8) hx hb dL_law_260 (by decide) ?_
                                    obtain ⟨r96, σ97, h95, hf⟩ := bd2_x hf
                                    refine l_runR (k := 0) (st1 := [.int r96]) (cells' := 6926) (slots' := 45422) (Ds' := [(A0, σ97), (A1, σ55)]) M rfl (l_invS (k := 0) (index := 194) S M Cs rfl hl (c_L_fails l hfl (A0, lBs (lBs B (q20, v21, t18)) (q64, v65, t62)) H.size 0 0 σ93 8 (gStr_k (A0, lBs (lBs B (q20, v21, t18)) (q64, v65, t62)) (k := 21) (by decide) (by decide)) h95) k_L_fails tw_6_4 tw_6_3 rfl rfl rfl rfl dL_law_262) rfl rfl rfl rfl (fun H locs M => ?_)
                                    refine lv_if_eq (tgt := 379) hx hb dL_law_265 (by decide) (fun c98 => ?_) (fun c98 => ?_)
                                    · exact absurd c98 (gfc_x hf).1
                                    · obtain ⟨-, hf⟩ := gfc_x hf
                                      refine lv_aload_n hx hb dL_law_268 rfl (lv_at hl 4 rfl) ?_
                                      refine va_ldcS hx hb S.2.2.2.1 (show vk_R "ParcelDepotLaw" 200 "put 123" (gtK (lz B) 22) s from Cs.2.2.1 22 (by decide)) dL_law_269 ?_
                                      refine lv_bipush (v := 6) hx hb dL_law_271 (by decide) ?_
                                      obtain ⟨r100, σ101, h99, hf⟩ := bd2_x hf
                                      refine l_runR (k := 0) (st1 := [.int r100]) (cells' := 6998) (slots' := 45854) (Ds' := [(A0, σ101), (A1, σ55)]) M rfl (l_invS (k := 0) (index := 194) S M Cs rfl hl (c_L_fails l hfl (A0, lBs (lBs B (q20, v21, t18)) (q64, v65, t62)) H.size 0 0 σ97 6 (gStr_k (A0, lBs (lBs B (q20, v21, t18)) (q64, v65, t62)) (k := 22) (by decide) (by decide)) h99) k_L_fails tw_6_4 tw_6_3 rfl rfl rfl rfl dL_law_273) rfl rfl rfl rfl (fun H locs M => ?_)
                                      refine lv_if_eq (tgt := 379) hx hb dL_law_276 (by decide) (fun c102 => ?_) (fun c102 => ?_)
                                      · exact absurd c102 (gfc_x hf).1
                                      · obtain ⟨-, hf⟩ := gfc_x hf
                                        refine lv_aload_n hx hb dL_law_279 rfl (lv_at hl 4 rfl) ?_
                                        refine va_ldcS hx hb S.2.2.2.1 (show vk_R "ParcelDepotLaw" 202 "parcel 20 3" (gtK (lz B) 23) s from Cs.2.2.1 23 (by decide)) dL_law_280 ?_
                                        refine lv_bipush (v := 11) hx hb dL_law_282 (by decide) ?_
                                        obtain ⟨r104, σ105, h103, hf⟩ := bd2_x hf
                                        refine l_runR (k := 0) (st1 := [.int r104]) (cells' := 7070) (slots' := 46286) (Ds' := [(A0, σ105), (A1, σ55)]) M rfl (l_invS (k := 0) (index := 194) S M Cs rfl hl (c_L_fails l hfl (A0, lBs (lBs B (q20, v21, t18)) (q64, v65, t62)) H.size 0 0 σ101 11 (gStr_k (A0, lBs (lBs B (q20, v21, t18)) (q64, v65, t62)) (k := 23) (by decide) (by decide)) h103) k_L_fails tw_6_4 tw_6_3 rfl rfl rfl rfl dL_law_284) rfl rfl rfl rfl (fun H locs M => ?_)
                                        refine lv_if_eq (tgt := 379) hx hb dL_law_287 (by decide) (fun c106 => ?_) (fun c106 => ?_)
                                        · exact absurd c106 (gfc_x hf).1
                                        · obtain ⟨-, hf⟩ := gfc_x hf
                                          refine lv_aload_n hx hb dL_law_290 rfl (lv_at hl 4 rfl) ?_
                                          refine va_ldcS hx hb S.2.2.2.1 (show vk_R "ParcelDepotLaw" 204 "glove 33" (gtK (lz B) 24) s from Cs.2.2.1 24 (by decide)) dL_law_291 ?_
                                          refine lv_bipush (v := 7) hx hb dL_law_293 (by decide) ?_
                                          obtain ⟨r108, σ109, h107, hf⟩ := bd2_x hf
                                          refine l_runR (k := 0) (st1 := [.int r108]) (cells' := 7142) (slots' := 46718) (Ds' := [(A0, σ109), (A1, σ55)]) M rfl (l_invS (k := 0) (index := 194) S M Cs rfl hl (c_L_fails l hfl (A0, lBs (lBs B (q20, v21, t18)) (q64, v65, t62)) H.size 0 0 σ105 7 (gStr_k (A0, lBs (lBs B (q20, v21, t18)) (q64, v65, t62)) (k := 24) (by decide) (by decide)) h107) k_L_fails tw_6_4 tw_6_3 rfl rfl rfl rfl dL_law_295) rfl rfl rfl rfl (fun H locs M => ?_)
                                          refine lv_if_eq (tgt := 379) hx hb dL_law_298 (by decide) (fun c110 => ?_) (fun c110 => ?_)
                                          · exact absurd c110 (gfc_x hf).1
                                          · obtain ⟨-, hf⟩ := gfc_x hf
                                            refine lv_aload_n hx hb dL_law_301 rfl (lv_at hl 4 rfl) ?_
                                            refine va_ldcS hx hb S.2.2.2.1 (show vk_R "ParcelDepotLaw" 206 "" (gtK (lz B) 25) s from Cs.2.2.1 25 (by decide)) dL_law_302 ?_
                                            refine lv_iconst (v := 0) hx hb dL_law_304 (by decide) ?_
                                            obtain ⟨r112, σ113, h111, hf⟩ := bd2_x hf
                                            refine l_runR (k := 0) (st1 := [.int r112]) (cells' := 7214) (slots' := 47150) (Ds' := [(A0, σ113), (A1, σ55)]) M rfl (l_invS (k := 0) (index := 194) S M Cs rfl hl (c_L_fails l hfl (A0, lBs (lBs B (q20, v21, t18)) (q64, v65, t62)) H.size 0 0 σ109 0 (gStr_k (A0, lBs (lBs B (q20, v21, t18)) (q64, v65, t62)) (k := 25) (by decide) (by decide)) h111) k_L_fails tw_6_4 tw_6_3 rfl rfl rfl rfl dL_law_305) rfl rfl rfl rfl (fun H locs M => ?_)
                                            refine lv_if_eq (tgt := 379) hx hb dL_law_308 (by decide) (fun c114 => ?_) (fun c114 => ?_)
                                            · exact absurd c114 (gfc_x hf).1
                                            · obtain ⟨-, hf⟩ := gfc_x hf
                                              refine lv_aload_n hx hb dL_law_311 rfl (lv_at hl 4 rfl) ?_
                                              refine va_ldcS hx hb S.2.2.2.1 (show vk_R "ParcelDepotLaw" 208 "out 1;" (gtK (lz B) 26) s from Cs.2.2.1 26 (by decide)) dL_law_312 ?_
                                              refine lv_bipush (v := 6) hx hb dL_law_314 (by decide) ?_
                                              obtain ⟨r116, σ117, h115, hf⟩ := bd2_x hf
                                              refine l_runR (k := 0) (st1 := [.int r116]) (cells' := 7286) (slots' := 47582) (Ds' := [(A0, σ117), (A1, σ55)]) M rfl (l_invS (k := 0) (index := 194) S M Cs rfl hl (c_L_fails l hfl (A0, lBs (lBs B (q20, v21, t18)) (q64, v65, t62)) H.size 0 0 σ113 6 (gStr_k (A0, lBs (lBs B (q20, v21, t18)) (q64, v65, t62)) (k := 26) (by decide) (by decide)) h115) k_L_fails tw_6_4 tw_6_3 rfl rfl rfl rfl dL_law_316) rfl rfl rfl rfl (fun H locs M => ?_)
                                              refine lv_if_eq (tgt := 379) hx hb dL_law_319 (by decide) (fun c118 => ?_) (fun c118 => ?_)
                                              · exact absurd c118 (gfc_x hf).1
                                              · obtain ⟨-, hf⟩ := gfc_x hf
                                                refine lv_aload_n hx hb dL_law_322 rfl (lv_at hl 4 rfl) ?_
                                                refine va_ldcS hx hb S.2.2.2.1 (show vk_R "ParcelDepotLaw" 210 "carry 2" (gtK (lz B) 27) s from Cs.2.2.1 27 (by decide)) dL_law_323 ?_
                                                refine lv_bipush (v := 7) hx hb dL_law_325 (by decide) ?_
                                                obtain ⟨r120, σ121, h119, hf⟩ := bd2_x hf
                                                refine l_runR (k := 0) (st1 := [.int r120]) (cells' := 7358) (slots' := 48014) (Ds' := [(A0, σ121), (A1, σ55)]) M rfl (l_invS (k := 0) (index := 194) S M Cs rfl hl (c_L_fails l hfl (A0, lBs (lBs B (q20, v21, t18)) (q64, v65, t62)) H.size 0 0 σ117 7 (gStr_k (A0, lBs (lBs B (q20, v21, t18)) (q64, v65, t62)) (k := 27) (by decide) (by decide)) h119) k_L_fails tw_6_4 tw_6_3 rfl rfl rfl rfl dL_law_327) rfl rfl rfl rfl (fun H locs M => ?_)
                                                refine lv_if_eq (tgt := 379) hx hb dL_law_330 (by decide) (fun c122 => ?_) (fun c122 => ?_)
                                                · exact absurd c122 (gfc_x hf).1
                                                · obtain ⟨-, hf⟩ := gfc_x hf
                                                  refine lv_aload_n hx hb dL_law_333 rfl (lv_at hl 4 rfl) ?_
                                                  refine va_ldcS hx hb S.2.2.2.1 (show vk_R "ParcelDepotLaw" 212 "px" (gtK (lz B) 28) s from Cs.2.2.1 28 (by decide)) dL_law_334 ?_
                                                  refine lv_iconst (v := 1) hx hb dL_law_336 (by decide) ?_
                                                  obtain ⟨r124, σ125, h123, hf⟩ := bd2_x hf
                                                  refine l_runR (k := 0) (st1 := [.int r124]) (cells' := 7430) (slots' := 48446) (Ds' := [(A0, σ125), (A1, σ55)]) M rfl (l_invS (k := 0) (index := 194) S M Cs rfl hl (c_L_fails l hfl (A0, lBs (lBs B (q20, v21, t18)) (q64, v65, t62)) H.size 0 0 σ121 1 (gStr_k (A0, lBs (lBs B (q20, v21, t18)) (q64, v65, t62)) (k := 28) (by decide) (by decide)) h123) k_L_fails tw_6_4 tw_6_3 rfl rfl rfl rfl dL_law_337) rfl rfl rfl rfl (fun H locs M => ?_)
                                                  refine lv_if_eq (tgt := 379) hx hb dL_law_340 (by decide) (fun c126 => ?_) (fun c126 => ?_)
                                                  · exact absurd c126 (gfc_x hf).1
                                                  · obtain ⟨-, hf⟩ := gfc_x hf
                                                    refine lv_aload_n hx hb dL_law_343 rfl (lv_at hl 4 rfl) ?_
                                                    refine va_ldcS hx hb S.2.2.2.1 (show vk_R "ParcelDepotLaw" 214 "back" (gtK (lz B) 29) s from Cs.2.2.1 29 (by decide)) dL_law_344 ?_
                                                    refine lv_iconst (v := 4) hx hb dL_law_346 (by decide) ?_
                                                    obtain ⟨r128, σ129, h127, hf⟩ := bd2_x hf
                                                    refine l_runR (k := 0) (st1 := [.int r128]) (cells' := 7502) (slots' := 48878) (Ds' := [(A0, σ129), (A1, σ55)]) M rfl (l_invS (k := 0) (index := 194) S M Cs rfl hl (c_L_fails l hfl (A0, lBs (lBs B (q20, v21, t18)) (q64, v65, t62)) H.size 0 0 σ125 4 (gStr_k (A0, lBs (lBs B (q20, v21, t18)) (q64, v65, t62)) (k := 29) (by decide) (by decide)) h127) k_L_fails tw_6_4 tw_6_3 rfl rfl rfl rfl dL_law_347) rfl rfl rfl rfl (fun H locs M => ?_)
                                                    refine lv_if_eq (tgt := 379) hx hb dL_law_350 (by decide) (fun c130 => ?_) (fun c130 => ?_)
                                                    · exact absurd c130 (gfc_x hf).1
                                                    · obtain ⟨-, hf⟩ := gfc_x hf
                                                      refine lv_aload_n hx hb dL_law_353 rfl (lv_at hl 4 rfl) ?_
                                                      refine va_ldcS hx hb S.2.2.2.1 (show vk_R "ParcelDepotLaw" 216 "z" (gtK (lz B) 30) s from Cs.2.2.1 30 (by decide)) dL_law_354 ?_
                                                      refine lv_iconst (v := 0) hx hb dL_law_356 (by decide) ?_
                                                      obtain ⟨r132, σ133, h131, hf⟩ := bd2_x hf
                                                      refine l_runR (k := 0) (st1 := [.int r132]) (cells' := 7574) (slots' := 49310) (Ds' := [(A0, σ133), (A1, σ55)]) M rfl (l_invS (k := 0) (index := 194) S M Cs rfl hl (c_L_fails l hfl (A0, lBs (lBs B (q20, v21, t18)) (q64, v65, t62)) H.size 0 0 σ129 0 (gStr_k (A0, lBs (lBs B (q20, v21, t18)) (q64, v65, t62)) (k := 30) (by decide) (by decide)) h131) k_L_fails tw_6_4 tw_6_3 rfl rfl rfl rfl dL_law_357) rfl rfl rfl rfl (fun H locs M => ?_)
                                                      refine lv_if_eq (tgt := 379) hx hb dL_law_360 (by decide) (fun c134 => ?_) (fun c134 => ?_)
                                                      · exact absurd c134 (gfc_x hf).1
                                                      · obtain ⟨-, hf⟩ := gfc_x hf
                                                        refine lv_aload_n hx hb dL_law_363 rfl (lv_at hl 4 rfl) ?_
                                                        obtain ⟨r136, h135, hf⟩ := btn_x hf
                                                        refine l_runR (k := 0) (st1 := [.int r136]) (cells' := 7575) (slots' := 49316) (Ds' := [(A0, σ133), (A1, σ55)]) M rfl (l_invV (k := 0) (index := 187) S M Cs rfl hl (c_X12_failedCommand l hfl (A0, lBs (lBs B (q20, v21, t18)) (q64, v65, t62)) H.size 0 0 σ133  h135) k_X12_failedCommand tw_5_69 tw_5_70 tw_5_68 rfl rfl rfl rfl rfl rfl dL_law_364) rfl rfl rfl rfl (fun H locs M => ?_)
                                                        refine lv_if_ne (tgt := 379) hx hb dL_law_367 (by decide) (fun c137 => ?_) (fun c137 => ?_)
                                                        · exact absurd (gtc_x hf).1 c137
                                                        · obtain ⟨-, hf⟩ := gtc_x hf
                                                          refine lv_aload_n hx hb dL_law_370 rfl (lv_at hl 4 rfl) ?_
                                                          obtain ⟨r139, h138, hf⟩ := bd_x hf
                                                          refine l_runR (k := 0) (st1 := [.int r139]) (cells' := 8331) (slots' := 53852) (Ds' := [(A0, σ133), (A1, σ55)]) M rfl (l_invS (k := 0) (index := 152) S M Cs rfl hl (c_L_state l hfl (A0, lBs (lBs B (q20, v21, t18)) (q64, v65, t62)) H.size 0 0 σ133  h138) k_L_state tw_5_193 tw_5_192 rfl rfl rfl rfl dL_law_371) rfl rfl rfl rfl (fun H locs M => ?_)
                                                          refine lv_iload hx hb dL_law_374 (lv_at hl 1 rfl) ?_
                                                          refine lv_icmp_eq (tgt := 381) hx hb dL_law_376 (by decide) (fun c140 => ?_) (fun c140 => ?_)
                                                          · obtain ⟨-, hf⟩ := gtc_x hf
                                                            refine lv_aload_n hx hb dL_law_381 rfl (lv_at hl 5 rfl) ?_
                                                            refine lv_bipush (v := 13) hx hb dL_law_382 (by decide) ?_
                                                            obtain ⟨r142, h141, hf⟩ := bd_x hf
                                                            refine l_runR (k := 0) (st1 := [.int r142]) (cells' := 8331) (slots' := 53852) (Ds' := [(A0, σ133), (A1, σ55)]) M rfl (l_invS (k := 0) (index := 24) S M Cs rfl hl (c_L_at l hfl (A0, lBs (lBs B (q20, v21, t18)) (q64, v65, t62)) H.size 0 0 σ133 13 h141) k_L_at tw_5_129 tw_5_128 rfl rfl rfl rfl dL_law_384) rfl rfl rfl rfl (fun H locs M => ?_)
                                                            refine lv_istore (lv' := [(6, .int r142), (5, .int x13), (4, .int r9), (3, .int r6), (2, .ref (A1 0)), (1, .ref (A0 0)), (0, .ref (gtX (lz B) 2))]) hx hb dL_law_387 hl (by decide) rfl (fun ls hl => ?_)
                                                            refine lv_iconst (v := 1) hx hb dL_law_389 (by decide) ?_
                                                            refine lv_iload hx hb dL_law_390 (lv_at hl 0 rfl) ?_
                                                            refine lv_bipush (v := 7) hx hb dL_law_392 (by decide) ?_
                                                            refine lv_iand hx hb dL_law_394 ?_
                                                            refine lv_iadd hx hb dL_law_395 ?_
                                                            obtain ⟨x143, ex143, hf⟩ := nm_x hf
                                                            refine g_topi ex143 ?_
                                                            refine lv_istore (lv' := [(7, .int x143), (6, .int r142), (5, .int x13), (4, .int r9), (3, .int r6), (2, .ref (A1 0)), (1, .ref (A0 0)), (0, .ref (gtX (lz B) 2))]) hx hb dL_law_396 hl (by decide) rfl (fun ls hl => ?_)
                                                            refine lv_iconst (v := 2) hx hb dL_law_398 (by decide) ?_
                                                            refine lv_iload hx hb dL_law_399 (lv_at hl 1 rfl) ?_
                                                            refine lv_iconst (v := 3) hx hb dL_law_401 (by decide) ?_
                                                            refine lv_ishr hx hb dL_law_402 ?_
                                                            refine lv_bipush (v := 15) hx hb dL_law_403 (by decide) ?_
                                                            refine lv_iand hx hb dL_law_405 ?_
                                                            refine lv_bipush (v := 10) hx hb dL_law_406 (by decide) ?_
                                                            refine lv_irem hx hb dL_law_408 (by decide) ?_
                                                            obtain ⟨x144, ex144, hf⟩ := nm_x hf
                                                            refine g_topi ex144 ?_
                                                            refine lv_iadd hx hb dL_law_409 ?_
                                                            obtain ⟨x145, ex145, hf⟩ := nm_x hf
                                                            refine g_topi ex145 ?_
                                                            refine lv_istore (lv' := [(8, .int x145), (7, .int x143), (6, .int r142), (5, .int x13), (4, .int r9), (3, .int r6), (2, .ref (A1 0)), (1, .ref (A0 0)), (0, .ref (gtX (lz B) 2))]) hx hb dL_law_410 hl (by decide) rfl (fun ls hl => ?_)
                                                            refine l_new (i0 := 18) (i4 := 23) (cells' := 8550) (slots' := 56225) S M Cs hl tw_1_35 tw_1_36 tw_1_1 tw_1_38 tw_1_37 rfl rfl dL_law_412 dL_law_415 dL_law_416 rfl rfl (fun A2 H locs M => ?_)
                                                            have M : lM (lBs (lBs B (q20, v21, t18)) (q64, v65, t62)) [(A0, σ133), (A1, σ55), (A2, σ0)] s H locs := M
                                                            refine lv_astore (lv' := [(9, .ref (A2 0)), (8, .int x145), (7, .int x143), (6, .int r142), (5, .int x13), (4, .int r9), (3, .int r6), (2, .ref (A1 0)), (1, .ref (A0 0)), (0, .ref (gtX (lz B) 2))]) hx hb dL_law_419 hl (by decide) rfl (fun ls hl => ?_)
                                                            refine lv_aload hx hb dL_law_421 (lv_at hl 0 rfl) ?_
                                                            obtain ⟨r147, σ148, h146, hf⟩ := bd2_x hf
                                                            refine l_runR (k := 2) (st1 := [.int r147]) (cells' := 8550) (slots' := 56225) (Ds' := [(A0, σ133), (A1, σ55), (A2, σ148)]) M rfl (l_invV (k := 2) (index := 218) S M Cs rfl hl (c_X12_isConsistent l (A2, lBs (lBs B (q20, v21, t18)) (q64, v65, t62)) H.size 0 0 σ0  h146) k_X12_isConsistent tw_4_155 tw_4_156 tw_4_154 rfl rfl rfl rfl rfl rfl dL_law_423) rfl rfl rfl rfl (fun H locs M => ?_)
                                                            refine lv_if_eq (tgt := 518) hx hb dL_law_426 (by decide) (fun c149 => ?_) (fun c149 => ?_)
                                                            · exact absurd c149 (gfc_x hf).1
                                                            · obtain ⟨-, hf⟩ := gfc_x hf
                                                              refine lv_aload hx hb dL_law_429 (lv_at hl 0 rfl) ?_
                                                              obtain ⟨r151, h150, hf⟩ := bd_x hf
                                                              refine l_runR (k := 2) (st1 := [.int r151]) (cells' := 8550) (slots' := 56225) (Ds' := [(A0, σ133), (A1, σ55), (A2, σ148)]) M rfl (l_invV (k := 2) (index := 222) S M Cs rfl hl (c_X12_roadCount l (A2, lBs (lBs B (q20, v21, t18)) (q64, v65, t62)) H.size 0 0 σ148  h150) k_X12_roadCount tw_3_127 tw_3_128 tw_3_126 rfl rfl rfl rfl rfl rfl dL_law_431) rfl rfl rfl rfl (fun H locs M => ?_)
                                                              refine lv_if_ne (tgt := 518) hx hb dL_law_434 (by decide) (fun c152 => ?_) (fun c152 => ?_)
                                                              · exact absurd (gtc_x hf).1 c152
                                                              · obtain ⟨-, hf⟩ := gtc_x hf
                                                                refine lv_aload hx hb dL_law_437 (lv_at hl 0 rfl) ?_
                                                                obtain ⟨r154, σ155, h153, hf⟩ := bd2_x hf
                                                                refine l_runR (k := 2) (st1 := [.int r154]) (cells' := 8550) (slots' := 56225) (Ds' := [(A0, σ133), (A1, σ55), (A2, σ155)]) M rfl (l_invV (k := 2) (index := 225) S M Cs rfl hl (c_X12_handleable l (A2, lBs (lBs B (q20, v21, t18)) (q64, v65, t62)) H.size 0 0 σ148  h153) k_X12_handleable tw_4_10 tw_4_11 tw_4_9 rfl rfl rfl rfl rfl rfl dL_law_439) rfl rfl rfl rfl (fun H locs M => ?_)
                                                                refine lv_if_ne (tgt := 518) hx hb dL_law_442 (by decide) (fun c156 => ?_) (fun c156 => ?_)
                                                                · exact absurd (gtc_x hf).1 c156
                                                                · obtain ⟨-, hf⟩ := gtc_x hf
                                                                  refine lv_aload hx hb dL_law_445 (lv_at hl 0 rfl) ?_
                                                                  refine lv_iconst (v := 2) hx hb dL_law_447 (by decide) ?_
                                                                  obtain ⟨r158, h157, hf⟩ := btn_x hf
                                                                  refine l_runR (k := 2) (st1 := [.int r158]) (cells' := 8551) (slots' := 56231) (Ds' := [(A0, σ133), (A1, σ55), (A2, σ155)]) M rfl (l_invV (k := 2) (index := 228) S M Cs rfl hl (c_X12_mostFitting l hfl (A2, lBs (lBs B (q20, v21, t18)) (q64, v65, t62)) H.size 0 0 σ155 2 h157) k_X12_mostFitting tw_4_58 tw_4_59 tw_4_57 rfl rfl rfl rfl rfl rfl dL_law_448) rfl rfl rfl rfl (fun H locs M => ?_)
                                                                  refine lv_if_ne (tgt := 518) hx hb dL_law_451 (by decide) (fun c159 => ?_) (fun c159 => ?_)
                                                                  · exact absurd (gtc_x hf).1 c159
                                                                  · obtain ⟨-, hf⟩ := gtc_x hf
                                                                    refine lv_aload hx hb dL_law_454 (lv_at hl 0 rfl) ?_
                                                                    refine lv_iconst (v := 3) hx hb dL_law_456 (by decide) ?_
                                                                    obtain ⟨r161, σ162, h160, hf⟩ := btn2_x hf
                                                                    refine l_runR (k := 2) (st1 := [.int r161]) (cells' := 8552) (slots' := 56237) (Ds' := [(A0, σ133), (A1, σ55), (A2, σ162)]) M rfl (l_invV (k := 2) (index := 231) S M Cs rfl hl (c_X12_farthestPlace l hfl (A2, lBs (lBs B (q20, v21, t18)) (q64, v65, t62)) H.size 0 0 σ155 3 h160) k_X12_farthestPlace tw_3_174 tw_3_175 tw_3_173 rfl rfl rfl rfl rfl rfl dL_law_457) rfl rfl rfl rfl (fun H locs M => ?_)
                                                                    refine lv_iconst (v := 3) hx hb dL_law_460 (by decide) ?_
                                                                    refine lv_icmp_ne (tgt := 518) hx hb dL_law_461 (by decide) (fun c163 => ?_) (fun c163 => ?_)
                                                                    · exact absurd (gtc_x hf).1 c163
                                                                    · obtain ⟨-, hf⟩ := gtc_x hf
                                                                      refine lv_aload hx hb dL_law_464 (lv_at hl 0 rfl) ?_
                                                                      refine lv_iconst (v := 0) hx hb dL_law_466 (by decide) ?_
                                                                      obtain ⟨r165, h164, hf⟩ := btn_x hf
                                                                      refine l_runR (k := 2) (st1 := [.int r165]) (cells' := 8553) (slots' := 56243) (Ds' := [(A0, σ133), (A1, σ55), (A2, σ162)]) M rfl (l_invV (k := 2) (index := 137) S M Cs rfl hl (c_X12_capacity l hfl (A2, lBs (lBs B (q20, v21, t18)) (q64, v65, t62)) H.size 0 0 σ162 0 h164) k_X12_capacity tw_4_48 tw_4_49 tw_4_47 rfl rfl rfl rfl rfl rfl dL_law_467) rfl rfl rfl rfl (fun H locs M => ?_)
                                                                      refine lv_bipush (v := 30) hx hb dL_law_470 (by decide) ?_
                                                                      refine lv_icmp_ne (tgt := 518) hx hb dL_law_472 (by decide) (fun c166 => ?_) (fun c166 => ?_)
                                                                      · exact absurd (gtc_x hf).1 c166
                                                                      · obtain ⟨-, hf⟩ := gtc_x hf
                                                                        refine lv_aload hx hb dL_law_475 (lv_at hl 0 rfl) ?_
                                                                        refine lv_bipush (v := 6) hx hb dL_law_477 (by decide) ?_
                                                                        refine lv_iconst (v := 0) hx hb dL_law_479 (by decide) ?_
                                                                        refine lv_iconst (v := 0) hx hb dL_law_480 (by decide) ?_
                                                                        refine lv_iconst (v := 0) hx hb dL_law_481 (by decide) ?_
                                                                        obtain ⟨r168, σ169, h167, hf⟩ := bd2_x hf
                                                                        refine l_runR (k := 2) (st1 := [.int r168]) (cells' := 8556) (slots' := 56261) (Ds' := [(A0, σ133), (A1, σ55), (A2, σ169)]) M rfl (l_invW (k := 2) (index := 30) S M Cs rfl hl (c_L_act l hfl (A2, lBs (lBs B (q20, v21, t18)) (q64, v65, t62)) H.size 0 0 σ162 6 0 0 0 h167) k_L_act tw_5_152 tw_5_151 rfl rfl rfl rfl dL_law_482) rfl rfl rfl rfl (fun H locs M => ?_)
                                                                        refine lv_bipush (v := (-2)) hx hb dL_law_485 (by decide) ?_
                                                                        refine lv_icmp_ne (tgt := 518) hx hb dL_law_487 (by decide) (fun c170 => ?_) (fun c170 => ?_)
                                                                        · exact absurd (gtc_x hf).1 c170
                                                                        · obtain ⟨-, hf⟩ := gtc_x hf
                                                                          refine lv_aload hx hb dL_law_490 (lv_at hl 0 rfl) ?_
                                                                          refine lv_bipush (v := 6) hx hb dL_law_492 (by decide) ?_
                                                                          refine lv_iconst (v := 0) hx hb dL_law_494 (by decide) ?_
                                                                          refine lv_iconst (v := 1) hx hb dL_law_495 (by decide) ?_
                                                                          refine lv_iconst (v := 0) hx hb dL_law_496 (by decide) ?_
                                                                          obtain ⟨r172, σ173, h171, hf⟩ := bd2_x hf
                                                                          refine l_runR (k := 2) (st1 := [.int r172]) (cells' := 8559) (slots' := 56279) (Ds' := [(A0, σ133), (A1, σ55), (A2, σ173)]) M rfl (l_invW (k := 2) (index := 30) S M Cs rfl hl (c_L_act l hfl (A2, lBs (lBs B (q20, v21, t18)) (q64, v65, t62)) H.size 0 0 σ169 6 0 1 0 h171) k_L_act tw_5_152 tw_5_151 rfl rfl rfl rfl dL_law_497) rfl rfl rfl rfl (fun H locs M => ?_)
                                                                          refine lv_bipush (v := (-5)) hx hb dL_law_500 (by decide) ?_
                                                                          refine lv_icmp_ne (tgt := 518) hx hb dL_law_502 (by decide) (fun c174 => ?_) (fun c174 => ?_)
                                                                          · exact absurd (gtc_x hf).1 c174
                                                                          · obtain ⟨-, hf⟩ := gtc_x hf
                                                                            refine lv_aload hx hb dL_law_505 (lv_at hl 0 rfl) ?_
                                                                            refine lv_iconst (v := 4) hx hb dL_law_507 (by decide) ?_
                                                                            refine lv_iconst (v := 0) hx hb dL_law_508 (by decide) ?_
                                                                            refine lv_iconst (v := 0) hx hb dL_law_509 (by decide) ?_
                                                                            refine lv_iconst (v := 0) hx hb dL_law_510 (by decide) ?_
                                                                            obtain ⟨r176, σ177, h175, hf⟩ := bd2_x hf
                                                                            refine l_runR (k := 2) (st1 := [.int r176]) (cells' := 8562) (slots' := 56297) (Ds' := [(A0, σ133), (A1, σ55), (A2, σ177)]) M rfl (l_invW (k := 2) (index := 30) S M Cs rfl hl (c_L_act l hfl (A2, lBs (lBs B (q20, v21, t18)) (q64, v65, t62)) H.size 0 0 σ173 4 0 0 0 h175) k_L_act tw_5_152 tw_5_151 rfl rfl rfl rfl dL_law_511) rfl rfl rfl rfl (fun H locs M => ?_)
                                                                            refine lv_iconst (v := (-1)) hx hb dL_law_514 (by decide) ?_
                                                                            refine lv_icmp_eq (tgt := 520) hx hb dL_law_515 (by decide) (fun c178 => ?_) (fun c178 => ?_)
                                                                            · obtain ⟨-, hf⟩ := gtc_x hf
                                                                              refine lv_aload hx hb dL_law_520 (lv_at hl 0 rfl) ?_
                                                                              refine l_sbNew (i0 := 155) (i4 := 157) (cells' := 8564) (slots' := 56317) S M Cs Cx hl tw_6_10 tw_6_11 tw_1_25 tw_6_13 tw_6_12 rfl rfl dL_law_522 dL_law_525 dL_law_526 rfl rfl (fun q179 stq179 H locs M => ?_)
                                                                              refine l_sbS (k := 31) (i0 := 234) (i1 := 160) (cp' := 43) (text := "road 0-1 ") (cells' := 8565) (slots' := 56360) (tx' := [] ++ (gByt.getD 31 [])) S M Cs Cx hl (by decide) (by decide) rfl tw_1_25 tw_6_41 tw_6_42 tw_6_40 rfl (Nat.le_of_ble_eq_true rfl) (by decide) rfl dL_law_529 dL_law_531 rfl rfl rfl (fun H locs M => ?_)
                                                                              refine lv_iload hx hb dL_law_534 (lv_at hl 2 rfl) ?_
                                                                              obtain ⟨h180, hf⟩ := gi_x hf
                                                                              refine l_sbI (i1 := 164) (cp' := 98) (cells' := 8566) (slots' := 56458) (tx' := ([] ++ (gByt.getD 31 [])) ++ [x143 + 48]) S M Cs Cx hl h180 tw_1_25 tw_6_136 tw_6_137 tw_6_135 rfl (Nat.le_of_ble_eq_true rfl) (by decide) rfl dL_law_536 rfl rfl rfl (fun H locs M => ?_)
                                                                              refine l_sbS (k := 32) (i0 := 236) (i1 := 160) (cp' := 247) (text := ";road 1-2 3;road 0-2 20;glove 2;glove 3") (cells' := 8567) (slots' := 56705) (tx' := (([] ++ (gByt.getD 31 [])) ++ [x143 + 48]) ++ (gByt.getD 32 [])) S M Cs Cx hl (by decide) (by decide) rfl tw_1_25 tw_6_41 tw_6_42 tw_6_40 rfl (Nat.le_of_ble_eq_true rfl) (by decide) rfl dL_law_539 dL_law_541 rfl rfl rfl (fun H locs M => ?_)
                                                                              obtain ⟨t181, et181, hf⟩ := nm_x hf
                                                                              obtain ⟨h182, hf⟩ := gb_x hf
                                                                              refine l_sbEnd (i1 := 169) (t := t181) (cells' := 8569) (slots' := 56956) S M Cs Cx hl et181 h182 (by decide) tw_1_25 tw_6_161 tw_6_162 tw_6_160 rfl rfl dL_law_544 rfl rfl (fun q183 v184 H locs hs185 M => ?_)
                                                                              have M : lM (lBs (lBs (lBs B (q20, v21, t18)) (q64, v65, t62)) (q183, v184, t181)) [(A0, σ133), (A1, σ55), (A2, σ177)] s H locs := M
                                                                              have Cs : lCs (lBs (lBs (lBs B (q20, v21, t18)) (q64, v65, t62)) (q183, v184, t181)) s := Cs
                                                                              have Cx : lCx (lBs (lBs (lBs B (q20, v21, t18)) (q64, v65, t62)) (q183, v184, t181)) s := Cx
                                                                              obtain ⟨σ187, h186, hf⟩ := bd_x hf
                                                                              refine l_runR (k := 2) (st1 := []) (cells' := 8639) (slots' := 57376) (Ds' := [(A0, σ133), (A1, σ55), (A2, σ187)]) M rfl (l_invS (k := 2) (index := 173) S M Cs rfl hl (c_L_put l hfl (A2, lBs (lBs (lBs B (q20, v21, t18)) (q64, v65, t62)) (q183, v184, t181)) H.size 0 0 σ177 (hs185 A2) h186) k_L_put tw_5_132 tw_5_131 rfl rfl rfl rfl dL_law_547) rfl rfl rfl rfl (fun H locs M => ?_)
                                                                              refine lv_aload hx hb dL_law_550 (lv_at hl 0 rfl) ?_
                                                                              obtain ⟨r189, σ190, h188, hf⟩ := btn2_x hf
                                                                              refine l_runR (k := 2) (st1 := [.int r189]) (cells' := 8640) (slots' := 57382) (Ds' := [(A0, σ133), (A1, σ55), (A2, σ190)]) M rfl (l_invV (k := 2) (index := 176) S M Cs rfl hl (c_X12_runCommands l hfl (A2, lBs (lBs (lBs B (q20, v21, t18)) (q64, v65, t62)) (q183, v184, t181)) H.size 0 0 σ187  h188) k_X12_runCommands tw_4_174 tw_4_175 tw_4_173 rfl rfl rfl rfl rfl rfl dL_law_552) rfl rfl rfl rfl (fun H locs M => ?_)
                                                                              refine lv_iconst (v := 5) hx hb dL_law_555 (by decide) ?_
                                                                              refine lv_icmp_ne (tgt := 726) hx hb dL_law_556 (by decide) (fun c191 => ?_) (fun c191 => ?_)
                                                                              · exact absurd (gtc_x hf).1 c191
                                                                              · obtain ⟨-, hf⟩ := gtc_x hf
                                                                                refine lv_aload hx hb dL_law_559 (lv_at hl 0 rfl) ?_
                                                                                refine lv_iload hx hb dL_law_561 (lv_at hl 1 rfl) ?_
                                                                                refine lv_iconst (v := 2) hx hb dL_law_563 (by decide) ?_
                                                                                refine lv_iconst (v := 2) hx hb dL_law_564 (by decide) ?_
                                                                                obtain ⟨r193, σ194, h192, hf⟩ := btn2_x hf
                                                                                refine l_runR (k := 2) (st1 := [.int r193]) (cells' := 8641) (slots' := 57388) (Ds' := [(A0, σ133), (A1, σ55), (A2, σ194)]) M rfl (l_invV (k := 2) (index := 47) S M Cs rfl hl (c_X12_acceptParcel l hfl (A2, lBs (lBs (lBs B (q20, v21, t18)) (q64, v65, t62)) (q183, v184, t181)) H.size 0 0 σ190 x145 2 2 h192) k_X12_acceptParcel tw_2_36 tw_2_37 tw_2_35 rfl rfl rfl rfl rfl rfl dL_law_565) rfl rfl rfl rfl (fun H locs M => ?_)
                                                                                refine lv_if_ne (tgt := 726) hx hb dL_law_568 (by decide) (fun c195 => ?_) (fun c195 => ?_)
                                                                                · exact absurd (gtc_x hf).1 c195
                                                                                · obtain ⟨-, hf⟩ := gtc_x hf
                                                                                  refine lv_aload hx hb dL_law_571 (lv_at hl 0 rfl) ?_
                                                                                  refine lv_bipush (v := 20) hx hb dL_law_573 (by decide) ?_
                                                                                  refine lv_iconst (v := 0) hx hb dL_law_575 (by decide) ?_
                                                                                  refine lv_iconst (v := 1) hx hb dL_law_576 (by decide) ?_
                                                                                  obtain ⟨r197, σ198, h196, hf⟩ := btn2_x hf
                                                                                  refine l_runR (k := 2) (st1 := [.int r197]) (cells' := 8642) (slots' := 57394) (Ds' := [(A0, σ133), (A1, σ55), (A2, σ198)]) M rfl (l_invV (k := 2) (index := 47) S M Cs rfl hl (c_X12_acceptParcel l hfl (A2, lBs (lBs (lBs B (q20, v21, t18)) (q64, v65, t62)) (q183, v184, t181)) H.size 0 0 σ194 20 0 1 h196) k_X12_acceptParcel tw_2_36 tw_2_37 tw_2_35 rfl rfl rfl rfl rfl rfl dL_law_577) rfl rfl rfl rfl (fun H locs M => ?_)
                                                                                  refine lv_iconst (v := 1) hx hb dL_law_580 (by decide) ?_
                                                                                  refine lv_icmp_ne (tgt := 726) hx hb dL_law_581 (by decide) (fun c199 => ?_) (fun c199 => ?_)
                                                                                  · exact absurd (gtc_x hf).1 c199
                                                                                  · obtain ⟨-, hf⟩ := gtc_x hf
                                                                                    refine lv_aload hx hb dL_law_584 (lv_at hl 0 rfl) ?_
                                                                                    refine lv_bipush (v := 15) hx hb dL_law_586 (by decide) ?_
                                                                                    refine lv_iconst (v := 3) hx hb dL_law_588 (by decide) ?_
                                                                                    refine lv_iconst (v := 2) hx hb dL_law_589 (by decide) ?_
                                                                                    obtain ⟨r201, σ202, h200, hf⟩ := btn2_x hf
                                                                                    refine l_runR (k := 2) (st1 := [.int r201]) (cells' := 8643) (slots' := 57400) (Ds' := [(A0, σ133), (A1, σ55), (A2, σ202)]) M rfl (l_invV (k := 2) (index := 47) S M Cs rfl hl (c_X12_acceptParcel l hfl (A2, lBs (lBs (lBs B (q20, v21, t18)) (q64, v65, t62)) (q183, v184, t181)) H.size 0 0 σ198 15 3 2 h200) k_X12_acceptParcel tw_2_36 tw_2_37 tw_2_35 rfl rfl rfl rfl rfl rfl dL_law_590) rfl rfl rfl rfl (fun H locs M => ?_)
                                                                                    refine lv_iconst (v := 2) hx hb dL_law_593 (by decide) ?_
                                                                                    refine lv_icmp_ne (tgt := 726) hx hb dL_law_594 (by decide) (fun c203 => ?_) (fun c203 => ?_)
                                                                                    · exact absurd (gtc_x hf).1 c203
                                                                                    · obtain ⟨-, hf⟩ := gtc_x hf
                                                                                      refine lv_aload hx hb dL_law_597 (lv_at hl 0 rfl) ?_
                                                                                      refine lv_iconst (v := 0) hx hb dL_law_599 (by decide) ?_
                                                                                      refine lv_iconst (v := 2) hx hb dL_law_600 (by decide) ?_
                                                                                      obtain ⟨r205, σ206, h204, hf⟩ := btn2_x hf
                                                                                      refine l_runR (k := 2) (st1 := [.int r205]) (cells' := 8646) (slots' := 57418) (Ds' := [(A0, σ133), (A1, σ55), (A2, σ206)]) M rfl (l_invV (k := 2) (index := 69) S M Cs rfl hl (c_X12_distance l hfl (A2, lBs (lBs (lBs B (q20, v21, t18)) (q64, v65, t62)) (q183, v184, t181)) H.size 0 0 σ202 0 2 h204) k_X12_distance tw_3_135 tw_3_136 tw_3_134 rfl rfl rfl rfl rfl rfl dL_law_601) rfl rfl rfl rfl (fun H locs M => ?_)
                                                                                      refine lv_iload hx hb dL_law_604 (lv_at hl 2 rfl) ?_
                                                                                      refine lv_iconst (v := 3) hx hb dL_law_606 (by decide) ?_
                                                                                      refine lv_iadd hx hb dL_law_607 ?_
                                                                                      refine lv_icmp_ne (tgt := 726) hx hb dL_law_608 (by decide) (fun c207 => ?_) (fun c207 => ?_)
                                                                                      · exact absurd (gtc_x hf).1 c207
                                                                                      · obtain ⟨-, hf⟩ := gtc_x hf
                                                                                        refine lv_aload hx hb dL_law_611 (lv_at hl 0 rfl) ?_
                                                                                        refine lv_iconst (v := 2) hx hb dL_law_613 (by decide) ?_
                                                                                        refine lv_iconst (v := 0) hx hb dL_law_614 (by decide) ?_
                                                                                        obtain ⟨r209, σ210, h208, hf⟩ := btn2_x hf
                                                                                        refine l_runR (k := 2) (st1 := [.int r209]) (cells' := 8649) (slots' := 57436) (Ds' := [(A0, σ133), (A1, σ55), (A2, σ210)]) M rfl (l_invV (k := 2) (index := 72) S M Cs rfl hl (c_X12_distanceByRounds l hfl (A2, lBs (lBs (lBs B (q20, v21, t18)) (q64, v65, t62)) (q183, v184, t181)) H.size 0 0 σ206 2 0 h208) k_X12_distanceByRounds tw_3_150 tw_3_151 tw_3_149 rfl rfl rfl rfl rfl rfl dL_law_615) rfl rfl rfl rfl (fun H locs M => ?_)
                                                                                        refine lv_iload hx hb dL_law_618 (lv_at hl 2 rfl) ?_
                                                                                        refine lv_iconst (v := 3) hx hb dL_law_620 (by decide) ?_
                                                                                        refine lv_iadd hx hb dL_law_621 ?_
                                                                                        refine lv_icmp_ne (tgt := 726) hx hb dL_law_622 (by decide) (fun c211 => ?_) (fun c211 => ?_)
                                                                                        · exact absurd (gtc_x hf).1 c211
                                                                                        · obtain ⟨-, hf⟩ := gtc_x hf
                                                                                          refine lv_aload hx hb dL_law_625 (lv_at hl 0 rfl) ?_
                                                                                          refine lv_iconst (v := 0) hx hb dL_law_627 (by decide) ?_
                                                                                          obtain ⟨r213, σ214, h212, hf⟩ := btn2_x hf
                                                                                          refine l_runR (k := 2) (st1 := [.int r213]) (cells' := 8650) (slots' := 57442) (Ds' := [(A0, σ133), (A1, σ55), (A2, σ214)]) M rfl (l_invV (k := 2) (index := 231) S M Cs rfl hl (c_X12_farthestPlace l hfl (A2, lBs (lBs (lBs B (q20, v21, t18)) (q64, v65, t62)) (q183, v184, t181)) H.size 0 0 σ210 0 h212) k_X12_farthestPlace tw_3_174 tw_3_175 tw_3_173 rfl rfl rfl rfl rfl rfl dL_law_628) rfl rfl rfl rfl (fun H locs M => ?_)
                                                                                          refine lv_iconst (v := 2) hx hb dL_law_631 (by decide) ?_
                                                                                          refine lv_icmp_ne (tgt := 726) hx hb dL_law_632 (by decide) (fun c215 => ?_) (fun c215 => ?_)
                                                                                          · exact absurd (gtc_x hf).1 c215
                                                                                          · obtain ⟨-, hf⟩ := gtc_x hf
                                                                                            refine lv_aload hx hb dL_law_635 (lv_at hl 0 rfl) ?_
                                                                                            refine lv_iconst (v := 0) hx hb dL_law_637 (by decide) ?_
                                                                                            obtain ⟨r217, h216, hf⟩ := btn_x hf
                                                                                            refine l_runR (k := 2) (st1 := [.int r217]) (cells' := 8652) (slots' := 57454) (Ds' := [(A0, σ133), (A1, σ55), (A2, σ214)]) M rfl (l_invV (k := 2) (index := 75) S M Cs rfl hl (c_X12_gloveFor l hfl (A2, lBs (lBs (lBs B (q20, v21, t18)) (q64, v65, t62)) (q183, v184, t181)) H.size 0 0 σ214 0 h216) k_X12_gloveFor tw_3_239 tw_4_0 tw_3_238 rfl rfl rfl rfl rfl rfl dL_law_638) rfl rfl rfl rfl (fun H locs M => ?_)
                                                                                            refine lv_if_ne (tgt := 726) hx hb dL_law_641 (by decide) (fun c218 => ?_) (fun c218 => ?_)
                                                                                            · exact absurd (gtc_x hf).1 c218
                                                                                            · obtain ⟨-, hf⟩ := gtc_x hf
                                                                                              refine lv_aload hx hb dL_law_644 (lv_at hl 0 rfl) ?_
                                                                                              refine lv_iconst (v := 2) hx hb dL_law_646 (by decide) ?_
                                                                                              obtain ⟨r220, h219, hf⟩ := btn_x hf
                                                                                              refine l_runR (k := 2) (st1 := [.int r220]) (cells' := 8654) (slots' := 57466) (Ds' := [(A0, σ133), (A1, σ55), (A2, σ214)]) M rfl (l_invV (k := 2) (index := 75) S M Cs rfl hl (c_X12_gloveFor l hfl (A2, lBs (lBs (lBs B (q20, v21, t18)) (q64, v65, t62)) (q183, v184, t181)) H.size 0 0 σ214 2 h219) k_X12_gloveFor tw_3_239 tw_4_0 tw_3_238 rfl rfl rfl rfl rfl rfl dL_law_647) rfl rfl rfl rfl (fun H locs M => ?_)
                                                                                              refine lv_iconst (v := 1) hx hb dL_law_650 (by decide) ?_
                                                                                              refine lv_icmp_ne (tgt := 726) hx hb dL_law_651 (by decide) (fun c221 => ?_) (fun c221 => ?_)
                                                                                              · exact absurd (gtc_x hf).1 c221
                                                                                              · obtain ⟨-, hf⟩ := gtc_x hf
                                                                                                refine lv_aload hx hb dL_law_654 (lv_at hl 0 rfl) ?_
                                                                                                refine lv_bipush (v := 10) hx hb dL_law_656 (by decide) ?_
                                                                                                refine lv_iconst (v := 1) hx hb dL_law_658 (by decide) ?_
                                                                                                refine lv_iconst (v := 0) hx hb dL_law_659 (by decide) ?_
                                                                                                refine lv_iconst (v := 0) hx hb dL_law_660 (by decide) ?_
                                                                                                obtain ⟨r223, σ224, h222, hf⟩ := bd2_x hf
                                                                                                refine l_runR (k := 2) (st1 := [.int r223]) (cells' := 8657) (slots' := 57484) (Ds' := [(A0, σ133), (A1, σ55), (A2, σ224)]) M rfl (l_invW (k := 2) (index := 30) S M Cs rfl hl (c_L_act l hfl (A2, lBs (lBs (lBs B (q20, v21, t18)) (q64, v65, t62)) (q183, v184, t181)) H.size 0 0 σ214 10 1 0 0 h222) k_L_act tw_5_152 tw_5_151 rfl rfl rfl rfl dL_law_661) rfl rfl rfl rfl (fun H locs M => ?_)
                                                                                                refine lv_bipush (v := (-4)) hx hb dL_law_664 (by decide) ?_
                                                                                                refine lv_icmp_ne (tgt := 726) hx hb dL_law_666 (by decide) (fun c225 => ?_) (fun c225 => ?_)
                                                                                                · exact absurd (gtc_x hf).1 c225
                                                                                                · obtain ⟨-, hf⟩ := gtc_x hf
                                                                                                  refine lv_aload hx hb dL_law_669 (lv_at hl 0 rfl) ?_
                                                                                                  obtain ⟨r227, σ228, h226, hf⟩ := bd2_x hf
                                                                                                  refine l_runR (k := 2) (st1 := [.int r227]) (cells' := 8657) (slots' := 57484) (Ds' := [(A0, σ133), (A1, σ55), (A2, σ228)]) M rfl (l_invV (k := 2) (index := 225) S M Cs rfl hl (c_X12_handleable l (A2, lBs (lBs (lBs B (q20, v21, t18)) (q64, v65, t62)) (q183, v184, t181)) H.size 0 0 σ224  h226) k_X12_handleable tw_4_10 tw_4_11 tw_4_9 rfl rfl rfl rfl rfl rfl dL_law_671) rfl rfl rfl rfl (fun H locs M => ?_)
                                                                                                  refine lv_iconst (v := 3) hx hb dL_law_674 (by decide) ?_
                                                                                                  refine lv_icmp_ne (tgt := 726) hx hb dL_law_675 (by decide) (fun c229 => ?_) (fun c229 => ?_)
                                                                                                  · exact absurd (gtc_x hf).1 c229
                                                                                                  · obtain ⟨-, hf⟩ := gtc_x hf
                                                                                                    refine lv_aload hx hb dL_law_678 (lv_at hl 0 rfl) ?_
                                                                                                    obtain ⟨r231, h230, hf⟩ := bd_x hf
                                                                                                    refine l_runR (k := 2) (st1 := [.int r231]) (cells' := 8657) (slots' := 57484) (Ds' := [(A0, σ133), (A1, σ55), (A2, σ228)]) M rfl (l_invV (k := 2) (index := 238) S M Cs rfl hl (c_X12_handleableByShortage l (A2, lBs (lBs (lBs B (q20, v21, t18)) (q64, v65, t62)) (q183, v184, t181)) H.size 0 0 σ228  h230) k_X12_handleableByShortage tw_4_31 tw_4_32 tw_4_30 rfl rfl rfl rfl rfl rfl dL_law_680) rfl rfl rfl rfl (fun H locs M => ?_)
                                                                                                    refine lv_iconst (v := 3) hx hb dL_law_683 (by decide) ?_
                                                                                                    refine lv_icmp_ne (tgt := 726) hx hb dL_law_684 (by decide) (fun c232 => ?_) (fun c232 => ?_)
                                                                                                    · exact absurd (gtc_x hf).1 c232
                                                                                                    · obtain ⟨-, hf⟩ := gtc_x hf
                                                                                                      refine lv_aload hx hb dL_law_687 (lv_at hl 0 rfl) ?_
                                                                                                      refine lv_iconst (v := 0) hx hb dL_law_689 (by decide) ?_
                                                                                                      obtain ⟨r234, h233, hf⟩ := btn_x hf
                                                                                                      refine l_runR (k := 2) (st1 := [.int r234]) (cells' := 8658) (slots' := 57490) (Ds' := [(A0, σ133), (A1, σ55), (A2, σ228)]) M rfl (l_invV (k := 2) (index := 228) S M Cs rfl hl (c_X12_mostFitting l hfl (A2, lBs (lBs (lBs B (q20, v21, t18)) (q64, v65, t62)) (q183, v184, t181)) H.size 0 0 σ228 0 h233) k_X12_mostFitting tw_4_58 tw_4_59 tw_4_57 rfl rfl rfl rfl rfl rfl dL_law_690) rfl rfl rfl rfl (fun H locs M => ?_)
                                                                                                      refine lv_iload hx hb dL_law_693 (lv_at hl 1 rfl) ?_
                                                                                                      refine lv_bipush (v := 15) hx hb dL_law_695 (by decide) ?_
                                                                                                      refine lv_iadd hx hb dL_law_697 ?_
                                                                                                      refine lv_bipush (v := 30) hx hb dL_law_698 (by decide) ?_
                                                                                                      obtain ⟨x236, hj237, hf⟩ := bd_x hf
                                                                                                      refine l_join (J := 708) (st := [.int x236, .int r234]) (CJ := 8658) (SJ := 57490) (P := fun H locs ls => lM (lBs (lBs (lBs B (q20, v21, t18)) (q64, v65, t62)) (q183, v184, t181)) [(A0, σ133), (A1, σ55), (A2, σ228)] s H locs ∧ lv_has ls 10 [(9, .ref (A2 0)), (8, .int x145), (7, .int x143), (6, .int r142), (5, .int x13), (4, .int r9), (3, .int r6), (2, .ref (A1 0)), (1, .ref (A0 0)), (0, .ref (gtX (lz B) 2))]) (fun H locs ls hPJ => ?_) (fun kJ => ?_)
                                                                                                      · obtain ⟨M, hl⟩ := hPJ
                                                                                                        refine lv_icmp_ne (tgt := 726) hx hb dL_law_708 (by decide) (fun c238 => ?_) (fun c238 => ?_)
                                                                                                        · exact absurd (gtc_x hf).1 c238
                                                                                                        · obtain ⟨-, hf⟩ := gtc_x hf
                                                                                                          refine lv_aload hx hb dL_law_711 (lv_at hl 0 rfl) ?_
                                                                                                          refine lv_iconst (v := 0) hx hb dL_law_713 (by decide) ?_
                                                                                                          obtain ⟨r240, σ241, h239, hf⟩ := btn2_x hf
                                                                                                          refine l_runR (k := 2) (st1 := [.int r240]) (cells' := 8659) (slots' := 57496) (Ds' := [(A0, σ133), (A1, σ55), (A2, σ241)]) M rfl (l_invV (k := 2) (index := 241) S M Cs rfl hl (c_X12_mostFittingByTable l hfl (A2, lBs (lBs (lBs B (q20, v21, t18)) (q64, v65, t62)) (q183, v184, t181)) H.size 0 0 σ228 0 h239) k_X12_mostFittingByTable tw_4_71 tw_4_72 tw_4_70 rfl rfl rfl rfl rfl rfl dL_law_714) rfl rfl rfl rfl (fun H locs M => ?_)
                                                                                                          refine lv_aload hx hb dL_law_717 (lv_at hl 0 rfl) ?_
                                                                                                          refine lv_iconst (v := 0) hx hb dL_law_719 (by decide) ?_
                                                                                                          obtain ⟨r243, h242, hf⟩ := btn_x hf
                                                                                                          refine l_runR (k := 2) (st1 := [.int r243, .int r240]) (cells' := 8660) (slots' := 57502) (Ds' := [(A0, σ133), (A1, σ55), (A2, σ241)]) M rfl (l_invV (k := 2) (index := 228) S M Cs rfl hl (c_X12_mostFitting l hfl (A2, lBs (lBs (lBs B (q20, v21, t18)) (q64, v65, t62)) (q183, v184, t181)) H.size 0 0 σ241 0 h242) k_X12_mostFitting tw_4_58 tw_4_59 tw_4_57 rfl rfl rfl rfl rfl rfl dL_law_720) rfl rfl rfl rfl (fun H locs M => ?_)
                                                                                                          refine lv_icmp_eq (tgt := 728) hx hb dL_law_723 (by decide) (fun c244 => ?_) (fun c244 => ?_)
                                                                                                          · obtain ⟨-, hf⟩ := gtc_x hf
                                                                                                            refine lv_aload hx hb dL_law_728 (lv_at hl 0 rfl) ?_
                                                                                                            refine lv_iconst (v := 0) hx hb dL_law_730 (by decide) ?_
                                                                                                            refine lv_iconst (v := 0) hx hb dL_law_731 (by decide) ?_
                                                                                                            obtain ⟨r246, σ247, h245, hf⟩ := btn2_x hf
                                                                                                            refine l_runR (k := 2) (st1 := [.int r246]) (cells' := 8661) (slots' := 57508) (Ds' := [(A0, σ133), (A1, σ55), (A2, σ247)]) M rfl (l_invV (k := 2) (index := 57) S M Cs rfl hl (c_X12_put l hfl (A2, lBs (lBs (lBs B (q20, v21, t18)) (q64, v65, t62)) (q183, v184, t181)) H.size 0 0 σ241 0 0 h245) k_X12_put tw_3_14 tw_3_15 tw_3_13 rfl rfl rfl rfl rfl rfl dL_law_732) rfl rfl rfl rfl (fun H locs M => ?_)
                                                                                                            refine lv_iload hx hb dL_law_735 (lv_at hl 1 rfl) ?_
                                                                                                            refine lv_icmp_ne (tgt := 788) hx hb dL_law_737 (by decide) (fun c248 => ?_) (fun c248 => ?_)
                                                                                                            · exact absurd (gtc_x hf).1 c248
                                                                                                            · obtain ⟨-, hf⟩ := gtc_x hf
                                                                                                              refine lv_aload hx hb dL_law_740 (lv_at hl 0 rfl) ?_
                                                                                                              refine lv_iconst (v := 0) hx hb dL_law_742 (by decide) ?_
                                                                                                              obtain ⟨r250, h249, hf⟩ := btn_x hf
                                                                                                              refine l_runR (k := 2) (st1 := [.int r250]) (cells' := 8662) (slots' := 57514) (Ds' := [(A0, σ133), (A1, σ55), (A2, σ247)]) M rfl (l_invV (k := 2) (index := 131) S M Cs rfl hl (c_X12_usesLeft l hfl (A2, lBs (lBs (lBs B (q20, v21, t18)) (q64, v65, t62)) (q183, v184, t181)) H.size 0 0 σ247 0 h249) k_X12_usesLeft tw_3_231 tw_3_232 tw_3_230 rfl rfl rfl rfl rfl rfl dL_law_743) rfl rfl rfl rfl (fun H locs M => ?_)
                                                                                                              refine lv_iconst (v := 2) hx hb dL_law_746 (by decide) ?_
                                                                                                              refine lv_icmp_ne (tgt := 788) hx hb dL_law_747 (by decide) (fun c251 => ?_) (fun c251 => ?_)
                                                                                                              · exact absurd (gtc_x hf).1 c251
                                                                                                              · obtain ⟨-, hf⟩ := gtc_x hf
                                                                                                                refine lv_aload hx hb dL_law_750 (lv_at hl 0 rfl) ?_
                                                                                                                refine lv_iconst (v := 0) hx hb dL_law_752 (by decide) ?_
                                                                                                                refine lv_bipush (v := 31) hx hb dL_law_753 (by decide) ?_
                                                                                                                obtain ⟨r253, σ254, h252, hf⟩ := btn2_x hf
                                                                                                                refine l_runR (k := 2) (st1 := [.int r253]) (cells' := 8663) (slots' := 57520) (Ds' := [(A0, σ133), (A1, σ55), (A2, σ254)]) M rfl (l_invV (k := 2) (index := 54) S M Cs rfl hl (c_X12_setCapacity l hfl (A2, lBs (lBs (lBs B (q20, v21, t18)) (q64, v65, t62)) (q183, v184, t181)) H.size 0 0 σ247 0 31 h252) k_X12_setCapacity tw_2_238 tw_2_239 tw_2_237 rfl rfl rfl rfl rfl rfl dL_law_755) rfl rfl rfl rfl (fun H locs M => ?_)
                                                                                                                refine lv_bipush (v := 30) hx hb dL_law_758 (by decide) ?_
                                                                                                                refine lv_icmp_ne (tgt := 788) hx hb dL_law_760 (by decide) (fun c255 => ?_) (fun c255 => ?_)
                                                                                                                · exact absurd (gtc_x hf).1 c255
                                                                                                                · obtain ⟨-, hf⟩ := gtc_x hf
                                                                                                                  refine lv_aload hx hb dL_law_763 (lv_at hl 0 rfl) ?_
                                                                                                                  refine lv_iconst (v := 1) hx hb dL_law_765 (by decide) ?_
                                                                                                                  refine lv_iconst (v := 0) hx hb dL_law_766 (by decide) ?_
                                                                                                                  obtain ⟨r257, σ258, h256, hf⟩ := btn2_x hf
                                                                                                                  refine l_runR (k := 2) (st1 := [.int r257]) (cells' := 8664) (slots' := 57526) (Ds' := [(A0, σ133), (A1, σ55), (A2, σ258)]) M rfl (l_invV (k := 2) (index := 57) S M Cs rfl hl (c_X12_put l hfl (A2, lBs (lBs (lBs B (q20, v21, t18)) (q64, v65, t62)) (q183, v184, t181)) H.size 0 0 σ254 1 0 h256) k_X12_put tw_3_14 tw_3_15 tw_3_13 rfl rfl rfl rfl rfl rfl dL_law_767) rfl rfl rfl rfl (fun H locs M => ?_)
                                                                                                                  refine lv_iload hx hb dL_law_770 (lv_at hl 1 rfl) ?_
                                                                                                                  refine lv_bipush (v := 20) hx hb dL_law_772 (by decide) ?_
                                                                                                                  refine lv_iadd hx hb dL_law_774 ?_
                                                                                                                  refine lv_icmp_ne (tgt := 788) hx hb dL_law_775 (by decide) (fun c259 => ?_) (fun c259 => ?_)
                                                                                                                  · exact absurd (gtc_x hf).1 c259
                                                                                                                  · obtain ⟨-, hf⟩ := gtc_x hf
                                                                                                                    refine lv_aload hx hb dL_law_778 (lv_at hl 0 rfl) ?_
                                                                                                                    refine lv_iconst (v := 0) hx hb dL_law_780 (by decide) ?_
                                                                                                                    obtain ⟨r261, h260, hf⟩ := btn_x hf
                                                                                                                    refine l_runR (k := 2) (st1 := [.int r261]) (cells' := 8665) (slots' := 57532) (Ds' := [(A0, σ133), (A1, σ55), (A2, σ258)]) M rfl (l_invV (k := 2) (index := 131) S M Cs rfl hl (c_X12_usesLeft l hfl (A2, lBs (lBs (lBs B (q20, v21, t18)) (q64, v65, t62)) (q183, v184, t181)) H.size 0 0 σ258 0 h260) k_X12_usesLeft tw_3_231 tw_3_232 tw_3_230 rfl rfl rfl rfl rfl rfl dL_law_781) rfl rfl rfl rfl (fun H locs M => ?_)
                                                                                                                    refine lv_iconst (v := 2) hx hb dL_law_784 (by decide) ?_
                                                                                                                    refine lv_icmp_eq (tgt := 790) hx hb dL_law_785 (by decide) (fun c262 => ?_) (fun c262 => ?_)
                                                                                                                    · obtain ⟨-, hf⟩ := gtc_x hf
                                                                                                                      refine lv_aload hx hb dL_law_790 (lv_at hl 0 rfl) ?_
                                                                                                                      refine lv_iconst (v := 0) hx hb dL_law_792 (by decide) ?_
                                                                                                                      obtain ⟨r264, h263, hf⟩ := btn_x hf
                                                                                                                      refine l_runR (k := 2) (st1 := [.int r264]) (cells' := 8666) (slots' := 57538) (Ds' := [(A0, σ133), (A1, σ55), (A2, σ258)]) M rfl (l_invV (k := 2) (index := 244) S M Cs rfl hl (c_X12_load l hfl (A2, lBs (lBs (lBs B (q20, v21, t18)) (q64, v65, t62)) (q183, v184, t181)) H.size 0 0 σ258 0 h263) k_X12_load tw_4_53 tw_4_54 tw_4_52 rfl rfl rfl rfl rfl rfl dL_law_793) rfl rfl rfl rfl (fun H locs M => ?_)
                                                                                                                      refine lv_iload hx hb dL_law_796 (lv_at hl 1 rfl) ?_
                                                                                                                      refine lv_bipush (v := 20) hx hb dL_law_798 (by decide) ?_
                                                                                                                      refine lv_iadd hx hb dL_law_800 ?_
                                                                                                                      refine lv_icmp_ne (tgt := 974) hx hb dL_law_801 (by decide) (fun c265 => ?_) (fun c265 => ?_)
                                                                                                                      · exact absurd (gtc_x hf).1 c265
                                                                                                                      · obtain ⟨-, hf⟩ := gtc_x hf
                                                                                                                        refine lv_aload hx hb dL_law_804 (lv_at hl 0 rfl) ?_
                                                                                                                        refine lv_iconst (v := 4) hx hb dL_law_806 (by decide) ?_
                                                                                                                        refine lv_iconst (v := 2) hx hb dL_law_807 (by decide) ?_
                                                                                                                        refine lv_iconst (v := 0) hx hb dL_law_808 (by decide) ?_
                                                                                                                        refine lv_iconst (v := 0) hx hb dL_law_809 (by decide) ?_
                                                                                                                        obtain ⟨r267, σ268, h266, hf⟩ := bd2_x hf
                                                                                                                        refine l_runR (k := 2) (st1 := [.int r267]) (cells' := 8669) (slots' := 57556) (Ds' := [(A0, σ133), (A1, σ55), (A2, σ268)]) M rfl (l_invW (k := 2) (index := 30) S M Cs rfl hl (c_L_act l hfl (A2, lBs (lBs (lBs B (q20, v21, t18)) (q64, v65, t62)) (q183, v184, t181)) H.size 0 0 σ258 4 2 0 0 h266) k_L_act tw_5_152 tw_5_151 rfl rfl rfl rfl dL_law_810) rfl rfl rfl rfl (fun H locs M => ?_)
                                                                                                                        refine lv_bipush (v := (-4)) hx hb dL_law_813 (by decide) ?_
                                                                                                                        refine lv_icmp_ne (tgt := 974) hx hb dL_law_815 (by decide) (fun c269 => ?_) (fun c269 => ?_)
                                                                                                                        · exact absurd (gtc_x hf).1 c269
                                                                                                                        · obtain ⟨-, hf⟩ := gtc_x hf
                                                                                                                          refine lv_aload hx hb dL_law_818 (lv_at hl 0 rfl) ?_
                                                                                                                          refine lv_iconst (v := 2) hx hb dL_law_820 (by decide) ?_
                                                                                                                          refine lv_iconst (v := 1) hx hb dL_law_821 (by decide) ?_
                                                                                                                          obtain ⟨r271, σ272, h270, hf⟩ := btn2_x hf
                                                                                                                          refine l_runR (k := 2) (st1 := [.int r271]) (cells' := 8670) (slots' := 57562) (Ds' := [(A0, σ133), (A1, σ55), (A2, σ272)]) M rfl (l_invV (k := 2) (index := 57) S M Cs rfl hl (c_X12_put l hfl (A2, lBs (lBs (lBs B (q20, v21, t18)) (q64, v65, t62)) (q183, v184, t181)) H.size 0 0 σ268 2 1 h270) k_X12_put tw_3_14 tw_3_15 tw_3_13 rfl rfl rfl rfl rfl rfl dL_law_822) rfl rfl rfl rfl (fun H locs M => ?_)
                                                                                                                          refine lv_bipush (v := 15) hx hb dL_law_825 (by decide) ?_
                                                                                                                          refine lv_icmp_ne (tgt := 974) hx hb dL_law_827 (by decide) (fun c273 => ?_) (fun c273 => ?_)
                                                                                                                          · exact absurd (gtc_x hf).1 c273
                                                                                                                          · obtain ⟨-, hf⟩ := gtc_x hf
                                                                                                                            refine lv_aload hx hb dL_law_830 (lv_at hl 0 rfl) ?_
                                                                                                                            refine lv_iconst (v := 1) hx hb dL_law_832 (by decide) ?_
                                                                                                                            obtain ⟨r275, h274, hf⟩ := btn_x hf
                                                                                                                            refine l_runR (k := 2) (st1 := [.int r275]) (cells' := 8671) (slots' := 57568) (Ds' := [(A0, σ133), (A1, σ55), (A2, σ272)]) M rfl (l_invV (k := 2) (index := 131) S M Cs rfl hl (c_X12_usesLeft l hfl (A2, lBs (lBs (lBs B (q20, v21, t18)) (q64, v65, t62)) (q183, v184, t181)) H.size 0 0 σ272 1 h274) k_X12_usesLeft tw_3_231 tw_3_232 tw_3_230 rfl rfl rfl rfl rfl rfl dL_law_833) rfl rfl rfl rfl (fun H locs M => ?_)
                                                                                                                            refine lv_iconst (v := 2) hx hb dL_law_836 (by decide) ?_
                                                                                                                            refine lv_icmp_ne (tgt := 974) hx hb dL_law_837 (by decide) (fun c276 => ?_) (fun c276 => ?_)
                                                                                                                            · exact absurd (gtc_x hf).1 c276
                                                                                                                            · obtain ⟨-, hf⟩ := gtc_x hf
                                                                                                                              refine lv_aload hx hb dL_law_840 (lv_at hl 0 rfl) ?_
                                                                                                                              refine lv_iconst (v := 0) hx hb dL_law_842 (by decide) ?_
                                                                                                                              refine lv_iconst (v := 2) hx hb dL_law_843 (by decide) ?_
                                                                                                                              obtain ⟨r278, σ279, h277, hf⟩ := btn2_x hf
                                                                                                                              refine l_runR (k := 2) (st1 := [.int r278]) (cells' := 8674) (slots' := 57586) (Ds' := [(A0, σ133), (A1, σ55), (A2, σ279)]) M rfl (l_invV (k := 2) (index := 78) S M Cs rfl hl (c_X12_effortTo l hfl (A2, lBs (lBs (lBs B (q20, v21, t18)) (q64, v65, t62)) (q183, v184, t181)) H.size 0 0 σ272 0 2 h277) k_X12_effortTo tw_4_87 tw_4_88 tw_4_86 rfl rfl rfl rfl rfl rfl dL_law_844) rfl rfl rfl rfl (fun H locs M => ?_)
                                                                                                                              refine lv_iload hx hb dL_law_847 (lv_at hl 2 rfl) ?_
                                                                                                                              refine lv_iconst (v := 3) hx hb dL_law_849 (by decide) ?_
                                                                                                                              refine lv_iadd hx hb dL_law_850 ?_
                                                                                                                              refine lv_iload hx hb dL_law_851 (lv_at hl 1 rfl) ?_
                                                                                                                              refine lv_bipush (v := 20) hx hb dL_law_853 (by decide) ?_
                                                                                                                              refine lv_iadd hx hb dL_law_855 ?_
                                                                                                                              refine lv_imul hx hb dL_law_856 ?_
                                                                                                                              refine lv_icmp_ne (tgt := 974) hx hb dL_law_857 (by decide) (fun c280 => ?_) (fun c280 => ?_)
                                                                                                                              · exact absurd (gtc_x hf).1 c280
                                                                                                                              · obtain ⟨-, hf⟩ := gtc_x hf
                                                                                                                                refine lv_aload hx hb dL_law_860 (lv_at hl 0 rfl) ?_
                                                                                                                                refine lv_iconst (v := 0) hx hb dL_law_862 (by decide) ?_
                                                                                                                                refine lv_iconst (v := 1) hx hb dL_law_863 (by decide) ?_
                                                                                                                                obtain ⟨r282, σ283, h281, hf⟩ := btn2_x hf
                                                                                                                                refine l_runR (k := 2) (st1 := [.int r282]) (cells' := 8675) (slots' := 57592) (Ds' := [(A0, σ133), (A1, σ55), (A2, σ283)]) M rfl (l_invV (k := 2) (index := 63) S M Cs rfl hl (c_X12_carry l hfl (A2, lBs (lBs (lBs B (q20, v21, t18)) (q64, v65, t62)) (q183, v184, t181)) H.size 0 0 σ279 0 1 h281) k_X12_carry tw_3_79 tw_3_80 tw_3_78 rfl rfl rfl rfl rfl rfl dL_law_864) rfl rfl rfl rfl (fun H locs M => ?_)
                                                                                                                                refine lv_iconst (v := 1) hx hb dL_law_867 (by decide) ?_
                                                                                                                                refine lv_icmp_ne (tgt := 974) hx hb dL_law_868 (by decide) (fun c284 => ?_) (fun c284 => ?_)
                                                                                                                                · exact absurd (gtc_x hf).1 c284
                                                                                                                                · obtain ⟨-, hf⟩ := gtc_x hf
                                                                                                                                  refine lv_aload hx hb dL_law_871 (lv_at hl 0 rfl) ?_
                                                                                                                                  refine lv_iconst (v := 1) hx hb dL_law_873 (by decide) ?_
                                                                                                                                  obtain ⟨r286, h285, hf⟩ := btn_x hf
                                                                                                                                  refine l_runR (k := 2) (st1 := [.int r286]) (cells' := 8676) (slots' := 57598) (Ds' := [(A0, σ133), (A1, σ55), (A2, σ283)]) M rfl (l_invV (k := 2) (index := 94) S M Cs rfl hl (c_X12_state l hfl (A2, lBs (lBs (lBs B (q20, v21, t18)) (q64, v65, t62)) (q183, v184, t181)) H.size 0 0 σ283 1 h285) k_X12_state tw_3_182 tw_3_183 tw_3_181 rfl rfl rfl rfl rfl rfl dL_law_874) rfl rfl rfl rfl (fun H locs M => ?_)
                                                                                                                                  refine lv_bipush (v := 100) hx hb dL_law_877 (by decide) ?_
                                                                                                                                  refine lv_icmp_ne (tgt := 974) hx hb dL_law_879 (by decide) (fun c287 => ?_) (fun c287 => ?_)
                                                                                                                                  · exact absurd (gtc_x hf).1 c287
                                                                                                                                  · obtain ⟨-, hf⟩ := gtc_x hf
                                                                                                                                    refine lv_aload hx hb dL_law_882 (lv_at hl 0 rfl) ?_
                                                                                                                                    obtain ⟨r289, h288, hf⟩ := bd_x hf
                                                                                                                                    refine l_runR (k := 2) (st1 := [.int r289]) (cells' := 8676) (slots' := 57598) (Ds' := [(A0, σ133), (A1, σ55), (A2, σ283)]) M rfl (l_invV (k := 2) (index := 100) S M Cs rfl hl (c_X12_effortSoFar l (A2, lBs (lBs (lBs B (q20, v21, t18)) (q64, v65, t62)) (q183, v184, t181)) H.size 0 0 σ283  h288) k_X12_effortSoFar tw_4_95 tw_4_96 tw_4_94 rfl rfl rfl rfl rfl rfl dL_law_884) rfl rfl rfl rfl (fun H locs M => ?_)
                                                                                                                                    refine lv_iload hx hb dL_law_887 (lv_at hl 2 rfl) ?_
                                                                                                                                    refine lv_iload hx hb dL_law_889 (lv_at hl 1 rfl) ?_
                                                                                                                                    refine lv_bipush (v := 20) hx hb dL_law_891 (by decide) ?_
                                                                                                                                    refine lv_iadd hx hb dL_law_893 ?_
                                                                                                                                    refine lv_imul hx hb dL_law_894 ?_
                                                                                                                                    refine lv_icmp_ne (tgt := 974) hx hb dL_law_895 (by decide) (fun c290 => ?_) (fun c290 => ?_)
                                                                                                                                    · exact absurd (gtc_x hf).1 c290
                                                                                                                                    · obtain ⟨-, hf⟩ := gtc_x hf
                                                                                                                                      refine lv_aload hx hb dL_law_898 (lv_at hl 0 rfl) ?_
                                                                                                                                      refine lv_iconst (v := 0) hx hb dL_law_900 (by decide) ?_
                                                                                                                                      obtain ⟨r292, h291, hf⟩ := btn_x hf
                                                                                                                                      refine l_runR (k := 2) (st1 := [.int r292]) (cells' := 8677) (slots' := 57604) (Ds' := [(A0, σ133), (A1, σ55), (A2, σ283)]) M rfl (l_invV (k := 2) (index := 244) S M Cs rfl hl (c_X12_load l hfl (A2, lBs (lBs (lBs B (q20, v21, t18)) (q64, v65, t62)) (q183, v184, t181)) H.size 0 0 σ283 0 h291) k_X12_load tw_4_53 tw_4_54 tw_4_52 rfl rfl rfl rfl rfl rfl dL_law_901) rfl rfl rfl rfl (fun H locs M => ?_)
                                                                                                                                      refine lv_iload hx hb dL_law_904 (lv_at hl 1 rfl) ?_
                                                                                                                                      refine lv_icmp_ne (tgt := 974) hx hb dL_law_906 (by decide) (fun c293 => ?_) (fun c293 => ?_)
                                                                                                                                      · exact absurd (gtc_x hf).1 c293
                                                                                                                                      · obtain ⟨-, hf⟩ := gtc_x hf
                                                                                                                                        refine lv_aload hx hb dL_law_909 (lv_at hl 0 rfl) ?_
                                                                                                                                        refine lv_iconst (v := 0) hx hb dL_law_911 (by decide) ?_
                                                                                                                                        refine lv_iconst (v := 2) hx hb dL_law_912 (by decide) ?_
                                                                                                                                        obtain ⟨r295, σ296, h294, hf⟩ := btn2_x hf
                                                                                                                                        refine l_runR (k := 2) (st1 := [.int r295]) (cells' := 8678) (slots' := 57610) (Ds' := [(A0, σ133), (A1, σ55), (A2, σ296)]) M rfl (l_invV (k := 2) (index := 63) S M Cs rfl hl (c_X12_carry l hfl (A2, lBs (lBs (lBs B (q20, v21, t18)) (q64, v65, t62)) (q183, v184, t181)) H.size 0 0 σ283 0 2 h294) k_X12_carry tw_3_79 tw_3_80 tw_3_78 rfl rfl rfl rfl rfl rfl dL_law_913) rfl rfl rfl rfl (fun H locs M => ?_)
                                                                                                                                        refine lv_iconst (v := 1) hx hb dL_law_916 (by decide) ?_
                                                                                                                                        refine lv_icmp_ne (tgt := 974) hx hb dL_law_917 (by decide) (fun c297 => ?_) (fun c297 => ?_)
                                                                                                                                        · exact absurd (gtc_x hf).1 c297
                                                                                                                                        · obtain ⟨-, hf⟩ := gtc_x hf
                                                                                                                                          refine lv_aload hx hb dL_law_920 (lv_at hl 0 rfl) ?_
                                                                                                                                          obtain ⟨r299, h298, hf⟩ := bd_x hf
                                                                                                                                          refine l_runR (k := 2) (st1 := [.int r299]) (cells' := 8678) (slots' := 57610) (Ds' := [(A0, σ133), (A1, σ55), (A2, σ296)]) M rfl (l_invV (k := 2) (index := 100) S M Cs rfl hl (c_X12_effortSoFar l (A2, lBs (lBs (lBs B (q20, v21, t18)) (q64, v65, t62)) (q183, v184, t181)) H.size 0 0 σ296  h298) k_X12_effortSoFar tw_4_95 tw_4_96 tw_4_94 rfl rfl rfl rfl rfl rfl dL_law_922) rfl rfl rfl rfl (fun H locs M => ?_)
                                                                                                                                          refine lv_iload hx hb dL_law_925 (lv_at hl 2 rfl) ?_
                                                                                                                                          refine lv_iload hx hb dL_law_927 (lv_at hl 1 rfl) ?_
                                                                                                                                          refine lv_bipush (v := 20) hx hb dL_law_929 (by decide) ?_
                                                                                                                                          refine lv_iadd hx hb dL_law_931 ?_
                                                                                                                                          refine lv_imul hx hb dL_law_932 ?_
                                                                                                                                          refine lv_iconst (v := 3) hx hb dL_law_933 (by decide) ?_
                                                                                                                                          refine lv_iload hx hb dL_law_934 (lv_at hl 1 rfl) ?_
                                                                                                                                          refine lv_imul hx hb dL_law_936 ?_
                                                                                                                                          refine lv_iadd hx hb dL_law_937 ?_
                                                                                                                                          refine lv_icmp_ne (tgt := 974) hx hb dL_law_938 (by decide) (fun c300 => ?_) (fun c300 => ?_)
                                                                                                                                          · exact absurd (gtc_x hf).1 c300
                                                                                                                                          · obtain ⟨-, hf⟩ := gtc_x hf
                                                                                                                                            refine lv_aload hx hb dL_law_941 (lv_at hl 0 rfl) ?_
                                                                                                                                            refine lv_iconst (v := 0) hx hb dL_law_943 (by decide) ?_
                                                                                                                                            obtain ⟨r302, h301, hf⟩ := btn_x hf
                                                                                                                                            refine l_runR (k := 2) (st1 := [.int r302]) (cells' := 8679) (slots' := 57616) (Ds' := [(A0, σ133), (A1, σ55), (A2, σ296)]) M rfl (l_invV (k := 2) (index := 134) S M Cs rfl hl (c_X12_place l hfl (A2, lBs (lBs (lBs B (q20, v21, t18)) (q64, v65, t62)) (q183, v184, t181)) H.size 0 0 σ296 0 h301) k_X12_place tw_4_43 tw_4_44 tw_4_42 rfl rfl rfl rfl rfl rfl dL_law_944) rfl rfl rfl rfl (fun H locs M => ?_)
                                                                                                                                            refine lv_iconst (v := 2) hx hb dL_law_947 (by decide) ?_
                                                                                                                                            refine lv_icmp_ne (tgt := 974) hx hb dL_law_948 (by decide) (fun c303 => ?_) (fun c303 => ?_)
                                                                                                                                            · exact absurd (gtc_x hf).1 c303
                                                                                                                                            · obtain ⟨-, hf⟩ := gtc_x hf
                                                                                                                                              refine lv_aload hx hb dL_law_951 (lv_at hl 0 rfl) ?_
                                                                                                                                              refine lv_iconst (v := 5) hx hb dL_law_953 (by decide) ?_
                                                                                                                                              refine lv_iconst (v := 0) hx hb dL_law_954 (by decide) ?_
                                                                                                                                              refine lv_iconst (v := 0) hx hb dL_law_955 (by decide) ?_
                                                                                                                                              refine lv_iconst (v := 0) hx hb dL_law_956 (by decide) ?_
                                                                                                                                              obtain ⟨r305, σ306, h304, hf⟩ := bd2_x hf
                                                                                                                                              refine l_runR (k := 2) (st1 := [.int r305]) (cells' := 8682) (slots' := 57634) (Ds' := [(A0, σ133), (A1, σ55), (A2, σ306)]) M rfl (l_invW (k := 2) (index := 30) S M Cs rfl hl (c_L_act l hfl (A2, lBs (lBs (lBs B (q20, v21, t18)) (q64, v65, t62)) (q183, v184, t181)) H.size 0 0 σ296 5 0 0 0 h304) k_L_act tw_5_152 tw_5_151 rfl rfl rfl rfl dL_law_957) rfl rfl rfl rfl (fun H locs M => ?_)
                                                                                                                                              refine lv_bipush (v := (-3)) hx hb dL_law_960 (by decide) ?_
                                                                                                                                              refine lv_icmp_ne (tgt := 974) hx hb dL_law_962 (by decide) (fun c307 => ?_) (fun c307 => ?_)
                                                                                                                                              · exact absurd (gtc_x hf).1 c307
                                                                                                                                              · obtain ⟨-, hf⟩ := gtc_x hf
                                                                                                                                                refine lv_aload hx hb dL_law_965 (lv_at hl 0 rfl) ?_
                                                                                                                                                obtain ⟨r309, h308, hf⟩ := bd_x hf
                                                                                                                                                refine l_runR (k := 2) (st1 := [.int r309]) (cells' := 8682) (slots' := 57634) (Ds' := [(A0, σ133), (A1, σ55), (A2, σ306)]) M rfl (l_invV (k := 2) (index := 247) S M Cs rfl hl (c_X12_deliveredCount l (A2, lBs (lBs (lBs B (q20, v21, t18)) (q64, v65, t62)) (q183, v184, t181)) H.size 0 0 σ306  h308) k_X12_deliveredCount tw_3_211 tw_3_212 tw_3_210 rfl rfl rfl rfl rfl rfl dL_law_967) rfl rfl rfl rfl (fun H locs M => ?_)
                                                                                                                                                refine lv_iconst (v := 2) hx hb dL_law_970 (by decide) ?_
                                                                                                                                                refine lv_icmp_eq (tgt := 976) hx hb dL_law_971 (by decide) (fun c310 => ?_) (fun c310 => ?_)
                                                                                                                                                · obtain ⟨-, hf⟩ := gtc_x hf
                                                                                                                                                  refine lv_aload hx hb dL_law_976 (lv_at hl 0 rfl) ?_
                                                                                                                                                  refine lv_iconst (v := 0) hx hb dL_law_978 (by decide) ?_
                                                                                                                                                  obtain ⟨r312, σ313, h311, hf⟩ := btn2_x hf
                                                                                                                                                  refine l_runR (k := 2) (st1 := [.int r312]) (cells' := 8683) (slots' := 57640) (Ds' := [(A0, σ133), (A1, σ55), (A2, σ313)]) M rfl (l_invV (k := 2) (index := 66) S M Cs rfl hl (c_X12_comeBack l hfl (A2, lBs (lBs (lBs B (q20, v21, t18)) (q64, v65, t62)) (q183, v184, t181)) H.size 0 0 σ306 0 h311) k_X12_comeBack tw_3_115 tw_3_116 tw_3_114 rfl rfl rfl rfl rfl rfl dL_law_979) rfl rfl rfl rfl (fun H locs M => ?_)
                                                                                                                                                  refine lv_iconst (v := 3) hx hb dL_law_982 (by decide) ?_
                                                                                                                                                  refine lv_icmp_ne (tgt := 1154) hx hb dL_law_983 (by decide) (fun c314 => ?_) (fun c314 => ?_)
                                                                                                                                                  · exact absurd (gtc_x hf).1 c314
                                                                                                                                                  · obtain ⟨-, hf⟩ := gtc_x hf
                                                                                                                                                    refine lv_aload hx hb dL_law_986 (lv_at hl 0 rfl) ?_
                                                                                                                                                    refine lv_iconst (v := 1) hx hb dL_law_988 (by decide) ?_
                                                                                                                                                    obtain ⟨r316, σ317, h315, hf⟩ := btn2_x hf
                                                                                                                                                    refine l_runR (k := 2) (st1 := [.int r316]) (cells' := 8684) (slots' := 57646) (Ds' := [(A0, σ133), (A1, σ55), (A2, σ317)]) M rfl (l_invV (k := 2) (index := 66) S M Cs rfl hl (c_X12_comeBack l hfl (A2, lBs (lBs (lBs B (q20, v21, t18)) (q64, v65, t62)) (q183, v184, t181)) H.size 0 0 σ313 1 h315) k_X12_comeBack tw_3_115 tw_3_116 tw_3_114 rfl rfl rfl rfl rfl rfl dL_law_989) rfl rfl rfl rfl (fun H locs M => ?_)
                                                                                                                                                    refine lv_iconst (v := 1) hx hb dL_law_992 (by decide) ?_
                                                                                                                                                    refine lv_icmp_ne (tgt := 1154) hx hb dL_law_993 (by decide) (fun c318 => ?_) (fun c318 => ?_)
                                                                                                                                                    · exact absurd (gtc_x hf).1 c318
                                                                                                                                                    · obtain ⟨-, hf⟩ := gtc_x hf
                                                                                                                                                      refine lv_aload hx hb dL_law_996 (lv_at hl 0 rfl) ?_
                                                                                                                                                      refine lv_bipush (v := 7) hx hb dL_law_998 (by decide) ?_
                                                                                                                                                      refine lv_iconst (v := 1) hx hb dL_law_1000 (by decide) ?_
                                                                                                                                                      refine lv_iconst (v := 0) hx hb dL_law_1001 (by decide) ?_
                                                                                                                                                      refine lv_iconst (v := 0) hx hb dL_law_1002 (by decide) ?_
                                                                                                                                                      obtain ⟨r320, σ321, h319, hf⟩ := bd2_x hf
                                                                                                                                                      refine l_runR (k := 2) (st1 := [.int r320]) (cells' := 8687) (slots' := 57664) (Ds' := [(A0, σ133), (A1, σ55), (A2, σ321)]) M rfl (l_invW (k := 2) (index := 30) S M Cs rfl hl (c_L_act l hfl (A2, lBs (lBs (lBs B (q20, v21, t18)) (q64, v65, t62)) (q183, v184, t181)) H.size 0 0 σ317 7 1 0 0 h319) k_L_act tw_5_152 tw_5_151 rfl rfl rfl rfl dL_law_1003) rfl rfl rfl rfl (fun H locs M => ?_)
                                                                                                                                                      refine lv_bipush (v := (-3)) hx hb dL_law_1006 (by decide) ?_
                                                                                                                                                      refine lv_icmp_ne (tgt := 1154) hx hb dL_law_1008 (by decide) (fun c322 => ?_) (fun c322 => ?_)
                                                                                                                                                      · exact absurd (gtc_x hf).1 c322
                                                                                                                                                      · obtain ⟨-, hf⟩ := gtc_x hf
                                                                                                                                                        refine lv_aload hx hb dL_law_1011 (lv_at hl 0 rfl) ?_
                                                                                                                                                        refine lv_iconst (v := 1) hx hb dL_law_1013 (by decide) ?_
                                                                                                                                                        obtain ⟨r324, h323, hf⟩ := btn_x hf
                                                                                                                                                        refine l_runR (k := 2) (st1 := [.int r324]) (cells' := 8688) (slots' := 57670) (Ds' := [(A0, σ133), (A1, σ55), (A2, σ321)]) M rfl (l_invV (k := 2) (index := 122) S M Cs rfl hl (c_X12_returns l hfl (A2, lBs (lBs (lBs B (q20, v21, t18)) (q64, v65, t62)) (q183, v184, t181)) H.size 0 0 σ321 1 h323) k_X12_returns tw_3_195 tw_3_196 tw_3_194 rfl rfl rfl rfl rfl rfl dL_law_1014) rfl rfl rfl rfl (fun H locs M => ?_)
                                                                                                                                                        refine lv_iconst (v := 1) hx hb dL_law_1017 (by decide) ?_
                                                                                                                                                        refine lv_icmp_ne (tgt := 1154) hx hb dL_law_1018 (by decide) (fun c325 => ?_) (fun c325 => ?_)
                                                                                                                                                        · exact absurd (gtc_x hf).1 c325
                                                                                                                                                        · obtain ⟨-, hf⟩ := gtc_x hf
                                                                                                                                                          refine lv_aload hx hb dL_law_1021 (lv_at hl 0 rfl) ?_
                                                                                                                                                          refine lv_iconst (v := 0) hx hb dL_law_1023 (by decide) ?_
                                                                                                                                                          obtain ⟨r327, h326, hf⟩ := btn_x hf
                                                                                                                                                          refine l_runR (k := 2) (st1 := [.int r327]) (cells' := 8690) (slots' := 57682) (Ds' := [(A0, σ133), (A1, σ55), (A2, σ321)]) M rfl (l_invV (k := 2) (index := 75) S M Cs rfl hl (c_X12_gloveFor l hfl (A2, lBs (lBs (lBs B (q20, v21, t18)) (q64, v65, t62)) (q183, v184, t181)) H.size 0 0 σ321 0 h326) k_X12_gloveFor tw_3_239 tw_4_0 tw_3_238 rfl rfl rfl rfl rfl rfl dL_law_1024) rfl rfl rfl rfl (fun H locs M => ?_)
                                                                                                                                                          refine lv_iconst (v := 1) hx hb dL_law_1027 (by decide) ?_
                                                                                                                                                          refine lv_icmp_ne (tgt := 1154) hx hb dL_law_1028 (by decide) (fun c328 => ?_) (fun c328 => ?_)
                                                                                                                                                          · exact absurd (gtc_x hf).1 c328
                                                                                                                                                          · obtain ⟨-, hf⟩ := gtc_x hf
                                                                                                                                                            refine lv_aload hx hb dL_law_1031 (lv_at hl 0 rfl) ?_
                                                                                                                                                            refine lv_iconst (v := 1) hx hb dL_law_1033 (by decide) ?_
                                                                                                                                                            obtain ⟨r330, h329, hf⟩ := btn_x hf
                                                                                                                                                            refine l_runR (k := 2) (st1 := [.int r330]) (cells' := 8692) (slots' := 57694) (Ds' := [(A0, σ133), (A1, σ55), (A2, σ321)]) M rfl (l_invV (k := 2) (index := 75) S M Cs rfl hl (c_X12_gloveFor l hfl (A2, lBs (lBs (lBs B (q20, v21, t18)) (q64, v65, t62)) (q183, v184, t181)) H.size 0 0 σ321 1 h329) k_X12_gloveFor tw_3_239 tw_4_0 tw_3_238 rfl rfl rfl rfl rfl rfl dL_law_1034) rfl rfl rfl rfl (fun H locs M => ?_)
                                                                                                                                                            refine lv_if_ne (tgt := 1154) hx hb dL_law_1037 (by decide) (fun c331 => ?_) (fun c331 => ?_)
                                                                                                                                                            · exact absurd (gtc_x hf).1 c331
                                                                                                                                                            · obtain ⟨-, hf⟩ := gtc_x hf
                                                                                                                                                              refine lv_aload hx hb dL_law_1040 (lv_at hl 0 rfl) ?_
                                                                                                                                                              refine lv_iconst (v := 2) hx hb dL_law_1042 (by decide) ?_
                                                                                                                                                              obtain ⟨r333, σ334, h332, hf⟩ := btn2_x hf
                                                                                                                                                              refine l_runR (k := 2) (st1 := [.int r333]) (cells' := 8693) (slots' := 57700) (Ds' := [(A0, σ133), (A1, σ55), (A2, σ334)]) M rfl (l_invV (k := 2) (index := 60) S M Cs rfl hl (c_X12_takeOut l hfl (A2, lBs (lBs (lBs B (q20, v21, t18)) (q64, v65, t62)) (q183, v184, t181)) H.size 0 0 σ321 2 h332) k_X12_takeOut tw_3_71 tw_3_72 tw_3_70 rfl rfl rfl rfl rfl rfl dL_law_1043) rfl rfl rfl rfl (fun H locs M => ?_)
                                                                                                                                                              refine lv_iconst (v := 1) hx hb dL_law_1046 (by decide) ?_
                                                                                                                                                              refine lv_icmp_ne (tgt := 1154) hx hb dL_law_1047 (by decide) (fun c335 => ?_) (fun c335 => ?_)
                                                                                                                                                              · exact absurd (gtc_x hf).1 c335
                                                                                                                                                              · obtain ⟨-, hf⟩ := gtc_x hf
                                                                                                                                                                refine lv_aload hx hb dL_law_1050 (lv_at hl 0 rfl) ?_
                                                                                                                                                                refine lv_iconst (v := 1) hx hb dL_law_1052 (by decide) ?_
                                                                                                                                                                obtain ⟨r337, h336, hf⟩ := btn_x hf
                                                                                                                                                                refine l_runR (k := 2) (st1 := [.int r337]) (cells' := 8694) (slots' := 57706) (Ds' := [(A0, σ133), (A1, σ55), (A2, σ334)]) M rfl (l_invV (k := 2) (index := 131) S M Cs rfl hl (c_X12_usesLeft l hfl (A2, lBs (lBs (lBs B (q20, v21, t18)) (q64, v65, t62)) (q183, v184, t181)) H.size 0 0 σ334 1 h336) k_X12_usesLeft tw_3_231 tw_3_232 tw_3_230 rfl rfl rfl rfl rfl rfl dL_law_1053) rfl rfl rfl rfl (fun H locs M => ?_)
                                                                                                                                                                refine lv_iconst (v := 1) hx hb dL_law_1056 (by decide) ?_
                                                                                                                                                                refine lv_icmp_ne (tgt := 1154) hx hb dL_law_1057 (by decide) (fun c338 => ?_) (fun c338 => ?_)
                                                                                                                                                                · exact absurd (gtc_x hf).1 c338
                                                                                                                                                                · obtain ⟨-, hf⟩ := gtc_x hf
                                                                                                                                                                  refine lv_aload hx hb dL_law_1060 (lv_at hl 0 rfl) ?_
                                                                                                                                                                  obtain ⟨r340, σ341, h339, hf⟩ := bd2_x hf
                                                                                                                                                                  refine l_runR (k := 2) (st1 := [.int r340]) (cells' := 8694) (slots' := 57706) (Ds' := [(A0, σ133), (A1, σ55), (A2, σ341)]) M rfl (l_invV (k := 2) (index := 225) S M Cs rfl hl (c_X12_handleable l (A2, lBs (lBs (lBs B (q20, v21, t18)) (q64, v65, t62)) (q183, v184, t181)) H.size 0 0 σ334  h339) k_X12_handleable tw_4_10 tw_4_11 tw_4_9 rfl rfl rfl rfl rfl rfl dL_law_1062) rfl rfl rfl rfl (fun H locs M => ?_)
                                                                                                                                                                  refine lv_iconst (v := 2) hx hb dL_law_1065 (by decide) ?_
                                                                                                                                                                  refine lv_icmp_ne (tgt := 1154) hx hb dL_law_1066 (by decide) (fun c342 => ?_) (fun c342 => ?_)
                                                                                                                                                                  · exact absurd (gtc_x hf).1 c342
                                                                                                                                                                  · obtain ⟨-, hf⟩ := gtc_x hf
                                                                                                                                                                    refine lv_aload hx hb dL_law_1069 (lv_at hl 0 rfl) ?_
                                                                                                                                                                    refine lv_iconst (v := 2) hx hb dL_law_1071 (by decide) ?_
                                                                                                                                                                    refine lv_iconst (v := 2) hx hb dL_law_1072 (by decide) ?_
                                                                                                                                                                    obtain ⟨r344, σ345, h343, hf⟩ := btn2_x hf
                                                                                                                                                                    refine l_runR (k := 2) (st1 := [.int r344]) (cells' := 8695) (slots' := 57712) (Ds' := [(A0, σ133), (A1, σ55), (A2, σ345)]) M rfl (l_invV (k := 2) (index := 57) S M Cs rfl hl (c_X12_put l hfl (A2, lBs (lBs (lBs B (q20, v21, t18)) (q64, v65, t62)) (q183, v184, t181)) H.size 0 0 σ341 2 2 h343) k_X12_put tw_3_14 tw_3_15 tw_3_13 rfl rfl rfl rfl rfl rfl dL_law_1073) rfl rfl rfl rfl (fun H locs M => ?_)
                                                                                                                                                                    refine lv_bipush (v := 15) hx hb dL_law_1076 (by decide) ?_
                                                                                                                                                                    refine lv_icmp_ne (tgt := 1154) hx hb dL_law_1078 (by decide) (fun c346 => ?_) (fun c346 => ?_)
                                                                                                                                                                    · exact absurd (gtc_x hf).1 c346
                                                                                                                                                                    · obtain ⟨-, hf⟩ := gtc_x hf
                                                                                                                                                                      refine lv_aload hx hb dL_law_1081 (lv_at hl 0 rfl) ?_
                                                                                                                                                                      obtain ⟨r348, h347, hf⟩ := bd_x hf
                                                                                                                                                                      refine l_runR (k := 2) (st1 := [.int r348]) (cells' := 8695) (slots' := 57712) (Ds' := [(A0, σ133), (A1, σ55), (A2, σ345)]) M rfl (l_invV (k := 2) (index := 125) S M Cs rfl hl (c_X12_gloveCount l (A2, lBs (lBs (lBs B (q20, v21, t18)) (q64, v65, t62)) (q183, v184, t181)) H.size 0 0 σ345  h347) k_X12_gloveCount tw_3_215 tw_3_216 tw_3_214 rfl rfl rfl rfl rfl rfl dL_law_1083) rfl rfl rfl rfl (fun H locs M => ?_)
                                                                                                                                                                      refine lv_iconst (v := 1) hx hb dL_law_1086 (by decide) ?_
                                                                                                                                                                      refine lv_icmp_ne (tgt := 1154) hx hb dL_law_1087 (by decide) (fun c349 => ?_) (fun c349 => ?_)
                                                                                                                                                                      · exact absurd (gtc_x hf).1 c349
                                                                                                                                                                      · obtain ⟨-, hf⟩ := gtc_x hf
                                                                                                                                                                        refine lv_aload hx hb dL_law_1090 (lv_at hl 0 rfl) ?_
                                                                                                                                                                        obtain ⟨r351, h350, hf⟩ := bd_x hf
                                                                                                                                                                        refine l_runR (k := 2) (st1 := [.int r351]) (cells' := 8695) (slots' := 57712) (Ds' := [(A0, σ133), (A1, σ55), (A2, σ345)]) M rfl (l_invV (k := 2) (index := 103) S M Cs rfl hl (c_X12_glovesUsedUp l (A2, lBs (lBs (lBs B (q20, v21, t18)) (q64, v65, t62)) (q183, v184, t181)) H.size 0 0 σ345  h350) k_X12_glovesUsedUp tw_4_103 tw_4_104 tw_4_102 rfl rfl rfl rfl rfl rfl dL_law_1092) rfl rfl rfl rfl (fun H locs M => ?_)
                                                                                                                                                                        refine lv_iconst (v := 1) hx hb dL_law_1095 (by decide) ?_
                                                                                                                                                                        refine lv_icmp_ne (tgt := 1154) hx hb dL_law_1096 (by decide) (fun c352 => ?_) (fun c352 => ?_)
                                                                                                                                                                        · exact absurd (gtc_x hf).1 c352
                                                                                                                                                                        · obtain ⟨-, hf⟩ := gtc_x hf
                                                                                                                                                                          refine lv_aload hx hb dL_law_1099 (lv_at hl 0 rfl) ?_
                                                                                                                                                                          refine lv_iconst (v := 0) hx hb dL_law_1101 (by decide) ?_
                                                                                                                                                                          obtain ⟨r354, h353, hf⟩ := btn_x hf
                                                                                                                                                                          refine l_runR (k := 2) (st1 := [.int r354]) (cells' := 8696) (slots' := 57718) (Ds' := [(A0, σ133), (A1, σ55), (A2, σ345)]) M rfl (l_invV (k := 2) (index := 128) S M Cs rfl hl (c_X12_grade l hfl (A2, lBs (lBs (lBs B (q20, v21, t18)) (q64, v65, t62)) (q183, v184, t181)) H.size 0 0 σ345 0 h353) k_X12_grade tw_3_223 tw_3_224 tw_3_222 rfl rfl rfl rfl rfl rfl dL_law_1102) rfl rfl rfl rfl (fun H locs M => ?_)
                                                                                                                                                                          refine lv_iconst (v := 2) hx hb dL_law_1105 (by decide) ?_
                                                                                                                                                                          refine lv_icmp_ne (tgt := 1154) hx hb dL_law_1106 (by decide) (fun c355 => ?_) (fun c355 => ?_)
                                                                                                                                                                          · exact absurd (gtc_x hf).1 c355
                                                                                                                                                                          · obtain ⟨-, hf⟩ := gtc_x hf
                                                                                                                                                                            refine lv_aload hx hb dL_law_1109 (lv_at hl 0 rfl) ?_
                                                                                                                                                                            refine lv_iconst (v := 0) hx hb dL_law_1111 (by decide) ?_
                                                                                                                                                                            obtain ⟨r357, h356, hf⟩ := btn_x hf
                                                                                                                                                                            refine l_runR (k := 2) (st1 := [.int r357]) (cells' := 8697) (slots' := 57724) (Ds' := [(A0, σ133), (A1, σ55), (A2, σ345)]) M rfl (l_invV (k := 2) (index := 250) S M Cs rfl hl (c_X12_canHandle l hfl (A2, lBs (lBs (lBs B (q20, v21, t18)) (q64, v65, t62)) (q183, v184, t181)) H.size 0 0 σ345 0 h356) k_X12_canHandle tw_4_5 tw_4_6 tw_4_4 rfl rfl rfl rfl rfl rfl dL_law_1112) rfl rfl rfl rfl (fun H locs M => ?_)
                                                                                                                                                                            refine lv_if_ne (tgt := 1154) hx hb dL_law_1115 (by decide) (fun c358 => ?_) (fun c358 => ?_)
                                                                                                                                                                            · exact absurd (gtc_x hf).1 c358
                                                                                                                                                                            · obtain ⟨-, hf⟩ := gtc_x hf
                                                                                                                                                                              refine lv_aload hx hb dL_law_1118 (lv_at hl 0 rfl) ?_
                                                                                                                                                                              refine lv_iconst (v := 4) hx hb dL_law_1120 (by decide) ?_
                                                                                                                                                                              refine lv_iconst (v := 0) hx hb dL_law_1121 (by decide) ?_
                                                                                                                                                                              refine lv_iconst (v := 0) hx hb dL_law_1122 (by decide) ?_
                                                                                                                                                                              refine lv_iconst (v := 0) hx hb dL_law_1123 (by decide) ?_
                                                                                                                                                                              obtain ⟨r360, σ361, h359, hf⟩ := bd2_x hf
                                                                                                                                                                              refine l_runR (k := 2) (st1 := [.int r360]) (cells' := 8700) (slots' := 57742) (Ds' := [(A0, σ133), (A1, σ55), (A2, σ361)]) M rfl (l_invW (k := 2) (index := 30) S M Cs rfl hl (c_L_act l hfl (A2, lBs (lBs (lBs B (q20, v21, t18)) (q64, v65, t62)) (q183, v184, t181)) H.size 0 0 σ345 4 0 0 0 h359) k_L_act tw_5_152 tw_5_151 rfl rfl rfl rfl dL_law_1124) rfl rfl rfl rfl (fun H locs M => ?_)
                                                                                                                                                                              refine lv_bipush (v := (-5)) hx hb dL_law_1127 (by decide) ?_
                                                                                                                                                                              refine lv_icmp_ne (tgt := 1154) hx hb dL_law_1129 (by decide) (fun c362 => ?_) (fun c362 => ?_)
                                                                                                                                                                              · exact absurd (gtc_x hf).1 c362
                                                                                                                                                                              · obtain ⟨-, hf⟩ := gtc_x hf
                                                                                                                                                                                refine lv_aload hx hb dL_law_1132 (lv_at hl 0 rfl) ?_
                                                                                                                                                                                refine lv_iconst (v := 1) hx hb dL_law_1134 (by decide) ?_
                                                                                                                                                                                refine lv_iconst (v := 0) hx hb dL_law_1135 (by decide) ?_
                                                                                                                                                                                obtain ⟨r364, σ365, h363, hf⟩ := btn2_x hf
                                                                                                                                                                                refine l_runR (k := 2) (st1 := [.int r364]) (cells' := 8701) (slots' := 57748) (Ds' := [(A0, σ133), (A1, σ55), (A2, σ365)]) M rfl (l_invV (k := 2) (index := 57) S M Cs rfl hl (c_X12_put l hfl (A2, lBs (lBs (lBs B (q20, v21, t18)) (q64, v65, t62)) (q183, v184, t181)) H.size 0 0 σ361 1 0 h363) k_X12_put tw_3_14 tw_3_15 tw_3_13 rfl rfl rfl rfl rfl rfl dL_law_1136) rfl rfl rfl rfl (fun H locs M => ?_)
                                                                                                                                                                                refine lv_bipush (v := 20) hx hb dL_law_1139 (by decide) ?_
                                                                                                                                                                                refine lv_icmp_ne (tgt := 1154) hx hb dL_law_1141 (by decide) (fun c366 => ?_) (fun c366 => ?_)
                                                                                                                                                                                · exact absurd (gtc_x hf).1 c366
                                                                                                                                                                                · obtain ⟨-, hf⟩ := gtc_x hf
                                                                                                                                                                                  refine lv_aload hx hb dL_law_1144 (lv_at hl 0 rfl) ?_
                                                                                                                                                                                  refine lv_iconst (v := 0) hx hb dL_law_1146 (by decide) ?_
                                                                                                                                                                                  obtain ⟨r368, h367, hf⟩ := btn_x hf
                                                                                                                                                                                  refine l_runR (k := 2) (st1 := [.int r368]) (cells' := 8702) (slots' := 57754) (Ds' := [(A0, σ133), (A1, σ55), (A2, σ365)]) M rfl (l_invV (k := 2) (index := 131) S M Cs rfl hl (c_X12_usesLeft l hfl (A2, lBs (lBs (lBs B (q20, v21, t18)) (q64, v65, t62)) (q183, v184, t181)) H.size 0 0 σ365 0 h367) k_X12_usesLeft tw_3_231 tw_3_232 tw_3_230 rfl rfl rfl rfl rfl rfl dL_law_1147) rfl rfl rfl rfl (fun H locs M => ?_)
                                                                                                                                                                                  refine lv_iconst (v := 1) hx hb dL_law_1150 (by decide) ?_
                                                                                                                                                                                  refine lv_icmp_eq (tgt := 1156) hx hb dL_law_1151 (by decide) (fun c369 => ?_) (fun c369 => ?_)
                                                                                                                                                                                  · obtain ⟨-, hf⟩ := gtc_x hf
                                                                                                                                                                                    refine lv_aload hx hb dL_law_1156 (lv_at hl 0 rfl) ?_
                                                                                                                                                                                    refine lv_aload hx hb dL_law_1158 (lv_at hl 0 rfl) ?_
                                                                                                                                                                                    refine lv_iconst (v := 0) hx hb dL_law_1160 (by decide) ?_
                                                                                                                                                                                    obtain ⟨r371, σ372, h370, hf⟩ := btn2_x hf
                                                                                                                                                                                    refine l_runR (k := 2) (st1 := [.int r371, .ref (A2 0)]) (cells' := 8703) (slots' := 57760) (Ds' := [(A0, σ133), (A1, σ55), (A2, σ372)]) M rfl (l_invV (k := 2) (index := 254) S M Cs rfl hl (c_X12_writeSack l hfl (A2, lBs (lBs (lBs B (q20, v21, t18)) (q64, v65, t62)) (q183, v184, t181)) H.size 0 0 σ365 0 h370) k_X12_writeSack tw_5_73 tw_5_74 tw_5_72 rfl rfl rfl rfl rfl rfl dL_law_1161) rfl rfl rfl rfl (fun H locs M => ?_)
                                                                                                                                                                                    refine l_ldcW hx hb S.2.2.2.1 (show vk_R "ParcelDepotLaw" 257 "s0@2 20h>1" (gtK (lz B) 33) s from Cs.2.2.1 33 (by decide)) dL_law_1164 ?_
                                                                                                                                                                                    obtain ⟨r374, h373, hf⟩ := bd_x hf
                                                                                                                                                                                    refine l_runR (k := 2) (st1 := [.int r374]) (cells' := 8723) (slots' := 57880) (Ds' := [(A0, σ133), (A1, σ55), (A2, σ372)]) M rfl (l_invS (k := 2) (index := 259) S M Cs rfl hl (c_L_isLine l hfl (A2, lBs (lBs (lBs B (q20, v21, t18)) (q64, v65, t62)) (q183, v184, t181)) H.size 0 0 σ372 r371 (gStr_k (A2, lBs (lBs (lBs B (q20, v21, t18)) (q64, v65, t62)) (q183, v184, t181)) (k := 33) (by decide) (by decide)) h373) k_L_isLine tw_5_226 tw_5_225 rfl rfl rfl rfl dL_law_1167) rfl rfl rfl rfl (fun H locs M => ?_)
                                                                                                                                                                                    refine lv_if_eq (tgt := 1288) hx hb dL_law_1170 (by decide) (fun c375 => ?_) (fun c375 => ?_)
                                                                                                                                                                                    · exact absurd c375 (gfc_x hf).1
                                                                                                                                                                                    · obtain ⟨-, hf⟩ := gfc_x hf
                                                                                                                                                                                      refine lv_aload hx hb dL_law_1173 (lv_at hl 0 rfl) ?_
                                                                                                                                                                                      refine lv_iconst (v := 0) hx hb dL_law_1175 (by decide) ?_
                                                                                                                                                                                      obtain ⟨r377, h376, hf⟩ := btn_x hf
                                                                                                                                                                                      refine l_runR (k := 2) (st1 := [.int r377]) (cells' := 8724) (slots' := 57886) (Ds' := [(A0, σ133), (A1, σ55), (A2, σ372)]) M rfl (l_invV (k := 2) (index := 263) S M Cs rfl hl (c_X12_heaviest l hfl (A2, lBs (lBs (lBs B (q20, v21, t18)) (q64, v65, t62)) (q183, v184, t181)) H.size 0 0 σ372 0 h376) k_X12_heaviest tw_4_111 tw_4_112 tw_4_110 rfl rfl rfl rfl rfl rfl dL_law_1176) rfl rfl rfl rfl (fun H locs M => ?_)
                                                                                                                                                                                      refine lv_iconst (v := 1) hx hb dL_law_1179 (by decide) ?_
                                                                                                                                                                                      refine lv_icmp_ne (tgt := 1288) hx hb dL_law_1180 (by decide) (fun c378 => ?_) (fun c378 => ?_)
                                                                                                                                                                                      · exact absurd (gtc_x hf).1 c378
                                                                                                                                                                                      · obtain ⟨-, hf⟩ := gtc_x hf
                                                                                                                                                                                        refine lv_aload hx hb dL_law_1183 (lv_at hl 0 rfl) ?_
                                                                                                                                                                                        refine lv_iconst (v := 1) hx hb dL_law_1185 (by decide) ?_
                                                                                                                                                                                        obtain ⟨r380, h379, hf⟩ := btn_x hf
                                                                                                                                                                                        refine l_runR (k := 2) (st1 := [.int r380]) (cells' := 8725) (slots' := 57892) (Ds' := [(A0, σ133), (A1, σ55), (A2, σ372)]) M rfl (l_invV (k := 2) (index := 263) S M Cs rfl hl (c_X12_heaviest l hfl (A2, lBs (lBs (lBs B (q20, v21, t18)) (q64, v65, t62)) (q183, v184, t181)) H.size 0 0 σ372 1 h379) k_X12_heaviest tw_4_111 tw_4_112 tw_4_110 rfl rfl rfl rfl rfl rfl dL_law_1186) rfl rfl rfl rfl (fun H locs M => ?_)
                                                                                                                                                                                        refine lv_iconst (v := 2) hx hb dL_law_1189 (by decide) ?_
                                                                                                                                                                                        refine lv_icmp_ne (tgt := 1288) hx hb dL_law_1190 (by decide) (fun c381 => ?_) (fun c381 => ?_)
                                                                                                                                                                                        · exact absurd (gtc_x hf).1 c381
                                                                                                                                                                                        · obtain ⟨-, hf⟩ := gtc_x hf
                                                                                                                                                                                          refine lv_aload hx hb dL_law_1193 (lv_at hl 0 rfl) ?_
                                                                                                                                                                                          refine lv_iconst (v := 2) hx hb dL_law_1195 (by decide) ?_
                                                                                                                                                                                          obtain ⟨r383, h382, hf⟩ := btn_x hf
                                                                                                                                                                                          refine l_runR (k := 2) (st1 := [.int r383]) (cells' := 8726) (slots' := 57898) (Ds' := [(A0, σ133), (A1, σ55), (A2, σ372)]) M rfl (l_invV (k := 2) (index := 263) S M Cs rfl hl (c_X12_heaviest l hfl (A2, lBs (lBs (lBs B (q20, v21, t18)) (q64, v65, t62)) (q183, v184, t181)) H.size 0 0 σ372 2 h382) k_X12_heaviest tw_4_111 tw_4_112 tw_4_110 rfl rfl rfl rfl rfl rfl dL_law_1196) rfl rfl rfl rfl (fun H locs M => ?_)
                                                                                                                                                                                          refine lv_if_ne (tgt := 1288) hx hb dL_law_1199 (by decide) (fun c384 => ?_) (fun c384 => ?_)
                                                                                                                                                                                          · exact absurd (gtc_x hf).1 c384
                                                                                                                                                                                          · obtain ⟨-, hf⟩ := gtc_x hf
                                                                                                                                                                                            refine lv_aload hx hb dL_law_1202 (lv_at hl 0 rfl) ?_
                                                                                                                                                                                            obtain ⟨r386, h385, hf⟩ := bd_x hf
                                                                                                                                                                                            refine l_runR (k := 2) (st1 := [.int r386]) (cells' := 8726) (slots' := 57898) (Ds' := [(A0, σ133), (A1, σ55), (A2, σ372)]) M rfl (l_invV (k := 2) (index := 266) S M Cs rfl hl (c_X12_waitingCount l (A2, lBs (lBs (lBs B (q20, v21, t18)) (q64, v65, t62)) (q183, v184, t181)) H.size 0 0 σ372  h385) k_X12_waitingCount tw_3_203 tw_3_204 tw_3_202 rfl rfl rfl rfl rfl rfl dL_law_1204) rfl rfl rfl rfl (fun H locs M => ?_)
                                                                                                                                                                                            refine lv_iconst (v := 1) hx hb dL_law_1207 (by decide) ?_
                                                                                                                                                                                            refine lv_icmp_ne (tgt := 1288) hx hb dL_law_1208 (by decide) (fun c387 => ?_) (fun c387 => ?_)
                                                                                                                                                                                            · exact absurd (gtc_x hf).1 c387
                                                                                                                                                                                            · obtain ⟨-, hf⟩ := gtc_x hf
                                                                                                                                                                                              refine lv_aload hx hb dL_law_1211 (lv_at hl 0 rfl) ?_
                                                                                                                                                                                              refine lv_iconst (v := 3) hx hb dL_law_1213 (by decide) ?_
                                                                                                                                                                                              refine lv_iconst (v := 0) hx hb dL_law_1214 (by decide) ?_
                                                                                                                                                                                              refine lv_bipush (v := 19) hx hb dL_law_1215 (by decide) ?_
                                                                                                                                                                                              refine lv_iconst (v := 0) hx hb dL_law_1217 (by decide) ?_
                                                                                                                                                                                              obtain ⟨r389, σ390, h388, hf⟩ := bd2_x hf
                                                                                                                                                                                              refine l_runR (k := 2) (st1 := [.int r389]) (cells' := 8729) (slots' := 57916) (Ds' := [(A0, σ133), (A1, σ55), (A2, σ390)]) M rfl (l_invW (k := 2) (index := 30) S M Cs rfl hl (c_L_act l hfl (A2, lBs (lBs (lBs B (q20, v21, t18)) (q64, v65, t62)) (q183, v184, t181)) H.size 0 0 σ372 3 0 19 0 h388) k_L_act tw_5_152 tw_5_151 rfl rfl rfl rfl dL_law_1218) rfl rfl rfl rfl (fun H locs M => ?_)
                                                                                                                                                                                              refine lv_bipush (v := (-3)) hx hb dL_law_1221 (by decide) ?_
                                                                                                                                                                                              refine lv_icmp_ne (tgt := 1288) hx hb dL_law_1223 (by decide) (fun c391 => ?_) (fun c391 => ?_)
                                                                                                                                                                                              · exact absurd (gtc_x hf).1 c391
                                                                                                                                                                                              · obtain ⟨-, hf⟩ := gtc_x hf
                                                                                                                                                                                                refine lv_aload hx hb dL_law_1226 (lv_at hl 0 rfl) ?_
                                                                                                                                                                                                refine lv_iconst (v := 0) hx hb dL_law_1228 (by decide) ?_
                                                                                                                                                                                                refine lv_bipush (v := 20) hx hb dL_law_1229 (by decide) ?_
                                                                                                                                                                                                obtain ⟨r393, σ394, h392, hf⟩ := btn2_x hf
                                                                                                                                                                                                refine l_runR (k := 2) (st1 := [.int r393]) (cells' := 8730) (slots' := 57922) (Ds' := [(A0, σ133), (A1, σ55), (A2, σ394)]) M rfl (l_invV (k := 2) (index := 54) S M Cs rfl hl (c_X12_setCapacity l hfl (A2, lBs (lBs (lBs B (q20, v21, t18)) (q64, v65, t62)) (q183, v184, t181)) H.size 0 0 σ390 0 20 h392) k_X12_setCapacity tw_2_238 tw_2_239 tw_2_237 rfl rfl rfl rfl rfl rfl dL_law_1231) rfl rfl rfl rfl (fun H locs M => ?_)
                                                                                                                                                                                                refine lv_bipush (v := 31) hx hb dL_law_1234 (by decide) ?_
                                                                                                                                                                                                refine lv_icmp_ne (tgt := 1288) hx hb dL_law_1236 (by decide) (fun c395 => ?_) (fun c395 => ?_)
                                                                                                                                                                                                · exact absurd (gtc_x hf).1 c395
                                                                                                                                                                                                · obtain ⟨-, hf⟩ := gtc_x hf
                                                                                                                                                                                                  refine lv_aload hx hb dL_law_1239 (lv_at hl 0 rfl) ?_
                                                                                                                                                                                                  obtain ⟨r397, h396, hf⟩ := btn_x hf
                                                                                                                                                                                                  refine l_runR (k := 2) (st1 := [.double r397]) (cells' := 8731) (slots' := 57928) (Ds' := [(A0, σ133), (A1, σ55), (A2, σ394)]) M rfl (l_invV (k := 2) (index := 269) S M Cs rfl hl (c_X12_meanHazard l hfl (A2, lBs (lBs (lBs B (q20, v21, t18)) (q64, v65, t62)) (q183, v184, t181)) H.size 0 0 σ394  h396) k_X12_meanHazard tw_4_127 tw_4_128 tw_4_126 rfl rfl rfl rfl rfl rfl dL_law_1241) rfl rfl rfl rfl (fun H locs M => ?_)
                                                                                                                                                                                                  refine lv_ldc2d (v := 4612436618365282987) hx hb S.2.2.2.1 (S.2.2.2.2 _ tw_6_238) dL_law_1244 ?_
                                                                                                                                                                                                  refine lv_dcmp hx hb dL_law_1247 ?_
                                                                                                                                                                                                  refine lv_if_ne (tgt := 1288) hx hb dL_law_1248 (by decide) (fun c398 => ?_) (fun c398 => ?_)
                                                                                                                                                                                                  · exact absurd (gtc_x hf).1 c398
                                                                                                                                                                                                  · obtain ⟨-, hf⟩ := gtc_x hf
                                                                                                                                                                                                    refine lv_aload hx hb dL_law_1251 (lv_at hl 0 rfl) ?_
                                                                                                                                                                                                    obtain ⟨r400, h399, hf⟩ := btn_x hf
                                                                                                                                                                                                    refine l_runR (k := 2) (st1 := [.float r400]) (cells' := 8732) (slots' := 57934) (Ds' := [(A0, σ133), (A1, σ55), (A2, σ394)]) M rfl (l_invV (k := 2) (index := 275) S M Cs rfl hl (c_X12_deliveredShare l hfl (A2, lBs (lBs (lBs B (q20, v21, t18)) (q64, v65, t62)) (q183, v184, t181)) H.size 0 0 σ394  h399) k_X12_deliveredShare tw_4_151 tw_4_152 tw_4_150 rfl rfl rfl rfl rfl rfl dL_law_1253) rfl rfl rfl rfl (fun H locs M => ?_)
                                                                                                                                                                                                    refine lv_fconst0 hx hb dL_law_1256 ?_
                                                                                                                                                                                                    refine lv_fcmp hx hb dL_law_1257 ?_
                                                                                                                                                                                                    refine lv_if_ne (tgt := 1288) hx hb dL_law_1258 (by decide) (fun c401 => ?_) (fun c401 => ?_)
                                                                                                                                                                                                    · exact absurd (gtc_x hf).1 c401
                                                                                                                                                                                                    · obtain ⟨-, hf⟩ := gtc_x hf
                                                                                                                                                                                                      refine lv_aload hx hb dL_law_1261 (lv_at hl 0 rfl) ?_
                                                                                                                                                                                                      obtain ⟨r403, σ404, h402, hf⟩ := btn2_x hf
                                                                                                                                                                                                      refine l_runR (k := 2) (st1 := [.int r403]) (cells' := 8733) (slots' := 57940) (Ds' := [(A0, σ133), (A1, σ55), (A2, σ404)]) M rfl (l_invV (k := 2) (index := 179) S M Cs rfl hl (c_X12_undo l hfl (A2, lBs (lBs (lBs B (q20, v21, t18)) (q64, v65, t62)) (q183, v184, t181)) H.size 0 0 σ394  h402) k_X12_undo tw_5_102 tw_5_103 tw_5_101 rfl rfl rfl rfl rfl rfl dL_law_1263) rfl rfl rfl rfl (fun H locs M => ?_)
                                                                                                                                                                                                      refine lv_if_lt (tgt := 1288) hx hb dL_law_1266 (by decide) (fun c405 => ?_) (fun c405 => ?_)
                                                                                                                                                                                                      · exact absurd c405 (gfc_x hf).1
                                                                                                                                                                                                      · obtain ⟨-, hf⟩ := gfc_x hf
                                                                                                                                                                                                        refine lv_aload hx hb dL_law_1269 (lv_at hl 0 rfl) ?_
                                                                                                                                                                                                        refine lv_iconst (v := 0) hx hb dL_law_1271 (by decide) ?_
                                                                                                                                                                                                        obtain ⟨r407, h406, hf⟩ := btn_x hf
                                                                                                                                                                                                        refine l_runR (k := 2) (st1 := [.int r407]) (cells' := 8734) (slots' := 57946) (Ds' := [(A0, σ133), (A1, σ55), (A2, σ404)]) M rfl (l_invV (k := 2) (index := 137) S M Cs rfl hl (c_X12_capacity l hfl (A2, lBs (lBs (lBs B (q20, v21, t18)) (q64, v65, t62)) (q183, v184, t181)) H.size 0 0 σ404 0 h406) k_X12_capacity tw_4_48 tw_4_49 tw_4_47 rfl rfl rfl rfl rfl rfl dL_law_1272) rfl rfl rfl rfl (fun H locs M => ?_)
                                                                                                                                                                                                        refine lv_bipush (v := 31) hx hb dL_law_1275 (by decide) ?_
                                                                                                                                                                                                        refine lv_icmp_ne (tgt := 1288) hx hb dL_law_1277 (by decide) (fun c408 => ?_) (fun c408 => ?_)
                                                                                                                                                                                                        · exact absurd (gtc_x hf).1 c408
                                                                                                                                                                                                        · obtain ⟨-, hf⟩ := gtc_x hf
                                                                                                                                                                                                          refine lv_aload hx hb dL_law_1280 (lv_at hl 0 rfl) ?_
                                                                                                                                                                                                          obtain ⟨r410, σ411, h409, hf⟩ := bd2_x hf
                                                                                                                                                                                                          refine l_runR (k := 2) (st1 := [.int r410]) (cells' := 8734) (slots' := 57946) (Ds' := [(A0, σ133), (A1, σ55), (A2, σ411)]) M rfl (l_invV (k := 2) (index := 218) S M Cs rfl hl (c_X12_isConsistent l (A2, lBs (lBs (lBs B (q20, v21, t18)) (q64, v65, t62)) (q183, v184, t181)) H.size 0 0 σ404  h409) k_X12_isConsistent tw_4_155 tw_4_156 tw_4_154 rfl rfl rfl rfl rfl rfl dL_law_1282) rfl rfl rfl rfl (fun H locs M => ?_)
                                                                                                                                                                                                          refine lv_if_ne (tgt := 1290) hx hb dL_law_1285 (by decide) (fun c412 => ?_) (fun c412 => ?_)
                                                                                                                                                                                                          · obtain ⟨-, hf⟩ := gfc_x hf
                                                                                                                                                                                                            refine lv_aload_n hx hb dL_law_1290 rfl (lv_at hl 8 rfl) ?_
                                                                                                                                                                                                            obtain ⟨r414, σ415, h413, hf⟩ := btn2_x hf
                                                                                                                                                                                                            refine l_runR (k := 0) (st1 := [.int r414]) (cells' := 8735) (slots' := 57952) (Ds' := [(A0, σ415), (A1, σ55), (A2, σ411)]) M rfl (l_invV (k := 0) (index := 279) S M Cs rfl hl (c_X12_restore l hfl (A0, lBs (lBs (lBs B (q20, v21, t18)) (q64, v65, t62)) (q183, v184, t181)) H.size 0 0 σ133  h413) k_X12_restore tw_5_120 tw_5_121 tw_5_119 rfl rfl rfl rfl rfl rfl dL_law_1291) rfl rfl rfl rfl (fun H locs M => ?_)
                                                                                                                                                                                                            refine lv_iload_n hx hb dL_law_1294 rfl (lv_at hl 6 rfl) ?_
                                                                                                                                                                                                            refine lv_icmp_ne (tgt := 1311) hx hb dL_law_1295 (by decide) (fun c416 => ?_) (fun c416 => ?_)
                                                                                                                                                                                                            · exact absurd (gtc_x hf).1 c416
                                                                                                                                                                                                            · obtain ⟨-, hf⟩ := gtc_x hf
                                                                                                                                                                                                              refine lv_aload_n hx hb dL_law_1298 rfl (lv_at hl 8 rfl) ?_
                                                                                                                                                                                                              obtain ⟨r418, h417, hf⟩ := bd_x hf
                                                                                                                                                                                                              refine l_runR (k := 0) (st1 := [.int r418]) (cells' := 9491) (slots' := 62488) (Ds' := [(A0, σ415), (A1, σ55), (A2, σ411)]) M rfl (l_invS (k := 0) (index := 152) S M Cs rfl hl (c_L_state l hfl (A0, lBs (lBs (lBs B (q20, v21, t18)) (q64, v65, t62)) (q183, v184, t181)) H.size 0 0 σ415  h417) k_L_state tw_5_193 tw_5_192 rfl rfl rfl rfl dL_law_1299) rfl rfl rfl rfl (fun H locs M => ?_)
                                                                                                                                                                                                              refine lv_iload hx hb dL_law_1302 (lv_at hl 5 rfl) ?_
                                                                                                                                                                                                              refine lv_icmp_ne (tgt := 1311) hx hb dL_law_1304 (by decide) (fun c419 => ?_) (fun c419 => ?_)
                                                                                                                                                                                                              · exact absurd (gtc_x hf).1 c419
                                                                                                                                                                                                              · obtain ⟨-, hf⟩ := gtc_x hf
                                                                                                                                                                                                                refine lv_iconst (v := 1) hx hb dL_law_1307 (by decide) ?_
                                                                                                                                                                                                                refine lv_goto (tgt := 1312) hx hb dL_law_1308 (by decide) ?_
                                                                                                                                                                                                                refine W.widen (k := 9491) (n := 62488) (by decide) (by decide) ?_
                                                                                                                                                                                                                exact kend _ _ _ _ _ M
                                                                                                                                                                                                          · exact absurd c412 (gfc_x hf).1
                                                                                                                                                                                  · exact absurd (gtc_x hf).1 c369
                                                                                                                                                · exact absurd (gtc_x hf).1 c310
                                                                                                                    · exact absurd (gtc_x hf).1 c262
                                                                                                          · exact absurd (gtc_x hf).1 c244
                                                                                                      · clear hf
                                                                                                        refine lv_icmp_gt (tgt := 707) hx hb dL_law_700 (by decide) (fun c235 => ?_) (fun c235 => ?_)
                                                                                                        · have hf := it_p c235 hj237
                                                                                                          refine lv_iconst (v := 1) hx hb dL_law_707 (by decide) ?_
                                                                                                          cases hf
                                                                                                          exact kJ _ _ _ ⟨M, hl⟩
                                                                                                        · have hf := it_n c235 hj237
                                                                                                          refine lv_iconst (v := 2) hx hb dL_law_703 (by decide) ?_
                                                                                                          refine lv_goto (tgt := 708) hx hb dL_law_704 (by decide) ?_
                                                                                                          cases hf
                                                                                                          exact kJ _ _ _ ⟨M, hl⟩
                                                                            · exact absurd (gtc_x hf).1 c178
                                                          · exact absurd (gtc_x hf).1 c140
                                · exact absurd (gtc_x hf).1 c90
                          · exact absurd (gtc_x hf).1 c78
                    · exact absurd (gtc_x hf).1 c59
          · exact absurd (gtc_x hf).1 c41
  · clear hf
    refine lv_icmp_ne (tgt := 34) hx hb dL_law_27 (by decide) (fun c12 => ?_) (fun c12 => ?_)
    · have hf := it_n c12 hj14
      refine lv_iconst (v := 1) hx hb dL_law_34 (by decide) ?_
      cases hf
      exact kJ _ _ _ ⟨M, hl⟩
    · have hf := it_p c12 hj14
      refine lv_iconst (v := 0) hx hb dL_law_30 (by decide) ?_
      refine lv_goto (tgt := 35) hx hb dL_law_31 (by decide) ?_
      cases hf
      exact kJ _ _ _ ⟨M, hl⟩
