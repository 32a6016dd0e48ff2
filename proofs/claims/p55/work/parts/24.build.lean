def tb_L_act : List (Nat × Nat × Nat × Nat) := [(0, 68, 144, 81), (69, 77, 144, 81), (78, 83, 144, 81), (84, 90, 144, 81), (91, 97, 144, 81), (98, 103, 144, 81), (104, 110, 144, 81), (111, 116, 144, 81), (117, 123, 144, 81), (124, 130, 144, 81), (131, 136, 144, 81), (137, 143, 144, 81), (0, 68, 148, 83), (69, 77, 148, 83), (78, 83, 148, 83), (84, 90, 148, 83), (91, 97, 148, 83), (98, 103, 148, 83), (104, 110, 148, 83), (111, 116, 148, 83), (117, 123, 148, 83), (124, 130, 148, 83), (131, 136, 148, 83), (137, 143, 148, 83), (0, 68, 153, 85), (69, 77, 153, 85), (78, 83, 153, 85), (84, 90, 153, 85), (91, 97, 153, 85), (98, 103, 153, 85), (104, 110, 153, 85), (111, 116, 153, 85), (117, 123, 153, 85), (124, 130, 153, 85), (131, 136, 153, 85), (137, 143, 153, 85), (0, 68, 158, 87), (69, 77, 158, 87), (78, 83, 158, 87), (84, 90, 158, 87), (91, 97, 158, 87), (98, 103, 158, 87), (104, 110, 158, 87), (111, 116, 158, 87), (117, 123, 158, 87), (124, 130, 158, 87), (131, 136, 158, 87), (137, 143, 158, 87), (0, 68, 163, 89), (69, 77, 163, 89), (78, 83, 163, 89), (84, 90, 163, 89), (91, 97, 163, 89), (98, 103, 163, 89), (104, 110, 163, 89), (111, 116, 163, 89), (117, 123, 163, 89), (124, 130, 163, 89), (131, 136, 163, 89), (137, 143, 163, 89)]
theorem k_L_act : gMW yL_act cL_act 6 (some .int) tb_L_act 5 := ⟨tw_5_153, tw_1_0, by decide⟩
set_option maxHeartbeats 1000000 in
set_option maxRecDepth 100000 in
theorem c_L_act (l : Launch) (hfl : l.stackTraces = false) (G : gT) (sz : Nat) (lo : Int64) (dd : UInt64) (σ : gM) (a1 : Int32) (a2 : Int32) (a3 : Int32) (a4 : Int32) {r : Int32} {o : gM} (hf : f_L_act σ a1 a2 a3 a4 = some (r, o)) : gCW l yL_act cL_act 6 (some .int) tb_L_act { frames := 10, cells := 3, slots := 18, locals := 168 } 3 18 G sz [.ref (G.1 0), .int a1, .int a2, .int a3, .int a4] lo dd σ (.inl (mkI r, o, lo, dd)) := by
  refine gCW_of (by decide) tw_5_153 (Nat.le_of_ble_eq_true rfl) (fun p e s m args below meth c ls S hr hlk htab hsz C0 hl H locs M => ?_)
  subst hsz
  have hx := S.1
  have hb := S.2.1
  unfold f_L_act at hf
  refine lv_iload_n hx hb dL_act_0 rfl (lv_at hl 1 rfl) ?_
  by_cases c1 : a1 = 0
  · have hf := it_p c1 hf
    refine g_top c1 ?_
    refine lv_tableIn (off := 59) (tgt := 60) hx hb dL_act_1 (by decide) (by decide) rfl (by decide) ?_
    refine lv_aload_n hx hb dL_act_60 rfl (lv_at hl 0 rfl) ?_
    refine lv_iload_n hx hb dL_act_61 rfl (lv_at hl 2 rfl) ?_
    refine lv_iload_n hx hb dL_act_62 rfl (lv_at hl 3 rfl) ?_
    refine lv_iload hx hb dL_act_63 (lv_at hl 4 rfl) ?_
    rcases bt2_x hf with ⟨r3, σ4, h2, hf⟩ | ⟨n5, σ4, h2, hf⟩
    · refine g_callR (st1 := [.int r3]) (cells' := 1) (slots' := 6) M (g_invV (index := 43) S M C0 hl (c_X12_buildRoad l hfl G H.size lo dd σ a2 a3 a4 h2) k_X12_buildRoad tw_5_180 tw_5_181 tw_5_179 (by decide) (ge_0 rfl) rfl rfl rfl rfl rfl rfl dL_act_65) rfl rfl rfl (fun H locs M => ?_)
      cases hf
      exact g_iret S M hr hlk (by omega) (by omega) dL_act_68 rfl
    · refine g_runX (cells' := 1) (slots' := 6) M (g_invV (index := 43) S M C0 hl (c_X12_buildRoad l hfl G H.size lo dd σ a2 a3 a4 h2) k_X12_buildRoad tw_5_180 tw_5_181 tw_5_179 (by decide) (ge_0 rfl) rfl rfl rfl rfl rfl rfl dL_act_65) rfl rfl (fun ce q H locs M hq hv hcl => ?_)
      by_cases hc : n5 = 0
      · have hf := it_p hc hf
        subst hc
        refine vx_catch (E := "java/lang/IndexOutOfBoundsException") (name := "java/lang/IndexOutOfBoundsException") S.2.2.2.1 (tableOf (tb_L_act.take 0)) ⟨0, 68, 144, 81⟩ (tableOf (tb_L_act.drop 1)) (htab.trans rfl) (l_pass tb_L_act 0 65 [] gp_n (by decide +kernel)) rfl (by decide) (S.2.2.2.2 _ tw_5_154) (va_any rfl (C0.2.1 _ (by decide +kernel))) hq hv hcl ?_
        refine lv_astore (lv' := [(5, .ref q), (0, .ref (G.1 0)), (1, .int a1), (2, .int a2), (3, .int a3), (4, .int a4)]) hx hb dL_act_144 hl (by decide) rfl (fun ls hl => ?_)
        refine lv_iconst (v := (-1)) hx hb dL_act_146 (by decide) ?_
        cases hf
        exact g_iret S M hr hlk (by omega) (by omega) dL_act_147 rfl
      · have hf := it_n hc hf
        by_cases hc : n5 = 1
        · have hf := it_p hc hf
          subst hc
          refine vx_catch (E := "java/lang/IllegalArgumentException") (name := "java/lang/IllegalArgumentException") S.2.2.2.1 (tableOf (tb_L_act.take 12)) ⟨0, 68, 148, 83⟩ (tableOf (tb_L_act.drop 13)) (htab.trans rfl) (l_pass tb_L_act 12 65 [(81, "java/lang/IndexOutOfBoundsException")] (gp_c ⟨by decide, S.2.2.2.2 _ tw_5_154, C0.2.2.2.1.1 ("java/lang/IllegalArgumentException", "java/lang/IndexOutOfBoundsException") (by decide +kernel)⟩ gp_n) (by decide +kernel)) rfl (by decide) (S.2.2.2.2 _ tw_5_175) (va_any rfl (C0.2.1 _ (by decide +kernel))) hq hv hcl ?_
          refine lv_astore (lv' := [(5, .ref q), (0, .ref (G.1 0)), (1, .int a1), (2, .int a2), (3, .int a3), (4, .int a4)]) hx hb dL_act_148 hl (by decide) rfl (fun ls hl => ?_)
          refine lv_bipush (v := (-2)) hx hb dL_act_150 (by decide) ?_
          cases hf
          exact g_iret S M hr hlk (by omega) (by omega) dL_act_152 rfl
        · have hf := it_n hc hf
          by_cases hc : n5 = 2
          · have hf := it_p hc hf
            subst hc
            refine vx_catch (E := "java/lang/IllegalStateException") (name := "java/lang/IllegalStateException") S.2.2.2.1 (tableOf (tb_L_act.take 24)) ⟨0, 68, 153, 85⟩ (tableOf (tb_L_act.drop 25)) (htab.trans rfl) (l_pass tb_L_act 24 65 [(81, "java/lang/IndexOutOfBoundsException"), (83, "java/lang/IllegalArgumentException")] (gp_c ⟨by decide, S.2.2.2.2 _ tw_5_154, C0.2.2.2.1.1 ("java/lang/IllegalStateException", "java/lang/IndexOutOfBoundsException") (by decide +kernel)⟩ (gp_c ⟨by decide, S.2.2.2.2 _ tw_5_175, C0.2.2.2.1.1 ("java/lang/IllegalStateException", "java/lang/IllegalArgumentException") (by decide +kernel)⟩ gp_n)) (by decide +kernel)) rfl (by decide) (S.2.2.2.2 _ tw_5_176) (va_any rfl (C0.2.1 _ (by decide +kernel))) hq hv hcl ?_
            refine lv_astore (lv' := [(5, .ref q), (0, .ref (G.1 0)), (1, .int a1), (2, .int a2), (3, .int a3), (4, .int a4)]) hx hb dL_act_153 hl (by decide) rfl (fun ls hl => ?_)
            refine lv_bipush (v := (-3)) hx hb dL_act_155 (by decide) ?_
            cases hf
            exact g_iret S M hr hlk (by omega) (by omega) dL_act_157 rfl
          · have hf := it_n hc hf
            by_cases hc : n5 = 3
            · have hf := it_p hc hf
              subst hc
              refine vx_catch (E := "java/lang/UnsupportedOperationException") (name := "java/lang/UnsupportedOperationException") S.2.2.2.1 (tableOf (tb_L_act.take 36)) ⟨0, 68, 158, 87⟩ (tableOf (tb_L_act.drop 37)) (htab.trans rfl) (l_pass tb_L_act 36 65 [(81, "java/lang/IndexOutOfBoundsException"), (83, "java/lang/IllegalArgumentException"), (85, "java/lang/IllegalStateException")] (gp_c ⟨by decide, S.2.2.2.2 _ tw_5_154, C0.2.2.2.1.1 ("java/lang/UnsupportedOperationException", "java/lang/IndexOutOfBoundsException") (by decide +kernel)⟩ (gp_c ⟨by decide, S.2.2.2.2 _ tw_5_175, C0.2.2.2.1.1 ("java/lang/UnsupportedOperationException", "java/lang/IllegalArgumentException") (by decide +kernel)⟩ (gp_c ⟨by decide, S.2.2.2.2 _ tw_5_176, C0.2.2.2.1.1 ("java/lang/UnsupportedOperationException", "java/lang/IllegalStateException") (by decide +kernel)⟩ gp_n))) (by decide +kernel)) rfl (by decide) (S.2.2.2.2 _ tw_5_177) (va_any rfl (C0.2.1 _ (by decide +kernel))) hq hv hcl ?_
              refine lv_astore (lv' := [(5, .ref q), (0, .ref (G.1 0)), (1, .int a1), (2, .int a2), (3, .int a3), (4, .int a4)]) hx hb dL_act_158 hl (by decide) rfl (fun ls hl => ?_)
              refine lv_bipush (v := (-4)) hx hb dL_act_160 (by decide) ?_
              cases hf
              exact g_iret S M hr hlk (by omega) (by omega) dL_act_162 rfl
            · have hf := it_n hc hf
              by_cases hc : n5 = 4
              · have hf := it_p hc hf
                subst hc
                refine vx_catch (E := "java/util/NoSuchElementException") (name := "java/util/NoSuchElementException") S.2.2.2.1 (tableOf (tb_L_act.take 48)) ⟨0, 68, 163, 89⟩ (tableOf (tb_L_act.drop 49)) (htab.trans rfl) (l_pass tb_L_act 48 65 [(81, "java/lang/IndexOutOfBoundsException"), (83, "java/lang/IllegalArgumentException"), (85, "java/lang/IllegalStateException"), (87, "java/lang/UnsupportedOperationException")] (gp_c ⟨by decide, S.2.2.2.2 _ tw_5_154, C0.2.2.2.1.1 ("java/util/NoSuchElementException", "java/lang/IndexOutOfBoundsException") (by decide +kernel)⟩ (gp_c ⟨by decide, S.2.2.2.2 _ tw_5_175, C0.2.2.2.1.1 ("java/util/NoSuchElementException", "java/lang/IllegalArgumentException") (by decide +kernel)⟩ (gp_c ⟨by decide, S.2.2.2.2 _ tw_5_176, C0.2.2.2.1.1 ("java/util/NoSuchElementException", "java/lang/IllegalStateException") (by decide +kernel)⟩ (gp_c ⟨by decide, S.2.2.2.2 _ tw_5_177, C0.2.2.2.1.1 ("java/util/NoSuchElementException", "java/lang/UnsupportedOperationException") (by decide +kernel)⟩ gp_n)))) (by decide +kernel)) rfl (by decide) (S.2.2.2.2 _ tw_5_178) (va_any rfl (C0.2.1 _ (by decide +kernel))) hq hv hcl ?_
                refine lv_astore (lv' := [(5, .ref q), (0, .ref (G.1 0)), (1, .int a1), (2, .int a2), (3, .int a3), (4, .int a4)]) hx hb dL_act_163 hl (by decide) rfl (fun ls hl => ?_)
                refine lv_bipush (v := (-5)) hx hb dL_act_165 (by decide) ?_
                cases hf
                exact g_iret S M hr hlk (by omega) (by omega) dL_act_167 rfl
              · have hf := it_n hc hf
                cases hf
  · have hf := it_n c1 hf
    by_cases c6 : a1 = 1
    · have hf := it_p c6 hf
      refine g_top c6 ?_
      refine lv_tableIn (off := 68) (tgt := 69) hx hb dL_act_1 (by decide) (by decide) rfl (by decide) ?_
      refine lv_aload_n hx hb dL_act_69 rfl (lv_at hl 0 rfl) ?_
      refine lv_iload_n hx hb dL_act_70 rfl (lv_at hl 2 rfl) ?_
      refine lv_iload_n hx hb dL_act_71 rfl (lv_at hl 3 rfl) ?_
      refine lv_iload hx hb dL_act_72 (lv_at hl 4 rfl) ?_
      rcases bt2_x hf with ⟨r8, σ9, h7, hf⟩ | ⟨n10, σ9, h7, hf⟩
      · refine g_callR (st1 := [.int r8]) (cells' := 1) (slots' := 6) M (g_invV (index := 47) S M C0 hl (c_X12_acceptParcel l hfl G H.size lo dd σ a2 a3 a4 h7) k_X12_acceptParcel tw_2_36 tw_2_37 tw_2_35 (by decide) (ge_0 rfl) rfl rfl rfl rfl rfl rfl dL_act_74) rfl rfl rfl (fun H locs M => ?_)
        cases hf
        exact g_iret S M hr hlk (by omega) (by omega) dL_act_77 rfl
      · refine g_runX (cells' := 1) (slots' := 6) M (g_invV (index := 47) S M C0 hl (c_X12_acceptParcel l hfl G H.size lo dd σ a2 a3 a4 h7) k_X12_acceptParcel tw_2_36 tw_2_37 tw_2_35 (by decide) (ge_0 rfl) rfl rfl rfl rfl rfl rfl dL_act_74) rfl rfl (fun ce q H locs M hq hv hcl => ?_)
        by_cases hc : n10 = 0
        · have hf := it_p hc hf
          subst hc
          refine vx_catch (E := "java/lang/IndexOutOfBoundsException") (name := "java/lang/IndexOutOfBoundsException") S.2.2.2.1 (tableOf (tb_L_act.take 1)) ⟨69, 77, 144, 81⟩ (tableOf (tb_L_act.drop 2)) (htab.trans rfl) (l_pass tb_L_act 1 74 [] gp_n (by decide +kernel)) rfl (by decide) (S.2.2.2.2 _ tw_5_154) (va_any rfl (C0.2.1 _ (by decide +kernel))) hq hv hcl ?_
          refine lv_astore (lv' := [(5, .ref q), (0, .ref (G.1 0)), (1, .int a1), (2, .int a2), (3, .int a3), (4, .int a4)]) hx hb dL_act_144 hl (by decide) rfl (fun ls hl => ?_)
          refine lv_iconst (v := (-1)) hx hb dL_act_146 (by decide) ?_
          cases hf
          exact g_iret S M hr hlk (by omega) (by omega) dL_act_147 rfl
        · have hf := it_n hc hf
          by_cases hc : n10 = 1
          · have hf := it_p hc hf
            subst hc
            refine vx_catch (E := "java/lang/IllegalArgumentException") (name := "java/lang/IllegalArgumentException") S.2.2.2.1 (tableOf (tb_L_act.take 13)) ⟨69, 77, 148, 83⟩ (tableOf (tb_L_act.drop 14)) (htab.trans rfl) (l_pass tb_L_act 13 74 [(81, "java/lang/IndexOutOfBoundsException")] (gp_c ⟨by decide, S.2.2.2.2 _ tw_5_154, C0.2.2.2.1.1 ("java/lang/IllegalArgumentException", "java/lang/IndexOutOfBoundsException") (by decide +kernel)⟩ gp_n) (by decide +kernel)) rfl (by decide) (S.2.2.2.2 _ tw_5_175) (va_any rfl (C0.2.1 _ (by decide +kernel))) hq hv hcl ?_
            refine lv_astore (lv' := [(5, .ref q), (0, .ref (G.1 0)), (1, .int a1), (2, .int a2), (3, .int a3), (4, .int a4)]) hx hb dL_act_148 hl (by decide) rfl (fun ls hl => ?_)
            refine lv_bipush (v := (-2)) hx hb dL_act_150 (by decide) ?_
            cases hf
            exact g_iret S M hr hlk (by omega) (by omega) dL_act_152 rfl
          · have hf := it_n hc hf
            by_cases hc : n10 = 2
            · have hf := it_p hc hf
              subst hc
              refine vx_catch (E := "java/lang/IllegalStateException") (name := "java/lang/IllegalStateException") S.2.2.2.1 (tableOf (tb_L_act.take 25)) ⟨69, 77, 153, 85⟩ (tableOf (tb_L_act.drop 26)) (htab.trans rfl) (l_pass tb_L_act 25 74 [(81, "java/lang/IndexOutOfBoundsException"), (83, "java/lang/IllegalArgumentException")] (gp_c ⟨by decide, S.2.2.2.2 _ tw_5_154, C0.2.2.2.1.1 ("java/lang/IllegalStateException", "java/lang/IndexOutOfBoundsException") (by decide +kernel)⟩ (gp_c ⟨by decide, S.2.2.2.2 _ tw_5_175, C0.2.2.2.1.1 ("java/lang/IllegalStateException", "java/lang/IllegalArgumentException") (by decide +kernel)⟩ gp_n)) (by decide +kernel)) rfl (by decide) (S.2.2.2.2 _ tw_5_176) (va_any rfl (C0.2.1 _ (by decide +kernel))) hq hv hcl ?_
              refine lv_astore (lv' := [(5, .ref q), (0, .ref (G.1 0)), (1, .int a1), (2, .int a2), (3, .int a3), (4, .int a4)]) hx hb dL_act_153 hl (by decide) rfl (fun ls hl => ?_)
              refine lv_bipush (v := (-3)) hx hb dL_act_155 (by decide) ?_
              cases hf
              exact g_iret S M hr hlk (by omega) (by omega) dL_act_157 rfl
            · have hf := it_n hc hf
              by_cases hc : n10 = 3
              · have hf := it_p hc hf
                subst hc
                refine vx_catch (E := "java/lang/UnsupportedOperationException") (name := "java/lang/UnsupportedOperationException") S.2.2.2.1 (tableOf (tb_L_act.take 37)) ⟨69, 77, 158, 87⟩ (tableOf (tb_L_act.drop 38)) (htab.trans rfl) (l_pass tb_L_act 37 74 [(81, "java/lang/IndexOutOfBoundsException"), (83, "java/lang/IllegalArgumentException"), (85, "java/lang/IllegalStateException")] (gp_c ⟨by decide, S.2.2.2.2 _ tw_5_154, C0.2.2.2.1.1 ("java/lang/UnsupportedOperationException", "java/lang/IndexOutOfBoundsException") (by decide +kernel)⟩ (gp_c ⟨by decide, S.2.2.2.2 _ tw_5_175, C0.2.2.2.1.1 ("java/lang/UnsupportedOperationException", "java/lang/IllegalArgumentException") (by decide +kernel)⟩ (gp_c ⟨by decide, S.2.2.2.2 _ tw_5_176, C0.2.2.2.1.1 ("java/lang/UnsupportedOperationException", "java/lang/IllegalStateException") (by decide +kernel)⟩ gp_n))) (by decide +kernel)) rfl (by decide) (S.2.2.2.2 _ tw_5_177) (va_any rfl (C0.2.1 _ (by decide +kernel))) hq hv hcl ?_
                refine lv_astore (lv' := [(5, .ref q), (0, .ref (G.1 0)), (1, .int a1), (2, .int a2), (3, .int a3), (4, .int a4)]) hx hb dL_act_158 hl (by decide) rfl (fun ls hl => ?_)
                refine lv_bipush (v := (-4)) hx hb dL_act_160 (by decide) ?_
                cases hf
                exact g_iret S M hr hlk (by omega) (by omega) dL_act_162 rfl
              · have hf := it_n hc hf
                by_cases hc : n10 = 4
                · have hf := it_p hc hf
                  subst hc
                  refine vx_catch (E := "java/util/NoSuchElementException") (name := "java/util/NoSuchElementException") S.2.2.2.1 (tableOf (tb_L_act.take 49)) ⟨69, 77, 163, 89⟩ (tableOf (tb_L_act.drop 50)) (htab.trans rfl) (l_pass tb_L_act 49 74 [(81, "java/lang/IndexOutOfBoundsException"), (83, "java/lang/IllegalArgumentException"), (85, "java/lang/IllegalStateException"), (87, "java/lang/UnsupportedOperationException")] (gp_c ⟨by decide, S.2.2.2.2 _ tw_5_154, C0.2.2.2.1.1 ("java/util/NoSuchElementException", "java/lang/IndexOutOfBoundsException") (by decide +kernel)⟩ (gp_c ⟨by decide, S.2.2.2.2 _ tw_5_175, C0.2.2.2.1.1 ("java/util/NoSuchElementException", "java/lang/IllegalArgumentException") (by decide +kernel)⟩ (gp_c ⟨by decide, S.2.2.2.2 _ tw_5_176, C0.2.2.2.1.1 ("java/util/NoSuchElementException", "java/lang/IllegalStateException") (by decide +kernel)⟩ (gp_c ⟨by decide, S.2.2.2.2 _ tw_5_177, C0.2.2.2.1.1 ("java/util/NoSuchElementException", "java/lang/UnsupportedOperationException") (by decide +kernel)⟩ gp_n)))) (by decide +kernel)) rfl (by decide) (S.2.2.2.2 _ tw_5_178) (va_any rfl (C0.2.1 _ (by decide +kernel))) hq hv hcl ?_
                  refine lv_astore (lv' := [(5, .ref q), (0, .ref (G.1 0)), (1, .int a1), (2, .int a2), (3, .int a3), (4, .int a4)]) hx hb dL_act_163 hl (by decide) rfl (fun ls hl => ?_)
                  refine lv_bipush (v := (-5)) hx hb dL_act_165 (by decide) ?_
                  cases hf
                  exact g_iret S M hr hlk (by omega) (by omega) dL_act_167 rfl
                · have hf := it_n hc hf
                  cases hf
    · have hf := it_n c6 hf
      by_cases c11 : a1 = 2
      · have hf := it_p c11 hf
        refine g_top c11 ?_
        refine lv_tableIn (off := 77) (tgt := 78) hx hb dL_act_1 (by decide) (by decide) rfl (by decide) ?_
        refine lv_aload_n hx hb dL_act_78 rfl (lv_at hl 0 rfl) ?_
        refine lv_iload_n hx hb dL_act_79 rfl (lv_at hl 2 rfl) ?_
        rcases bt2_x hf with ⟨r13, σ14, h12, hf⟩ | ⟨n15, σ14, h12, hf⟩
        · refine g_callR (st1 := [.int r13]) (cells' := 1) (slots' := 6) M (g_invV (index := 50) S M C0 hl (c_X12_buyGlove l hfl G H.size lo dd σ a2 h12) k_X12_buyGlove tw_5_184 tw_5_185 tw_5_183 (by decide) (ge_0 rfl) rfl rfl rfl rfl rfl rfl dL_act_80) rfl rfl rfl (fun H locs M => ?_)
          cases hf
          exact g_iret S M hr hlk (by omega) (by omega) dL_act_83 rfl
        · refine g_runX (cells' := 1) (slots' := 6) M (g_invV (index := 50) S M C0 hl (c_X12_buyGlove l hfl G H.size lo dd σ a2 h12) k_X12_buyGlove tw_5_184 tw_5_185 tw_5_183 (by decide) (ge_0 rfl) rfl rfl rfl rfl rfl rfl dL_act_80) rfl rfl (fun ce q H locs M hq hv hcl => ?_)
          by_cases hc : n15 = 0
          · have hf := it_p hc hf
            subst hc
            refine vx_catch (E := "java/lang/IndexOutOfBoundsException") (name := "java/lang/IndexOutOfBoundsException") S.2.2.2.1 (tableOf (tb_L_act.take 2)) ⟨78, 83, 144, 81⟩ (tableOf (tb_L_act.drop 3)) (htab.trans rfl) (l_pass tb_L_act 2 80 [] gp_n (by decide +kernel)) rfl (by decide) (S.2.2.2.2 _ tw_5_154) (va_any rfl (C0.2.1 _ (by decide +kernel))) hq hv hcl ?_
            refine lv_astore (lv' := [(5, .ref q), (0, .ref (G.1 0)), (1, .int a1), (2, .int a2), (3, .int a3), (4, .int a4)]) hx hb dL_act_144 hl (by decide) rfl (fun ls hl => ?_)
            refine lv_iconst (v := (-1)) hx hb dL_act_146 (by decide) ?_
            cases hf
            exact g_iret S M hr hlk (by omega) (by omega) dL_act_147 rfl
          · have hf := it_n hc hf
            by_cases hc : n15 = 1
            · have hf := it_p hc hf
              subst hc
              refine vx_catch (E := "java/lang/IllegalArgumentException") (name := "java/lang/IllegalArgumentException") S.2.2.2.1 (tableOf (tb_L_act.take 14)) ⟨78, 83, 148, 83⟩ (tableOf (tb_L_act.drop 15)) (htab.trans rfl) (l_pass tb_L_act 14 80 [(81, "java/lang/IndexOutOfBoundsException")] (gp_c ⟨by decide, S.2.2.2.2 _ tw_5_154, C0.2.2.2.1.1 ("java/lang/IllegalArgumentException", "java/lang/IndexOutOfBoundsException") (by decide +kernel)⟩ gp_n) (by decide +kernel)) rfl (by decide) (S.2.2.2.2 _ tw_5_175) (va_any rfl (C0.2.1 _ (by decide +kernel))) hq hv hcl ?_
              refine lv_astore (lv' := [(5, .ref q), (0, .ref (G.1 0)), (1, .int a1), (2, .int a2), (3, .int a3), (4, .int a4)]) hx hb dL_act_148 hl (by decide) rfl (fun ls hl => ?_)
              refine lv_bipush (v := (-2)) hx hb dL_act_150 (by decide) ?_
              cases hf
              exact g_iret S M hr hlk (by omega) (by omega) dL_act_152 rfl
            · have hf := it_n hc hf
              by_cases hc : n15 = 2
              · have hf := it_p hc hf
                subst hc
                refine vx_catch (E := "java/lang/IllegalStateException") (name := "java/lang/IllegalStateException") S.2.2.2.1 (tableOf (tb_L_act.take 26)) ⟨78, 83, 153, 85⟩ (tableOf (tb_L_act.drop 27)) (htab.trans rfl) (l_pass tb_L_act 26 80 [(81, "java/lang/IndexOutOfBoundsException"), (83, "java/lang/IllegalArgumentException")] (gp_c ⟨by decide, S.2.2.2.2 _ tw_5_154, C0.2.2.2.1.1 ("java/lang/IllegalStateException", "java/lang/IndexOutOfBoundsException") (by decide +kernel)⟩ (gp_c ⟨by decide, S.2.2.2.2 _ tw_5_175, C0.2.2.2.1.1 ("java/lang/IllegalStateException", "java/lang/IllegalArgumentException") (by decide +kernel)⟩ gp_n)) (by decide +kernel)) rfl (by decide) (S.2.2.2.2 _ tw_5_176) (va_any rfl (C0.2.1 _ (by decide +kernel))) hq hv hcl ?_
                refine lv_astore (lv' := [(5, .ref q), (0, .ref (G.1 0)), (1, .int a1), (2, .int a2), (3, .int a3), (4, .int a4)]) hx hb dL_act_153 hl (by decide) rfl (fun ls hl => ?_)
                refine lv_bipush (v := (-3)) hx hb dL_act_155 (by decide) ?_
                cases hf
                exact g_iret S M hr hlk (by omega) (by omega) dL_act_157 rfl
              · have hf := it_n hc hf
                by_cases hc : n15 = 3
                · have hf := it_p hc hf
                  subst hc
                  refine vx_catch (E := "java/lang/UnsupportedOperationException") (name := "java/lang/UnsupportedOperationException") S.2.2.2.1 (tableOf (tb_L_act.take 38)) ⟨78, 83, 158, 87⟩ (tableOf (tb_L_act.drop 39)) (htab.trans rfl) (l_pass tb_L_act 38 80 [(81, "java/lang/IndexOutOfBoundsException"), (83, "java/lang/IllegalArgumentException"), (85, "java/lang/IllegalStateException")] (gp_c ⟨by decide, S.2.2.2.2 _ tw_5_154, C0.2.2.2.1.1 ("java/lang/UnsupportedOperationException", "java/lang/IndexOutOfBoundsException") (by decide +kernel)⟩ (gp_c ⟨by decide, S.2.2.2.2 _ tw_5_175, C0.2.2.2.1.1 ("java/lang/UnsupportedOperationException", "java/lang/IllegalArgumentException") (by decide +kernel)⟩ (gp_c ⟨by decide, S.2.2.2.2 _ tw_5_176, C0.2.2.2.1.1 ("java/lang/UnsupportedOperationException", "java/lang/IllegalStateException") (by decide +kernel)⟩ gp_n))) (by decide +kernel)) rfl (by decide) (S.2.2.2.2 _ tw_5_177) (va_any rfl (C0.2.1 _ (by decide +kernel))) hq hv hcl ?_
                  refine lv_astore (lv' := [(5, .ref q), (0, .ref (G.1 0)), (1, .int a1), (2, .int a2), (3, .int a3), (4, .int a4)]) hx hb dL_act_158 hl (by decide) rfl (fun ls hl => ?_)
                  refine lv_bipush (v := (-4)) hx hb dL_act_160 (by decide) ?_
                  cases hf
                  exact g_iret S M hr hlk (by omega) (by omega) dL_act_162 rfl
                · have hf := it_n hc hf
                  by_cases hc : n15 = 4
                  · have hf := it_p hc hf
                    subst hc
                    refine vx_catch (E := "java/util/NoSuchElementException") (name := "java/util/NoSuchElementException") S.2.2.2.1 (tableOf (tb_L_act.take 50)) ⟨78, 83, 163, 89⟩ (tableOf (tb_L_act.drop 51)) (htab.trans rfl) (l_pass tb_L_act 50 80 [(81, "java/lang/IndexOutOfBoundsException"), (83, "java/lang/IllegalArgumentException"), (85, "java/lang/IllegalStateException"), (87, "java/lang/UnsupportedOperationException")] (gp_c ⟨by decide, S.2.2.2.2 _ tw_5_154, C0.2.2.2.1.1 ("java/util/NoSuchElementException", "java/lang/IndexOutOfBoundsException") (by decide +kernel)⟩ (gp_c ⟨by decide, S.2.2.2.2 _ tw_5_175, C0.2.2.2.1.1 ("java/util/NoSuchElementException", "java/lang/IllegalArgumentException") (by decide +kernel)⟩ (gp_c ⟨by decide, S.2.2.2.2 _ tw_5_176, C0.2.2.2.1.1 ("java/util/NoSuchElementException", "java/lang/IllegalStateException") (by decide +kernel)⟩ (gp_c ⟨by decide, S.2.2.2.2 _ tw_5_177, C0.2.2.2.1.1 ("java/util/NoSuchElementException", "java/lang/UnsupportedOperationException") (by decide +kernel)⟩ gp_n)))) (by decide +kernel)) rfl (by decide) (S.2.2.2.2 _ tw_5_178) (va_any rfl (C0.2.1 _ (by decide +kernel))) hq hv hcl ?_
                    refine lv_astore (lv' := [(5, .ref q), (0, .ref (G.1 0)), (1, .int a1), (2, .int a2), (3, .int a3), (4, .int a4)]) hx hb dL_act_163 hl (by decide) rfl (fun ls hl => ?_)
                    refine lv_bipush (v := (-5)) hx hb dL_act_165 (by decide) ?_
                    cases hf
                    exact g_iret S M hr hlk (by omega) (by omega) dL_act_167 rfl
                  · have hf := it_n hc hf
                    cases hf
      · have hf := it_n c11 hf
        by_cases c16 : a1 = 3
        · have hf := it_p c16 hf
          refine g_top c16 ?_
          refine lv_tableIn (off := 83) (tgt := 84) hx hb dL_act_1 (by decide) (by decide) rfl (by decide) ?_
          refine lv_aload_n hx hb dL_act_84 rfl (lv_at hl 0 rfl) ?_
          refine lv_iload_n hx hb dL_act_85 rfl (lv_at hl 2 rfl) ?_
          refine lv_iload_n hx hb dL_act_86 rfl (lv_at hl 3 rfl) ?_
          rcases bt2_x hf with ⟨r18, σ19, h17, hf⟩ | ⟨n20, σ19, h17, hf⟩
          · refine g_callR (st1 := [.int r18]) (cells' := 1) (slots' := 6) M (g_invV (index := 54) S M C0 hl (c_X12_setCapacity l hfl G H.size lo dd σ a2 a3 h17) k_X12_setCapacity tw_2_238 tw_2_239 tw_2_237 (by decide) (ge_0 rfl) rfl rfl rfl rfl rfl rfl dL_act_87) rfl rfl rfl (fun H locs M => ?_)
            cases hf
            exact g_iret S M hr hlk (by omega) (by omega) dL_act_90 rfl
          · refine g_runX (cells' := 1) (slots' := 6) M (g_invV (index := 54) S M C0 hl (c_X12_setCapacity l hfl G H.size lo dd σ a2 a3 h17) k_X12_setCapacity tw_2_238 tw_2_239 tw_2_237 (by decide) (ge_0 rfl) rfl rfl rfl rfl rfl rfl dL_act_87) rfl rfl (fun ce q H locs M hq hv hcl => ?_)
            by_cases hc : n20 = 0
            · have hf := it_p hc hf
              subst hc
              refine vx_catch (E := "java/lang/IndexOutOfBoundsException") (name := "java/lang/IndexOutOfBoundsException") S.2.2.2.1 (tableOf (tb_L_act.take 3)) ⟨84, 90, 144, 81⟩ (tableOf (tb_L_act.drop 4)) (htab.trans rfl) (l_pass tb_L_act 3 87 [] gp_n (by decide +kernel)) rfl (by decide) (S.2.2.2.2 _ tw_5_154) (va_any rfl (C0.2.1 _ (by decide +kernel))) hq hv hcl ?_
              refine lv_astore (lv' := [(5, .ref q), (0, .ref (G.1 0)), (1, .int a1), (2, .int a2), (3, .int a3), (4, .int a4)]) hx hb dL_act_144 hl (by decide) rfl (fun ls hl => ?_)
              refine lv_iconst (v := (-1)) hx hb dL_act_146 (by decide) ?_
              cases hf
              exact g_iret S M hr hlk (by omega) (by omega) dL_act_147 rfl
            · have hf := it_n hc hf
              by_cases hc : n20 = 1
              · have hf := it_p hc hf
                subst hc
                refine vx_catch (E := "java/lang/IllegalArgumentException") (name := "java/lang/IllegalArgumentException") S.2.2.2.1 (tableOf (tb_L_act.take 15)) ⟨84, 90, 148, 83⟩ (tableOf (tb_L_act.drop 16)) (htab.trans rfl) (l_pass tb_L_act 15 87 [(81, "java/lang/IndexOutOfBoundsException")] (gp_c ⟨by decide, S.2.2.2.2 _ tw_5_154, C0.2.2.2.1.1 ("java/lang/IllegalArgumentException", "java/lang/IndexOutOfBoundsException") (by decide +kernel)⟩ gp_n) (by decide +kernel)) rfl (by decide) (S.2.2.2.2 _ tw_5_175) (va_any rfl (C0.2.1 _ (by decide +kernel))) hq hv hcl ?_
                refine lv_astore (lv' := [(5, .ref q), (0, .ref (G.1 0)), (1, .int a1), (2, .int a2), (3, .int a3), (4, .int a4)]) hx hb dL_act_148 hl (by decide) rfl (fun ls hl => ?_)
                refine lv_bipush (v := (-2)) hx hb dL_act_150 (by decide) ?_
                cases hf
                exact g_iret S M hr hlk (by omega) (by omega) dL_act_152 rfl
              · have hf := it_n hc hf
                by_cases hc : n20 = 2
                · have hf := it_p hc hf
                  subst hc
                  refine vx_catch (E := "java/lang/IllegalStateException") (name := "java/lang/IllegalStateException") S.2.2.2.1 (tableOf (tb_L_act.take 27)) ⟨84, 90, 153, 85⟩ (tableOf (tb_L_act.drop 28)) (htab.trans rfl) (l_pass tb_L_act 27 87 [(81, "java/lang/IndexOutOfBoundsException"), (83, "java/lang/IllegalArgumentException")] (gp_c ⟨by decide, S.2.2.2.2 _ tw_5_154, C0.2.2.2.1.1 ("java/lang/IllegalStateException", "java/lang/IndexOutOfBoundsException") (by decide +kernel)⟩ (gp_c ⟨by decide, S.2.2.2.2 _ tw_5_175, C0.2.2.2.1.1 ("java/lang/IllegalStateException", "java/lang/IllegalArgumentException") (by decide +kernel)⟩ gp_n)) (by decide +kernel)) rfl (by decide) (S.2.2.2.2 _ tw_5_176) (va_any rfl (C0.2.1 _ (by decide +kernel))) hq hv hcl ?_
                  refine lv_astore (lv' := [(5, .ref q), (0, .ref (G.1 0)), (1, .int a1), (2, .int a2), (3, .int a3), (4, .int a4)]) hx hb dL_act_153 hl (by decide) rfl (fun ls hl => ?_)
                  refine lv_bipush (v := (-3)) hx hb dL_act_155 (by decide) ?_
                  cases hf
                  exact g_iret S M hr hlk (by omega) (by omega) dL_act_157 rfl
                · have hf := it_n hc hf
                  by_cases hc : n20 = 3
                  · have hf := it_p hc hf
                    subst hc
                    refine vx_catch (E := "java/lang/UnsupportedOperationException") (name := "java/lang/UnsupportedOperationException") S.2.2.2.1 (tableOf (tb_L_act.take 39)) ⟨84, 90, 158, 87⟩ (tableOf (tb_L_act.drop 40)) (htab.trans rfl) (l_pass tb_L_act 39 87 [(81, "java/lang/IndexOutOfBoundsException"), (83, "java/lang/IllegalArgumentException"), (85, "java/lang/IllegalStateException")] (gp_c ⟨by decide, S.2.2.2.2 _ tw_5_154, C0.2.2.2.1.1 ("java/lang/UnsupportedOperationException", "java/lang/IndexOutOfBoundsException") (by decide +kernel)⟩ (gp_c ⟨by decide, S.2.2.2.2 _ tw_5_175, C0.2.2.2.1.1 ("java/lang/UnsupportedOperationException", "java/lang/IllegalArgumentException") (by decide +kernel)⟩ (gp_c ⟨by decide, S.2.2.2.2 _ tw_5_176, C0.2.2.2.1.1 ("java/lang/UnsupportedOperationException", "java/lang/IllegalStateException") (by decide +kernel)⟩ gp_n))) (by decide +kernel)) rfl (by decide) (S.2.2.2.2 _ tw_5_177) (va_any rfl (C0.2.1 _ (by decide +kernel))) hq hv hcl ?_
                    refine lv_astore (lv' := [(5, .ref q), (0, .ref (G.1 0)), (1, .int a1), (2, .int a2), (3, .int a3), (4, .int a4)]) hx hb dL_act_158 hl (by decide) rfl (fun ls hl => ?_)
                    refine lv_bipush (v := (-4)) hx hb dL_act_160 (by decide) ?_
                    cases hf
                    exact g_iret S M hr hlk (by omega) (by omega) dL_act_162 rfl
                  · have hf := it_n hc hf
                    by_cases hc : n20 = 4
                    · have hf := it_p hc hf
                      subst hc
                      refine vx_catch (E := "java/util/NoSuchElementException") (name := "java/util/NoSuchElementException") S.2.2.2.1 (tableOf (tb_L_act.take 51)) ⟨84, 90, 163, 89⟩ (tableOf (tb_L_act.drop 52)) (htab.trans rfl) (l_pass tb_L_act 51 87 [(81, "java/lang/IndexOutOfBoundsException"), (83, "java/lang/IllegalArgumentException"), (85, "java/lang/IllegalStateException"), (87, "java/lang/UnsupportedOperationException")] (gp_c ⟨by decide, S.2.2.2.2 _ tw_5_154, C0.2.2.2.1.1 ("java/util/NoSuchElementException", "java/lang/IndexOutOfBoundsException") (by decide +kernel)⟩ (gp_c ⟨by decide, S.2.2.2.2 _ tw_5_175, C0.2.2.2.1.1 ("java/util/NoSuchElementException", "java/lang/IllegalArgumentException") (by decide +kernel)⟩ (gp_c ⟨by decide, S.2.2.2.2 _ tw_5_176, C0.2.2.2.1.1 ("java/util/NoSuchElementException", "java/lang/IllegalStateException") (by decide +kernel)⟩ (gp_c ⟨by decide, S.2.2.2.2 _ tw_5_177, C0.2.2.2.1.1 ("java/util/NoSuchElementException", "java/lang/UnsupportedOperationException") (by decide +kernel)⟩ gp_n)))) (by decide +kernel)) rfl (by decide) (S.2.2.2.2 _ tw_5_178) (va_any rfl (C0.2.1 _ (by decide +kernel))) hq hv hcl ?_
                      refine lv_astore (lv' := [(5, .ref q), (0, .ref (G.1 0)), (1, .int a1), (2, .int a2), (3, .int a3), (4, .int a4)]) hx hb dL_act_163 hl (by decide) rfl (fun ls hl => ?_)
                      refine lv_bipush (v := (-5)) hx hb dL_act_165 (by decide) ?_
                      cases hf
                      exact g_iret S M hr hlk (by omega) (by omega) dL_act_167 rfl
                    · have hf := it_n hc hf
                      cases hf
        · have hf := it_n c16 hf
          by_cases c21 : a1 = 4
          · have hf := it_p c21 hf
            refine g_top c21 ?_
            refine lv_tableIn (off := 90) (tgt := 91) hx hb dL_act_1 (by decide) (by decide) rfl (by decide) ?_
            refine lv_aload_n hx hb dL_act_91 rfl (lv_at hl 0 rfl) ?_
            refine lv_iload_n hx hb dL_act_92 rfl (lv_at hl 2 rfl) ?_
            refine lv_iload_n hx hb dL_act_93 rfl (lv_at hl 3 rfl) ?_
            rcases bt2_x hf with ⟨r23, σ24, h22, hf⟩ | ⟨n25, σ24, h22, hf⟩
            · refine g_callR (st1 := [.int r23]) (cells' := 1) (slots' := 6) M (g_invV (index := 57) S M C0 hl (c_X12_put l hfl G H.size lo dd σ a2 a3 h22) k_X12_put tw_3_14 tw_3_15 tw_3_13 (by decide) (ge_0 rfl) rfl rfl rfl rfl rfl rfl dL_act_94) rfl rfl rfl (fun H locs M => ?_)
              cases hf
              exact g_iret S M hr hlk (by omega) (by omega) dL_act_97 rfl
            · refine g_runX (cells' := 1) (slots' := 6) M (g_invV (index := 57) S M C0 hl (c_X12_put l hfl G H.size lo dd σ a2 a3 h22) k_X12_put tw_3_14 tw_3_15 tw_3_13 (by decide) (ge_0 rfl) rfl rfl rfl rfl rfl rfl dL_act_94) rfl rfl (fun ce q H locs M hq hv hcl => ?_)
              by_cases hc : n25 = 0
              · have hf := it_p hc hf
                subst hc
                refine vx_catch (E := "java/lang/IndexOutOfBoundsException") (name := "java/lang/IndexOutOfBoundsException") S.2.2.2.1 (tableOf (tb_L_act.take 4)) ⟨91, 97, 144, 81⟩ (tableOf (tb_L_act.drop 5)) (htab.trans rfl) (l_pass tb_L_act 4 94 [] gp_n (by decide +kernel)) rfl (by decide) (S.2.2.2.2 _ tw_5_154) (va_any rfl (C0.2.1 _ (by decide +kernel))) hq hv hcl ?_
                refine lv_astore (lv' := [(5, .ref q), (0, .ref (G.1 0)), (1, .int a1), (2, .int a2), (3, .int a3), (4, .int a4)]) hx hb dL_act_144 hl (by decide) rfl (fun ls hl => ?_)
                refine lv_iconst (v := (-1)) hx hb dL_act_146 (by decide) ?_
                cases hf
                exact g_iret S M hr hlk (by omega) (by omega) dL_act_147 rfl
              · have hf := it_n hc hf
                by_cases hc : n25 = 1
                · have hf := it_p hc hf
                  subst hc
                  refine vx_catch (E := "java/lang/IllegalArgumentException") (name := "java/lang/IllegalArgumentException") S.2.2.2.1 (tableOf (tb_L_act.take 16)) ⟨91, 97, 148, 83⟩ (tableOf (tb_L_act.drop 17)) (htab.trans rfl) (l_pass tb_L_act 16 94 [(81, "java/lang/IndexOutOfBoundsException")] (gp_c ⟨by decide, S.2.2.2.2 _ tw_5_154, C0.2.2.2.1.1 ("java/lang/IllegalArgumentException", "java/lang/IndexOutOfBoundsException") (by decide +kernel)⟩ gp_n) (by decide +kernel)) rfl (by decide) (S.2.2.2.2 _ tw_5_175) (va_any rfl (C0.2.1 _ (by decide +kernel))) hq hv hcl ?_
                  refine lv_astore (lv' := [(5, .ref q), (0, .ref (G.1 0)), (1, .int a1), (2, .int a2), (3, .int a3), (4, .int a4)]) hx hb dL_act_148 hl (by decide) rfl (fun ls hl => ?_)
                  refine lv_bipush (v := (-2)) hx hb dL_act_150 (by decide) ?_
                  cases hf
                  exact g_iret S M hr hlk (by omega) (by omega) dL_act_152 rfl
                · have hf := it_n hc hf
                  by_cases hc : n25 = 2
                  · have hf := it_p hc hf
                    subst hc
                    refine vx_catch (E := "java/lang/IllegalStateException") (name := "java/lang/IllegalStateException") S.2.2.2.1 (tableOf (tb_L_act.take 28)) ⟨91, 97, 153, 85⟩ (tableOf (tb_L_act.drop 29)) (htab.trans rfl) (l_pass tb_L_act 28 94 [(81, "java/lang/IndexOutOfBoundsException"), (83, "java/lang/IllegalArgumentException")] (gp_c ⟨by decide, S.2.2.2.2 _ tw_5_154, C0.2.2.2.1.1 ("java/lang/IllegalStateException", "java/lang/IndexOutOfBoundsException") (by decide +kernel)⟩ (gp_c ⟨by decide, S.2.2.2.2 _ tw_5_175, C0.2.2.2.1.1 ("java/lang/IllegalStateException", "java/lang/IllegalArgumentException") (by decide +kernel)⟩ gp_n)) (by decide +kernel)) rfl (by decide) (S.2.2.2.2 _ tw_5_176) (va_any rfl (C0.2.1 _ (by decide +kernel))) hq hv hcl ?_
                    refine lv_astore (lv' := [(5, .ref q), (0, .ref (G.1 0)), (1, .int a1), (2, .int a2), (3, .int a3), (4, .int a4)]) hx hb dL_act_153 hl (by decide) rfl (fun ls hl => ?_)
                    refine lv_bipush (v := (-3)) hx hb dL_act_155 (by decide) ?_
                    cases hf
                    exact g_iret S M hr hlk (by omega) (by omega) dL_act_157 rfl
                  · have hf := it_n hc hf
                    by_cases hc : n25 = 3
                    · have hf := it_p hc hf
                      subst hc
                      refine vx_catch (E := "java/lang/UnsupportedOperationException") (name := "java/lang/UnsupportedOperationException") S.2.2.2.1 (tableOf (tb_L_act.take 40)) ⟨91, 97, 158, 87⟩ (tableOf (tb_L_act.drop 41)) (htab.trans rfl) (l_pass tb_L_act 40 94 [(81, "java/lang/IndexOutOfBoundsException"), (83, "java/lang/IllegalArgumentException"), (85, "java/lang/IllegalStateException")] (gp_c ⟨by decide, S.2.2.2.2 _ tw_5_154, C0.2.2.2.1.1 ("java/lang/UnsupportedOperationException", "java/lang/IndexOutOfBoundsException") (by decide +kernel)⟩ (gp_c ⟨by decide, S.2.2.2.2 _ tw_5_175, C0.2.2.2.1.1 ("java/lang/UnsupportedOperationException", "java/lang/IllegalArgumentException") (by decide +kernel)⟩ (gp_c ⟨by decide, S.2.2.2.2 _ tw_5_176, C0.2.2.2.1.1 ("java/lang/UnsupportedOperationException", "java/lang/IllegalStateException") (by decide +kernel)⟩ gp_n))) (by decide +kernel)) rfl (by decide) (S.2.2.2.2 _ tw_5_177) (va_any rfl (C0.2.1 _ (by decide +kernel))) hq hv hcl ?_
                      refine lv_astore (lv' := [(5, .ref q), (0, .ref (G.1 0)), (1, .int a1), (2, .int a2), (3, .int a3), (4, .int a4)]) hx hb dL_act_158 hl (by decide) rfl (fun ls hl => ?_)
                      refine lv_bipush (v := (-4)) hx hb dL_act_160 (by decide) ?_
                      cases hf
                      exact g_iret S M hr hlk (by omega) (by omega) dL_act_162 rfl
                    · have hf := it_n hc hf
                      by_cases hc : n25 = 4
                      · have hf := it_p hc hf
                        subst hc
                        refine vx_catch (E := "java/util/NoSuchElementException") (name := "java/util/NoSuchElementException") S.2.2.2.1 (tableOf (tb_L_act.take 52)) ⟨91, 97, 163, 89⟩ (tableOf (tb_L_act.drop 53)) (htab.trans rfl) (l_pass tb_L_act 52 94 [(81, "java/lang/IndexOutOfBoundsException"), (83, "java/lang/IllegalArgumentException"), (85, "java/lang/IllegalStateException"), (87, "java/lang/UnsupportedOperationException")] (gp_c ⟨by decide, S.2.2.2.2 _ tw_5_154, C0.2.2.2.1.1 ("java/util/NoSuchElementException", "java/lang/IndexOutOfBoundsException") (by decide +kernel)⟩ (gp_c ⟨by decide, S.2.2.2.2 _ tw_5_175, C0.2.2.2.1.1 ("java/util/NoSuchElementException", "java/lang/IllegalArgumentException") (by decide +kernel)⟩ (gp_c ⟨by decide, S.2.2.2.2 _ tw_5_176, C0.2.2.2.1.1 ("java/util/NoSuchElementException", "java/lang/IllegalStateException") (by decide +kernel)⟩ (gp_c ⟨by decide, S.2.2.2.2 _ tw_5_177, C0.2.2.2.1.1 ("java/util/NoSuchElementException", "java/lang/UnsupportedOperationException") (by decide +kernel)⟩ gp_n)))) (by decide +kernel)) rfl (by decide) (S.2.2.2.2 _ tw_5_178) (va_any rfl (C0.2.1 _ (by decide +kernel))) hq hv hcl ?_
                        refine lv_astore (lv' := [(5, .ref q), (0, .ref (G.1 0)), (1, .int a1), (2, .int a2), (3, .int a3), (4, .int a4)]) hx hb dL_act_163 hl (by decide) rfl (fun ls hl => ?_)
                        refine lv_bipush (v := (-5)) hx hb dL_act_165 (by decide) ?_
                        cases hf
                        exact g_iret S M hr hlk (by omega) (by omega) dL_act_167 rfl
                      · have hf := it_n hc hf
                        cases hf
          · have hf := it_n c21 hf
            by_cases c26 : a1 = 5
            · have hf := it_p c26 hf
              refine g_top c26 ?_
              refine lv_tableIn (off := 97) (tgt := 98) hx hb dL_act_1 (by decide) (by decide) rfl (by decide) ?_
              refine lv_aload_n hx hb dL_act_98 rfl (lv_at hl 0 rfl) ?_
              refine lv_iload_n hx hb dL_act_99 rfl (lv_at hl 2 rfl) ?_
              rcases bt2_x hf with ⟨r28, σ29, h27, hf⟩ | ⟨n30, σ29, h27, hf⟩
              · refine g_callR (st1 := [.int r28]) (cells' := 1) (slots' := 6) M (g_invV (index := 60) S M C0 hl (c_X12_takeOut l hfl G H.size lo dd σ a2 h27) k_X12_takeOut tw_3_71 tw_3_72 tw_3_70 (by decide) (ge_0 rfl) rfl rfl rfl rfl rfl rfl dL_act_100) rfl rfl rfl (fun H locs M => ?_)
                cases hf
                exact g_iret S M hr hlk (by omega) (by omega) dL_act_103 rfl
              · refine g_runX (cells' := 1) (slots' := 6) M (g_invV (index := 60) S M C0 hl (c_X12_takeOut l hfl G H.size lo dd σ a2 h27) k_X12_takeOut tw_3_71 tw_3_72 tw_3_70 (by decide) (ge_0 rfl) rfl rfl rfl rfl rfl rfl dL_act_100) rfl rfl (fun ce q H locs M hq hv hcl => ?_)
                by_cases hc : n30 = 0
                · have hf := it_p hc hf
                  subst hc
                  refine vx_catch (E := "java/lang/IndexOutOfBoundsException") (name := "java/lang/IndexOutOfBoundsException") S.2.2.2.1 (tableOf (tb_L_act.take 5)) ⟨98, 103, 144, 81⟩ (tableOf (tb_L_act.drop 6)) (htab.trans rfl) (l_pass tb_L_act 5 100 [] gp_n (by decide +kernel)) rfl (by decide) (S.2.2.2.2 _ tw_5_154) (va_any rfl (C0.2.1 _ (by decide +kernel))) hq hv hcl ?_
                  refine lv_astore (lv' := [(5, .ref q), (0, .ref (G.1 0)), (1, .int a1), (2, .int a2), (3, .int a3), (4, .int a4)]) hx hb dL_act_144 hl (by decide) rfl (fun ls hl => ?_)
                  refine lv_iconst (v := (-1)) hx hb dL_act_146 (by decide) ?_
                  cases hf
                  exact g_iret S M hr hlk (by omega) (by omega) dL_act_147 rfl
                · have hf := it_n hc hf
                  by_cases hc : n30 = 1
                  · have hf := it_p hc hf
                    subst hc
                    refine vx_catch (E := "java/lang/IllegalArgumentException") (name := "java/lang/IllegalArgumentException") S.2.2.2.1 (tableOf (tb_L_act.take 17)) ⟨98, 103, 148, 83⟩ (tableOf (tb_L_act.drop 18)) (htab.trans rfl) (l_pass tb_L_act 17 100 [(81, "java/lang/IndexOutOfBoundsException")] (gp_c ⟨by decide, S.2.2.2.2 _ tw_5_154, C0.2.2.2.1.1 ("java/lang/IllegalArgumentException", "java/lang/IndexOutOfBoundsException") (by decide +kernel)⟩ gp_n) (by decide +kernel)) rfl (by decide) (S.2.2.2.2 _ tw_5_175) (va_any rfl (C0.2.1 _ (by decide +kernel))) hq hv hcl ?_
                    refine lv_astore (lv' := [(5, .ref q), (0, .ref (G.1 0)), (1, .int a1), (2, .int a2), (3, .int a3), (4, .int a4)]) hx hb dL_act_148 hl (by decide) rfl (fun ls hl => ?_)
                    refine lv_bipush (v := (-2)) hx hb dL_act_150 (by decide) ?_
                    cases hf
                    exact g_iret S M hr hlk (by omega) (by omega) dL_act_152 rfl
                  · have hf := it_n hc hf
                    by_cases hc : n30 = 2
                    · have hf := it_p hc hf
                      subst hc
                      refine vx_catch (E := "java/lang/IllegalStateException") (name := "java/lang/IllegalStateException") S.2.2.2.1 (tableOf (tb_L_act.take 29)) ⟨98, 103, 153, 85⟩ (tableOf (tb_L_act.drop 30)) (htab.trans rfl) (l_pass tb_L_act 29 100 [(81, "java/lang/IndexOutOfBoundsException"), (83, "java/lang/IllegalArgumentException")] (gp_c ⟨by decide, S.2.2.2.2 _ tw_5_154, C0.2.2.2.1.1 ("java/lang/IllegalStateException", "java/lang/IndexOutOfBoundsException") (by decide +kernel)⟩ (gp_c ⟨by decide, S.2.2.2.2 _ tw_5_175, C0.2.2.2.1.1 ("java/lang/IllegalStateException", "java/lang/IllegalArgumentException") (by decide +kernel)⟩ gp_n)) (by decide +kernel)) rfl (by decide) (S.2.2.2.2 _ tw_5_176) (va_any rfl (C0.2.1 _ (by decide +kernel))) hq hv hcl ?_
                      refine lv_astore (lv' := [(5, .ref q), (0, .ref (G.1 0)), (1, .int a1), (2, .int a2), (3, .int a3), (4, .int a4)]) hx hb dL_act_153 hl (by decide) rfl (fun ls hl => ?_)
                      refine lv_bipush (v := (-3)) hx hb dL_act_155 (by decide) ?_
                      cases hf
                      exact g_iret S M hr hlk (by omega) (by omega) dL_act_157 rfl
                    · have hf := it_n hc hf
                      by_cases hc : n30 = 3
                      · have hf := it_p hc hf
                        subst hc
                        refine vx_catch (E := "java/lang/UnsupportedOperationException") (name := "java/lang/UnsupportedOperationException") S.2.2.2.1 (tableOf (tb_L_act.take 41)) ⟨98, 103, 158, 87⟩ (tableOf (tb_L_act.drop 42)) (htab.trans rfl) (l_pass tb_L_act 41 100 [(81, "java/lang/IndexOutOfBoundsException"), (83, "java/lang/IllegalArgumentException"), (85, "java/lang/IllegalStateException")] (gp_c ⟨by decide, S.2.2.2.2 _ tw_5_154, C0.2.2.2.1.1 ("java/lang/UnsupportedOperationException", "java/lang/IndexOutOfBoundsException") (by decide +kernel)⟩ (gp_c ⟨by decide, S.2.2.2.2 _ tw_5_175, C0.2.2.2.1.1 ("java/lang/UnsupportedOperationException", "java/lang/IllegalArgumentException") (by decide +kernel)⟩ (gp_c ⟨by decide, S.2.2.2.2 _ tw_5_176, C0.2.2.2.1.1 ("java/lang/UnsupportedOperationException", "java/lang/IllegalStateException") (by decide +kernel)⟩ gp_n))) (by decide +kernel)) rfl (by decide) (S.2.2.2.2 _ tw_5_177) (va_any rfl (C0.2.1 _ (by decide +kernel))) hq hv hcl ?_
                        refine lv_astore (lv' := [(5, .ref q), (0, .ref (G.1 0)), (1, .int a1), (2, .int a2), (3, .int a3), (4, .int a4)]) hx hb dL_act_158 hl (by decide) rfl (fun ls hl => ?_)
                        refine lv_bipush (v := (-4)) hx hb dL_act_160 (by decide) ?_
                        cases hf
                        exact g_iret S M hr hlk (by omega) (by omega) dL_act_162 rfl
                      · have hf := it_n hc hf
                        by_cases hc : n30 = 4
                        · have hf := it_p hc hf
                          subst hc
                          refine vx_catch (E := "java/util/NoSuchElementException") (name := "java/util/NoSuchElementException") S.2.2.2.1 (tableOf (tb_L_act.take 53)) ⟨98, 103, 163, 89⟩ (tableOf (tb_L_act.drop 54)) (htab.trans rfl) (l_pass tb_L_act 53 100 [(81, "java/lang/IndexOutOfBoundsException"), (83, "java/lang/IllegalArgumentException"), (85, "java/lang/IllegalStateException"), (87, "java/lang/UnsupportedOperationException")] (gp_c ⟨by decide, S.2.2.2.2 _ tw_5_154, C0.2.2.2.1.1 ("java/util/NoSuchElementException", "java/lang/IndexOutOfBoundsException") (by decide +kernel)⟩ (gp_c ⟨by decide, S.2.2.2.2 _ tw_5_175, C0.2.2.2.1.1 ("java/util/NoSuchElementException", "java/lang/IllegalArgumentException") (by decide +kernel)⟩ (gp_c ⟨by decide, S.2.2.2.2 _ tw_5_176, C0.2.2.2.1.1 ("java/util/NoSuchElementException", "java/lang/IllegalStateException") (by decide +kernel)⟩ (gp_c ⟨by decide, S.2.2.2.2 _ tw_5_177, C0.2.2.2.1.1 ("java/util/NoSuchElementException", "java/lang/UnsupportedOperationException") (by decide +kernel)⟩ gp_n)))) (by decide +kernel)) rfl (by decide) (S.2.2.2.2 _ tw_5_178) (va_any rfl (C0.2.1 _ (by decide +kernel))) hq hv hcl ?_
                          refine lv_astore (lv' := [(5, .ref q), (0, .ref (G.1 0)), (1, .int a1), (2, .int a2), (3, .int a3), (4, .int a4)]) hx hb dL_act_163 hl (by decide) rfl (fun ls hl => ?_)
                          refine lv_bipush (v := (-5)) hx hb dL_act_165 (by decide) ?_
                          cases hf
                          exact g_iret S M hr hlk (by omega) (by omega) dL_act_167 rfl
                        · have hf := it_n hc hf
                          cases hf
            · have hf := it_n c26 hf
              by_cases c31 : a1 = 6
              · have hf := it_p c31 hf
                refine g_top c31 ?_
                refine lv_tableIn (off := 103) (tgt := 104) hx hb dL_act_1 (by decide) (by decide) rfl (by decide) ?_
                refine lv_aload_n hx hb dL_act_104 rfl (lv_at hl 0 rfl) ?_
                refine lv_iload_n hx hb dL_act_105 rfl (lv_at hl 2 rfl) ?_
                refine lv_iload_n hx hb dL_act_106 rfl (lv_at hl 3 rfl) ?_
                rcases bt2_x hf with ⟨r33, σ34, h32, hf⟩ | ⟨n35, σ34, h32, hf⟩
                · refine g_callR (st1 := [.int r33]) (cells' := 1) (slots' := 6) M (g_invV (index := 63) S M C0 hl (c_X12_carry l hfl G H.size lo dd σ a2 a3 h32) k_X12_carry tw_3_79 tw_3_80 tw_3_78 (by decide) (ge_0 rfl) rfl rfl rfl rfl rfl rfl dL_act_107) rfl rfl rfl (fun H locs M => ?_)
                  cases hf
                  exact g_iret S M hr hlk (by omega) (by omega) dL_act_110 rfl
                · refine g_runX (cells' := 1) (slots' := 6) M (g_invV (index := 63) S M C0 hl (c_X12_carry l hfl G H.size lo dd σ a2 a3 h32) k_X12_carry tw_3_79 tw_3_80 tw_3_78 (by decide) (ge_0 rfl) rfl rfl rfl rfl rfl rfl dL_act_107) rfl rfl (fun ce q H locs M hq hv hcl => ?_)
                  by_cases hc : n35 = 0
                  · have hf := it_p hc hf
                    subst hc
                    refine vx_catch (E := "java/lang/IndexOutOfBoundsException") (name := "java/lang/IndexOutOfBoundsException") S.2.2.2.1 (tableOf (tb_L_act.take 6)) ⟨104, 110, 144, 81⟩ (tableOf (tb_L_act.drop 7)) (htab.trans rfl) (l_pass tb_L_act 6 107 [] gp_n (by decide +kernel)) rfl (by decide) (S.2.2.2.2 _ tw_5_154) (va_any rfl (C0.2.1 _ (by decide +kernel))) hq hv hcl ?_
                    refine lv_astore (lv' := [(5, .ref q), (0, .ref (G.1 0)), (1, .int a1), (2, .int a2), (3, .int a3), (4, .int a4)]) hx hb dL_act_144 hl (by decide) rfl (fun ls hl => ?_)
                    refine lv_iconst (v := (-1)) hx hb dL_act_146 (by decide) ?_
                    cases hf
                    exact g_iret S M hr hlk (by omega) (by omega) dL_act_147 rfl
                  · have hf := it_n hc hf
                    by_cases hc : n35 = 1
                    · have hf := it_p hc hf
                      subst hc
                      refine vx_catch (E := "java/lang/IllegalArgumentException") (name := "java/lang/IllegalArgumentException") S.2.2.2.1 (tableOf (tb_L_act.take 18)) ⟨104, 110, 148, 83⟩ (tableOf (tb_L_act.drop 19)) (htab.trans rfl) (l_pass tb_L_act 18 107 [(81, "java/lang/IndexOutOfBoundsException")] (gp_c ⟨by decide, S.2.2.2.2 _ tw_5_154, C0.2.2.2.1.1 ("java/lang/IllegalArgumentException", "java/lang/IndexOutOfBoundsException") (by decide +kernel)⟩ gp_n) (by decide +kernel)) rfl (by decide) (S.2.2.2.2 _ tw_5_175) (va_any rfl (C0.2.1 _ (by decide +kernel))) hq hv hcl ?_
                      refine lv_astore (lv' := [(5, .ref q), (0, .ref (G.1 0)), (1, .int a1), (2, .int a2), (3, .int a3), (4, .int a4)]) hx hb dL_act_148 hl (by decide) rfl (fun ls hl => ?_)
                      refine lv_bipush (v := (-2)) hx hb dL_act_150 (by decide) ?_
                      cases hf
                      exact g_iret S M hr hlk (by omega) (by omega) dL_act_152 rfl
                    · have hf := it_n hc hf
                      by_cases hc : n35 = 2
                      · have hf := it_p hc hf
                        subst hc
                        refine vx_catch (E := "java/lang/IllegalStateException") (name := "java/lang/IllegalStateException") S.2.2.2.1 (tableOf (tb_L_act.take 30)) ⟨104, 110, 153, 85⟩ (tableOf (tb_L_act.drop 31)) (htab.trans rfl) (l_pass tb_L_act 30 107 [(81, "java/lang/IndexOutOfBoundsException"), (83, "java/lang/IllegalArgumentException")] (gp_c ⟨by decide, S.2.2.2.2 _ tw_5_154, C0.2.2.2.1.1 ("java/lang/IllegalStateException", "java/lang/IndexOutOfBoundsException") (by decide +kernel)⟩ (gp_c ⟨by decide, S.2.2.2.2 _ tw_5_175, C0.2.2.2.1.1 ("java/lang/IllegalStateException", "java/lang/IllegalArgumentException") (by decide +kernel)⟩ gp_n)) (by decide +kernel)) rfl (by decide) (S.2.2.2.2 _ tw_5_176) (va_any rfl (C0.2.1 _ (by decide +kernel))) hq hv hcl ?_
                        refine lv_astore (lv' := [(5, .ref q), (0, .ref (G.1 0)), (1, .int a1), (2, .int a2), (3, .int a3), (4, .int a4)]) hx hb dL_act_153 hl (by decide) rfl (fun ls hl => ?_)
                        refine lv_bipush (v := (-3)) hx hb dL_act_155 (by decide) ?_
                        cases hf
                        exact g_iret S M hr hlk (by omega) (by omega) dL_act_157 rfl
                      · have hf := it_n hc hf
                        by_cases hc : n35 = 3
                        · have hf := it_p hc hf
                          subst hc
                          refine vx_catch (E := "java/lang/UnsupportedOperationException") (name := "java/lang/UnsupportedOperationException") S.2.2.2.1 (tableOf (tb_L_act.take 42)) ⟨104, 110, 158, 87⟩ (tableOf (tb_L_act.drop 43)) (htab.trans rfl) (l_pass tb_L_act 42 107 [(81, "java/lang/IndexOutOfBoundsException"), (83, "java/lang/IllegalArgumentException"), (85, "java/lang/IllegalStateException")] (gp_c ⟨by decide, S.2.2.2.2 _ tw_5_154, C0.2.2.2.1.1 ("java/lang/UnsupportedOperationException", "java/lang/IndexOutOfBoundsException") (by decide +kernel)⟩ (gp_c ⟨by decide, S.2.2.2.2 _ tw_5_175, C0.2.2.2.1.1 ("java/lang/UnsupportedOperationException", "java/lang/IllegalArgumentException") (by decide +kernel)⟩ (gp_c ⟨by decide, S.2.2.2.2 _ tw_5_176, C0.2.2.2.1.1 ("java/lang/UnsupportedOperationException", "java/lang/IllegalStateException") (by decide +kernel)⟩ gp_n))) (by decide +kernel)) rfl (by decide) (S.2.2.2.2 _ tw_5_177) (va_any rfl (C0.2.1 _ (by decide +kernel))) hq hv hcl ?_
                          refine lv_astore (lv' := [(5, .ref q), (0, .ref (G.1 0)), (1, .int a1), (2, .int a2), (3, .int a3), (4, .int a4)]) hx hb dL_act_158 hl (by decide) rfl (fun ls hl => ?_)
                          refine lv_bipush (v := (-4)) hx hb dL_act_160 (by decide) ?_
                          cases hf
                          exact g_iret S M hr hlk (by omega) (by omega) dL_act_162 rfl
                        · have hf := it_n hc hf
                          by_cases hc : n35 = 4
                          · have hf := it_p hc hf
                            subst hc
                            refine vx_catch (E := "java/util/NoSuchElementException") (name := "java/util/NoSuchElementException") S.2.2.2.1 (tableOf (tb_L_act.take 54)) ⟨104, 110, 163, 89⟩ (tableOf (tb_L_act.drop 55)) (htab.trans rfl) (l_pass tb_L_act 54 107 [(81, "java/lang/IndexOutOfBoundsException"), (83, "java/lang/IllegalArgumentException"), (85, "java/lang/IllegalStateException"), (87, "java/lang/UnsupportedOperationException")] (gp_c ⟨by decide, S.2.2.2.2 _ tw_5_154, C0.2.2.2.1.1 ("java/util/NoSuchElementException", "java/lang/IndexOutOfBoundsException") (by decide +kernel)⟩ (gp_c ⟨by decide, S.2.2.2.2 _ tw_5_175, C0.2.2.2.1.1 ("java/util/NoSuchElementException", "java/lang/IllegalArgumentException") (by decide +kernel)⟩ (gp_c ⟨by decide, S.2.2.2.2 _ tw_5_176, C0.2.2.2.1.1 ("java/util/NoSuchElementException", "java/lang/IllegalStateException") (by decide +kernel)⟩ (gp_c ⟨by decide, S.2.2.2.2 _ tw_5_177, C0.2.2.2.1.1 ("java/util/NoSuchElementException", "java/lang/UnsupportedOperationException") (by decide +kernel)⟩ gp_n)))) (by decide +kernel)) rfl (by decide) (S.2.2.2.2 _ tw_5_178) (va_any rfl (C0.2.1 _ (by decide +kernel))) hq hv hcl ?_
                            refine lv_astore (lv' := [(5, .ref q), (0, .ref (G.1 0)), (1, .int a1), (2, .int a2), (3, .int a3), (4, .int a4)]) hx hb dL_act_163 hl (by decide) rfl (fun ls hl => ?_)
                            refine lv_bipush (v := (-5)) hx hb dL_act_165 (by decide) ?_
                            cases hf
                            exact g_iret S M hr hlk (by omega) (by omega) dL_act_167 rfl
                          · have hf := it_n hc hf
                            cases hf
              · have hf := it_n c31 hf
                by_cases c36 : a1 = 7
                · have hf := it_p c36 hf
                  refine g_top c36 ?_
                  refine lv_tableIn (off := 110) (tgt := 111) hx hb dL_act_1 (by decide) (by decide) rfl (by decide) ?_
                  refine lv_aload_n hx hb dL_act_111 rfl (lv_at hl 0 rfl) ?_
                  refine lv_iload_n hx hb dL_act_112 rfl (lv_at hl 2 rfl) ?_
                  rcases bt2_x hf with ⟨r38, σ39, h37, hf⟩ | ⟨n40, σ39, h37, hf⟩
                  · refine g_callR (st1 := [.int r38]) (cells' := 1) (slots' := 6) M (g_invV (index := 66) S M C0 hl (c_X12_comeBack l hfl G H.size lo dd σ a2 h37) k_X12_comeBack tw_3_115 tw_3_116 tw_3_114 (by decide) (ge_0 rfl) rfl rfl rfl rfl rfl rfl dL_act_113) rfl rfl rfl (fun H locs M => ?_)
                    cases hf
                    exact g_iret S M hr hlk (by omega) (by omega) dL_act_116 rfl
                  · refine g_runX (cells' := 1) (slots' := 6) M (g_invV (index := 66) S M C0 hl (c_X12_comeBack l hfl G H.size lo dd σ a2 h37) k_X12_comeBack tw_3_115 tw_3_116 tw_3_114 (by decide) (ge_0 rfl) rfl rfl rfl rfl rfl rfl dL_act_113) rfl rfl (fun ce q H locs M hq hv hcl => ?_)
                    by_cases hc : n40 = 0
                    · have hf := it_p hc hf
                      subst hc
                      refine vx_catch (E := "java/lang/IndexOutOfBoundsException") (name := "java/lang/IndexOutOfBoundsException") S.2.2.2.1 (tableOf (tb_L_act.take 7)) ⟨111, 116, 144, 81⟩ (tableOf (tb_L_act.drop 8)) (htab.trans rfl) (l_pass tb_L_act 7 113 [] gp_n (by decide +kernel)) rfl (by decide) (S.2.2.2.2 _ tw_5_154) (va_any rfl (C0.2.1 _ (by decide +kernel))) hq hv hcl ?_
                      refine lv_astore (lv' := [(5, .ref q), (0, .ref (G.1 0)), (1, .int a1), (2, .int a2), (3, .int a3), (4, .int a4)]) hx hb dL_act_144 hl (by decide) rfl (fun ls hl => ?_)
                      refine lv_iconst (v := (-1)) hx hb dL_act_146 (by decide) ?_
                      cases hf
                      exact g_iret S M hr hlk (by omega) (by omega) dL_act_147 rfl
                    · have hf := it_n hc hf
                      by_cases hc : n40 = 1
                      · have hf := it_p hc hf
                        subst hc
                        refine vx_catch (E := "java/lang/IllegalArgumentException") (name := "java/lang/IllegalArgumentException") S.2.2.2.1 (tableOf (tb_L_act.take 19)) ⟨111, 116, 148, 83⟩ (tableOf (tb_L_act.drop 20)) (htab.trans rfl) (l_pass tb_L_act 19 113 [(81, "java/lang/IndexOutOfBoundsException")] (gp_c ⟨by decide, S.2.2.2.2 _ tw_5_154, C0.2.2.2.1.1 ("java/lang/IllegalArgumentException", "java/lang/IndexOutOfBoundsException") (by decide +kernel)⟩ gp_n) (by decide +kernel)) rfl (by decide) (S.2.2.2.2 _ tw_5_175) (va_any rfl (C0.2.1 _ (by decide +kernel))) hq hv hcl ?_
                        refine lv_astore (lv' := [(5, .ref q), (0, .ref (G.1 0)), (1, .int a1), (2, .int a2), (3, .int a3), (4, .int a4)]) hx hb dL_act_148 hl (by decide) rfl (fun ls hl => ?_)
                        refine lv_bipush (v := (-2)) hx hb dL_act_150 (by decide) ?_
                        cases hf
                        exact g_iret S M hr hlk (by omega) (by omega) dL_act_152 rfl
                      · have hf := it_n hc hf
                        by_cases hc : n40 = 2
                        · have hf := it_p hc hf
                          subst hc
                          refine vx_catch (E := "java/lang/IllegalStateException") (name := "java/lang/IllegalStateException") S.2.2.2.1 (tableOf (tb_L_act.take 31)) ⟨111, 116, 153, 85⟩ (tableOf (tb_L_act.drop 32)) (htab.trans rfl) (l_pass tb_L_act 31 113 [(81, "java/lang/IndexOutOfBoundsException"), (83, "java/lang/IllegalArgumentException")] (gp_c ⟨by decide, S.2.2.2.2 _ tw_5_154, C0.2.2.2.1.1 ("java/lang/IllegalStateException", "java/lang/IndexOutOfBoundsException") (by decide +kernel)⟩ (gp_c ⟨by decide, S.2.2.2.2 _ tw_5_175, C0.2.2.2.1.1 ("java/lang/IllegalStateException", "java/lang/IllegalArgumentException") (by decide +kernel)⟩ gp_n)) (by decide +kernel)) rfl (by decide) (S.2.2.2.2 _ tw_5_176) (va_any rfl (C0.2.1 _ (by decide +kernel))) hq hv hcl ?_
                          refine lv_astore (lv' := [(5, .ref q), (0, .ref (G.1 0)), (1, .int a1), (2, .int a2), (3, .int a3), (4, .int a4)]) hx hb dL_act_153 hl (by decide) rfl (fun ls hl => ?_)
                          refine lv_bipush (v := (-3)) hx hb dL_act_155 (by decide) ?_
                          cases hf
                          exact g_iret S M hr hlk (by omega) (by omega) dL_act_157 rfl
                        · have hf := it_n hc hf
                          by_cases hc : n40 = 3
                          · have hf := it_p hc hf
                            subst hc
                            refine vx_catch (E := "java/lang/UnsupportedOperationException") (name := "java/lang/UnsupportedOperationException") S.2.2.2.1 (tableOf (tb_L_act.take 43)) ⟨111, 116, 158, 87⟩ (tableOf (tb_L_act.drop 44)) (htab.trans rfl) (l_pass tb_L_act 43 113 [(81, "java/lang/IndexOutOfBoundsException"), (83, "java/lang/IllegalArgumentException"), (85, "java/lang/IllegalStateException")] (gp_c ⟨by decide, S.2.2.2.2 _ tw_5_154, C0.2.2.2.1.1 ("java/lang/UnsupportedOperationException", "java/lang/IndexOutOfBoundsException") (by decide +kernel)⟩ (gp_c ⟨by decide, S.2.2.2.2 _ tw_5_175, C0.2.2.2.1.1 ("java/lang/UnsupportedOperationException", "java/lang/IllegalArgumentException") (by decide +kernel)⟩ (gp_c ⟨by decide, S.2.2.2.2 _ tw_5_176, C0.2.2.2.1.1 ("java/lang/UnsupportedOperationException", "java/lang/IllegalStateException") (by decide +kernel)⟩ gp_n))) (by decide +kernel)) rfl (by decide) (S.2.2.2.2 _ tw_5_177) (va_any rfl (C0.2.1 _ (by decide +kernel))) hq hv hcl ?_
                            refine lv_astore (lv' := [(5, .ref q), (0, .ref (G.1 0)), (1, .int a1), (2, .int a2), (3, .int a3), (4, .int a4)]) hx hb dL_act_158 hl (by decide) rfl (fun ls hl => ?_)
                            refine lv_bipush (v := (-4)) hx hb dL_act_160 (by decide) ?_
                            cases hf
                            exact g_iret S M hr hlk (by omega) (by omega) dL_act_162 rfl
                          · have hf := it_n hc hf
                            by_cases hc : n40 = 4
                            · have hf := it_p hc hf
                              subst hc
                              refine vx_catch (E := "java/util/NoSuchElementException") (name := "java/util/NoSuchElementException") S.2.2.2.1 (tableOf (tb_L_act.take 55)) ⟨111, 116, 163, 89⟩ (tableOf (tb_L_act.drop 56)) (htab.trans rfl) (l_pass tb_L_act 55 113 [(81, "java/lang/IndexOutOfBoundsException"), (83, "java/lang/IllegalArgumentException"), (85, "java/lang/IllegalStateException"), (87, "java/lang/UnsupportedOperationException")] (gp_c ⟨by decide, S.2.2.2.2 _ tw_5_154, C0.2.2.2.1.1 ("java/util/NoSuchElementException", "java/lang/IndexOutOfBoundsException") (by decide +kernel)⟩ (gp_c ⟨by decide, S.2.2.2.2 _ tw_5_175, C0.2.2.2.1.1 ("java/util/NoSuchElementException", "java/lang/IllegalArgumentException") (by decide +kernel)⟩ (gp_c ⟨by decide, S.2.2.2.2 _ tw_5_176, C0.2.2.2.1.1 ("java/util/NoSuchElementException", "java/lang/IllegalStateException") (by decide +kernel)⟩ (gp_c ⟨by decide, S.2.2.2.2 _ tw_5_177, C0.2.2.2.1.1 ("java/util/NoSuchElementException", "java/lang/UnsupportedOperationException") (by decide +kernel)⟩ gp_n)))) (by decide +kernel)) rfl (by decide) (S.2.2.2.2 _ tw_5_178) (va_any rfl (C0.2.1 _ (by decide +kernel))) hq hv hcl ?_
                              refine lv_astore (lv' := [(5, .ref q), (0, .ref (G.1 0)), (1, .int a1), (2, .int a2), (3, .int a3), (4, .int a4)]) hx hb dL_act_163 hl (by decide) rfl (fun ls hl => ?_)
                              refine lv_bipush (v := (-5)) hx hb dL_act_165 (by decide) ?_
                              cases hf
                              exact g_iret S M hr hlk (by omega) (by omega) dL_act_167 rfl
                            · have hf := it_n hc hf
                              cases hf
                · have hf := it_n c36 hf
                  by_cases c41 : a1 = 8
                  · have hf := it_p c41 hf
                    refine g_top c41 ?_
                    refine lv_tableIn (off := 116) (tgt := 117) hx hb dL_act_1 (by decide) (by decide) rfl (by decide) ?_
                    refine lv_aload_n hx hb dL_act_117 rfl (lv_at hl 0 rfl) ?_
                    refine lv_iload_n hx hb dL_act_118 rfl (lv_at hl 2 rfl) ?_
                    refine lv_iload_n hx hb dL_act_119 rfl (lv_at hl 3 rfl) ?_
                    rcases bt2_x hf with ⟨r43, σ44, h42, hf⟩ | ⟨n45, σ44, h42, hf⟩
                    · refine g_callR (st1 := [.int r43]) (cells' := 3) (slots' := 18) M (g_invV (index := 69) S M C0 hl (c_X12_distance l hfl G H.size lo dd σ a2 a3 h42) k_X12_distance tw_3_135 tw_3_136 tw_3_134 (by decide) (ge_0 rfl) rfl rfl rfl rfl rfl rfl dL_act_120) rfl rfl rfl (fun H locs M => ?_)
                      cases hf
                      exact g_iret S M hr hlk (by omega) (by omega) dL_act_123 rfl
                    · refine g_runX (cells' := 3) (slots' := 18) M (g_invV (index := 69) S M C0 hl (c_X12_distance l hfl G H.size lo dd σ a2 a3 h42) k_X12_distance tw_3_135 tw_3_136 tw_3_134 (by decide) (ge_0 rfl) rfl rfl rfl rfl rfl rfl dL_act_120) rfl rfl (fun ce q H locs M hq hv hcl => ?_)
                      by_cases hc : n45 = 0
                      · have hf := it_p hc hf
                        subst hc
                        refine vx_catch (E := "java/lang/IndexOutOfBoundsException") (name := "java/lang/IndexOutOfBoundsException") S.2.2.2.1 (tableOf (tb_L_act.take 8)) ⟨117, 123, 144, 81⟩ (tableOf (tb_L_act.drop 9)) (htab.trans rfl) (l_pass tb_L_act 8 120 [] gp_n (by decide +kernel)) rfl (by decide) (S.2.2.2.2 _ tw_5_154) (va_any rfl (C0.2.1 _ (by decide +kernel))) hq hv hcl ?_
                        refine lv_astore (lv' := [(5, .ref q), (0, .ref (G.1 0)), (1, .int a1), (2, .int a2), (3, .int a3), (4, .int a4)]) hx hb dL_act_144 hl (by decide) rfl (fun ls hl => ?_)
                        refine lv_iconst (v := (-1)) hx hb dL_act_146 (by decide) ?_
                        cases hf
                        exact g_iret S M hr hlk (by omega) (by omega) dL_act_147 rfl
                      · have hf := it_n hc hf
                        by_cases hc : n45 = 1
                        · have hf := it_p hc hf
                          subst hc
                          refine vx_catch (E := "java/lang/IllegalArgumentException") (name := "java/lang/IllegalArgumentException") S.2.2.2.1 (tableOf (tb_L_act.take 20)) ⟨117, 123, 148, 83⟩ (tableOf (tb_L_act.drop 21)) (htab.trans rfl) (l_pass tb_L_act 20 120 [(81, "java/lang/IndexOutOfBoundsException")] (gp_c ⟨by decide, S.2.2.2.2 _ tw_5_154, C0.2.2.2.1.1 ("java/lang/IllegalArgumentException", "java/lang/IndexOutOfBoundsException") (by decide +kernel)⟩ gp_n) (by decide +kernel)) rfl (by decide) (S.2.2.2.2 _ tw_5_175) (va_any rfl (C0.2.1 _ (by decide +kernel))) hq hv hcl ?_
                          refine lv_astore (lv' := [(5, .ref q), (0, .ref (G.1 0)), (1, .int a1), (2, .int a2), (3, .int a3), (4, .int a4)]) hx hb dL_act_148 hl (by decide) rfl (fun ls hl => ?_)
                          refine lv_bipush (v := (-2)) hx hb dL_act_150 (by decide) ?_
                          cases hf
                          exact g_iret S M hr hlk (by omega) (by omega) dL_act_152 rfl
                        · have hf := it_n hc hf
                          by_cases hc : n45 = 2
                          · have hf := it_p hc hf
                            subst hc
                            refine vx_catch (E := "java/lang/IllegalStateException") (name := "java/lang/IllegalStateException") S.2.2.2.1 (tableOf (tb_L_act.take 32)) ⟨117, 123, 153, 85⟩ (tableOf (tb_L_act.drop 33)) (htab.trans rfl) (l_pass tb_L_act 32 120 [(81, "java/lang/IndexOutOfBoundsException"), (83, "java/lang/IllegalArgumentException")] (gp_c ⟨by decide, S.2.2.2.2 _ tw_5_154, C0.2.2.2.1.1 ("java/lang/IllegalStateException", "java/lang/IndexOutOfBoundsException") (by decide +kernel)⟩ (gp_c ⟨by decide, S.2.2.2.2 _ tw_5_175, C0.2.2.2.1.1 ("java/lang/IllegalStateException", "java/lang/IllegalArgumentException") (by decide +kernel)⟩ gp_n)) (by decide +kernel)) rfl (by decide) (S.2.2.2.2 _ tw_5_176) (va_any rfl (C0.2.1 _ (by decide +kernel))) hq hv hcl ?_
                            refine lv_astore (lv' := [(5, .ref q), (0, .ref (G.1 0)), (1, .int a1), (2, .int a2), (3, .int a3), (4, .int a4)]) hx hb dL_act_153 hl (by decide) rfl (fun ls hl => ?_)
                            refine lv_bipush (v := (-3)) hx hb dL_act_155 (by decide) ?_
                            cases hf
                            exact g_iret S M hr hlk (by omega) (by omega) dL_act_157 rfl
                          · have hf := it_n hc hf
                            by_cases hc : n45 = 3
                            · have hf := it_p hc hf
                              subst hc
                              refine vx_catch (E := "java/lang/UnsupportedOperationException") (name := "java/lang/UnsupportedOperationException") S.2.2.2.1 (tableOf (tb_L_act.take 44)) ⟨117, 123, 158, 87⟩ (tableOf (tb_L_act.drop 45)) (htab.trans rfl) (l_pass tb_L_act 44 120 [(81, "java/lang/IndexOutOfBoundsException"), (83, "java/lang/IllegalArgumentException"), (85, "java/lang/IllegalStateException")] (gp_c ⟨by decide, S.2.2.2.2 _ tw_5_154, C0.2.2.2.1.1 ("java/lang/UnsupportedOperationException", "java/lang/IndexOutOfBoundsException") (by decide +kernel)⟩ (gp_c ⟨by decide, S.2.2.2.2 _ tw_5_175, C0.2.2.2.1.1 ("java/lang/UnsupportedOperationException", "java/lang/IllegalArgumentException") (by decide +kernel)⟩ (gp_c ⟨by decide, S.2.2.2.2 _ tw_5_176, C0.2.2.2.1.1 ("java/lang/UnsupportedOperationException", "java/lang/IllegalStateException") (by decide +kernel)⟩ gp_n))) (by decide +kernel)) rfl (by decide) (S.2.2.2.2 _ tw_5_177) (va_any rfl (C0.2.1 _ (by decide +kernel))) hq hv hcl ?_
                              refine lv_astore (lv' := [(5, .ref q), (0, .ref (G.1 0)), (1, .int a1), (2, .int a2), (3, .int a3), (4, .int a4)]) hx hb dL_act_158 hl (by decide) rfl (fun ls hl => ?_)
                              refine lv_bipush (v := (-4)) hx hb dL_act_160 (by decide) ?_
                              cases hf
                              exact g_iret S M hr hlk (by omega) (by omega) dL_act_162 rfl
                            · have hf := it_n hc hf
                              by_cases hc : n45 = 4
                              · have hf := it_p hc hf
                                subst hc
                                refine vx_catch (E := "java/util/NoSuchElementException") (name := "java/util/NoSuchElementException") S.2.2.2.1 (tableOf (tb_L_act.take 56)) ⟨117, 123, 163, 89⟩ (tableOf (tb_L_act.drop 57)) (htab.trans rfl) (l_pass tb_L_act 56 120 [(81, "java/lang/IndexOutOfBoundsException"), (83, "java/lang/IllegalArgumentException"), (85, "java/lang/IllegalStateException"), (87, "java/lang/UnsupportedOperationException")] (gp_c ⟨by decide, S.2.2.2.2 _ tw_5_154, C0.2.2.2.1.1 ("java/util/NoSuchElementException", "java/lang/IndexOutOfBoundsException") (by decide +kernel)⟩ (gp_c ⟨by decide, S.2.2.2.2 _ tw_5_175, C0.2.2.2.1.1 ("java/util/NoSuchElementException", "java/lang/IllegalArgumentException") (by decide +kernel)⟩ (gp_c ⟨by decide, S.2.2.2.2 _ tw_5_176, C0.2.2.2.1.1 ("java/util/NoSuchElementException", "java/lang/IllegalStateException") (by decide +kernel)⟩ (gp_c ⟨by decide, S.2.2.2.2 _ tw_5_177, C0.2.2.2.1.1 ("java/util/NoSuchElementException", "java/lang/UnsupportedOperationException") (by decide +kernel)⟩ gp_n)))) (by decide +kernel)) rfl (by decide) (S.2.2.2.2 _ tw_5_178) (va_any rfl (C0.2.1 _ (by decide +kernel))) hq hv hcl ?_
                                refine lv_astore (lv' := [(5, .ref q), (0, .ref (G.1 0)), (1, .int a1), (2, .int a2), (3, .int a3), (4, .int a4)]) hx hb dL_act_163 hl (by decide) rfl (fun ls hl => ?_)
                                refine lv_bipush (v := (-5)) hx hb dL_act_165 (by decide) ?_
                                cases hf
                                exact g_iret S M hr hlk (by omega) (by omega) dL_act_167 rfl
                              · have hf := it_n hc hf
                                cases hf
                  · have hf := it_n c41 hf
                    by_cases c46 : a1 = 9
                    · have hf := it_p c46 hf
                      refine g_top c46 ?_
                      refine lv_tableIn (off := 123) (tgt := 124) hx hb dL_act_1 (by decide) (by decide) rfl (by decide) ?_
                      refine lv_aload_n hx hb dL_act_124 rfl (lv_at hl 0 rfl) ?_
                      refine lv_iload_n hx hb dL_act_125 rfl (lv_at hl 2 rfl) ?_
                      refine lv_iload_n hx hb dL_act_126 rfl (lv_at hl 3 rfl) ?_
                      rcases bt2_x hf with ⟨r48, σ49, h47, hf⟩ | ⟨n50, σ49, h47, hf⟩
                      · refine g_callR (st1 := [.int r48]) (cells' := 3) (slots' := 18) M (g_invV (index := 72) S M C0 hl (c_X12_distanceByRounds l hfl G H.size lo dd σ a2 a3 h47) k_X12_distanceByRounds tw_3_150 tw_3_151 tw_3_149 (by decide) (ge_0 rfl) rfl rfl rfl rfl rfl rfl dL_act_127) rfl rfl rfl (fun H locs M => ?_)
                        cases hf
                        exact g_iret S M hr hlk (by omega) (by omega) dL_act_130 rfl
                      · refine g_runX (cells' := 3) (slots' := 18) M (g_invV (index := 72) S M C0 hl (c_X12_distanceByRounds l hfl G H.size lo dd σ a2 a3 h47) k_X12_distanceByRounds tw_3_150 tw_3_151 tw_3_149 (by decide) (ge_0 rfl) rfl rfl rfl rfl rfl rfl dL_act_127) rfl rfl (fun ce q H locs M hq hv hcl => ?_)
                        by_cases hc : n50 = 0
                        · have hf := it_p hc hf
                          subst hc
                          refine vx_catch (E := "java/lang/IndexOutOfBoundsException") (name := "java/lang/IndexOutOfBoundsException") S.2.2.2.1 (tableOf (tb_L_act.take 9)) ⟨124, 130, 144, 81⟩ (tableOf (tb_L_act.drop 10)) (htab.trans rfl) (l_pass tb_L_act 9 127 [] gp_n (by decide +kernel)) rfl (by decide) (S.2.2.2.2 _ tw_5_154) (va_any rfl (C0.2.1 _ (by decide +kernel))) hq hv hcl ?_
                          refine lv_astore (lv' := [(5, .ref q), (0, .ref (G.1 0)), (1, .int a1), (2, .int a2), (3, .int a3), (4, .int a4)]) hx hb dL_act_144 hl (by decide) rfl (fun ls hl => ?_)
                          refine lv_iconst (v := (-1)) hx hb dL_act_146 (by decide) ?_
                          cases hf
                          exact g_iret S M hr hlk (by omega) (by omega) dL_act_147 rfl
                        · have hf := it_n hc hf
                          by_cases hc : n50 = 1
                          · have hf := it_p hc hf
                            subst hc
                            refine vx_catch (E := "java/lang/IllegalArgumentException") (name := "java/lang/IllegalArgumentException") S.2.2.2.1 (tableOf (tb_L_act.take 21)) ⟨124, 130, 148, 83⟩ (tableOf (tb_L_act.drop 22)) (htab.trans rfl) (l_pass tb_L_act 21 127 [(81, "java/lang/IndexOutOfBoundsException")] (gp_c ⟨by decide, S.2.2.2.2 _ tw_5_154, C0.2.2.2.1.1 ("java/lang/IllegalArgumentException", "java/lang/IndexOutOfBoundsException") (by decide +kernel)⟩ gp_n) (by decide +kernel)) rfl (by decide) (S.2.2.2.2 _ tw_5_175) (va_any rfl (C0.2.1 _ (by decide +kernel))) hq hv hcl ?_
                            refine lv_astore (lv' := [(5, .ref q), (0, .ref (G.1 0)), (1, .int a1), (2, .int a2), (3, .int a3), (4, .int a4)]) hx hb dL_act_148 hl (by decide) rfl (fun ls hl => ?_)
                            refine lv_bipush (v := (-2)) hx hb dL_act_150 (by decide) ?_
                            cases hf
                            exact g_iret S M hr hlk (by omega) (by omega) dL_act_152 rfl
                          · have hf := it_n hc hf
                            by_cases hc : n50 = 2
                            · have hf := it_p hc hf
                              subst hc
                              refine vx_catch (E := "java/lang/IllegalStateException") (name := "java/lang/IllegalStateException") S.2.2.2.1 (tableOf (tb_L_act.take 33)) ⟨124, 130, 153, 85⟩ (tableOf (tb_L_act.drop 34)) (htab.trans rfl) (l_pass tb_L_act 33 127 [(81, "java/lang/IndexOutOfBoundsException"), (83, "java/lang/IllegalArgumentException")] (gp_c ⟨by decide, S.2.2.2.2 _ tw_5_154, C0.2.2.2.1.1 ("java/lang/IllegalStateException", "java/lang/IndexOutOfBoundsException") (by decide +kernel)⟩ (gp_c ⟨by decide, S.2.2.2.2 _ tw_5_175, C0.2.2.2.1.1 ("java/lang/IllegalStateException", "java/lang/IllegalArgumentException") (by decide +kernel)⟩ gp_n)) (by decide +kernel)) rfl (by decide) (S.2.2.2.2 _ tw_5_176) (va_any rfl (C0.2.1 _ (by decide +kernel))) hq hv hcl ?_
                              refine lv_astore (lv' := [(5, .ref q), (0, .ref (G.1 0)), (1, .int a1), (2, .int a2), (3, .int a3), (4, .int a4)]) hx hb dL_act_153 hl (by decide) rfl (fun ls hl => ?_)
                              refine lv_bipush (v := (-3)) hx hb dL_act_155 (by decide) ?_
                              cases hf
                              exact g_iret S M hr hlk (by omega) (by omega) dL_act_157 rfl
                            · have hf := it_n hc hf
                              by_cases hc : n50 = 3
                              · have hf := it_p hc hf
                                subst hc
                                refine vx_catch (E := "java/lang/UnsupportedOperationException") (name := "java/lang/UnsupportedOperationException") S.2.2.2.1 (tableOf (tb_L_act.take 45)) ⟨124, 130, 158, 87⟩ (tableOf (tb_L_act.drop 46)) (htab.trans rfl) (l_pass tb_L_act 45 127 [(81, "java/lang/IndexOutOfBoundsException"), (83, "java/lang/IllegalArgumentException"), (85, "java/lang/IllegalStateException")] (gp_c ⟨by decide, S.2.2.2.2 _ tw_5_154, C0.2.2.2.1.1 ("java/lang/UnsupportedOperationException", "java/lang/IndexOutOfBoundsException") (by decide +kernel)⟩ (gp_c ⟨by decide, S.2.2.2.2 _ tw_5_175, C0.2.2.2.1.1 ("java/lang/UnsupportedOperationException", "java/lang/IllegalArgumentException") (by decide +kernel)⟩ (gp_c ⟨by decide, S.2.2.2.2 _ tw_5_176, C0.2.2.2.1.1 ("java/lang/UnsupportedOperationException", "java/lang/IllegalStateException") (by decide +kernel)⟩ gp_n))) (by decide +kernel)) rfl (by decide) (S.2.2.2.2 _ tw_5_177) (va_any rfl (C0.2.1 _ (by decide +kernel))) hq hv hcl ?_
                                refine lv_astore (lv' := [(5, .ref q), (0, .ref (G.1 0)), (1, .int a1), (2, .int a2), (3, .int a3), (4, .int a4)]) hx hb dL_act_158 hl (by decide) rfl (fun ls hl => ?_)
                                refine lv_bipush (v := (-4)) hx hb dL_act_160 (by decide) ?_
                                cases hf
                                exact g_iret S M hr hlk (by omega) (by omega) dL_act_162 rfl
                              · have hf := it_n hc hf
                                by_cases hc : n50 = 4
                                · have hf := it_p hc hf
                                  subst hc
                                  refine vx_catch (E := "java/util/NoSuchElementException") (name := "java/util/NoSuchElementException") S.2.2.2.1 (tableOf (tb_L_act.take 57)) ⟨124, 130, 163, 89⟩ (tableOf (tb_L_act.drop 58)) (htab.trans rfl) (l_pass tb_L_act 57 127 [(81, "java/lang/IndexOutOfBoundsException"), (83, "java/lang/IllegalArgumentException"), (85, "java/lang/IllegalStateException"), (87, "java/lang/UnsupportedOperationException")] (gp_c ⟨by decide, S.2.2.2.2 _ tw_5_154, C0.2.2.2.1.1 ("java/util/NoSuchElementException", "java/lang/IndexOutOfBoundsException") (by decide +kernel)⟩ (gp_c ⟨by decide, S.2.2.2.2 _ tw_5_175, C0.2.2.2.1.1 ("java/util/NoSuchElementException", "java/lang/IllegalArgumentException") (by decide +kernel)⟩ (gp_c ⟨by decide, S.2.2.2.2 _ tw_5_176, C0.2.2.2.1.1 ("java/util/NoSuchElementException", "java/lang/IllegalStateException") (by decide +kernel)⟩ (gp_c ⟨by decide, S.2.2.2.2 _ tw_5_177, C0.2.2.2.1.1 ("java/util/NoSuchElementException", "java/lang/UnsupportedOperationException") (by decide +kernel)⟩ gp_n)))) (by decide +kernel)) rfl (by decide) (S.2.2.2.2 _ tw_5_178) (va_any rfl (C0.2.1 _ (by decide +kernel))) hq hv hcl ?_
                                  refine lv_astore (lv' := [(5, .ref q), (0, .ref (G.1 0)), (1, .int a1), (2, .int a2), (3, .int a3), (4, .int a4)]) hx hb dL_act_163 hl (by decide) rfl (fun ls hl => ?_)
                                  refine lv_bipush (v := (-5)) hx hb dL_act_165 (by decide) ?_
                                  cases hf
                                  exact g_iret S M hr hlk (by omega) (by omega) dL_act_167 rfl
                                · have hf := it_n hc hf
                                  cases hf
                    · have hf := it_n c46 hf
                      by_cases c51 : a1 = 10
                      · have hf := it_p c51 hf
                        refine g_top c51 ?_
                        refine lv_tableIn (off := 130) (tgt := 131) hx hb dL_act_1 (by decide) (by decide) rfl (by decide) ?_
                        refine lv_aload_n hx hb dL_act_131 rfl (lv_at hl 0 rfl) ?_
                        refine lv_iload_n hx hb dL_act_132 rfl (lv_at hl 2 rfl) ?_
                        rcases bt_x hf with ⟨r53, h52, hf⟩ | ⟨n54, h52, hf⟩
                        · refine g_callR (st1 := [.int r53]) (cells' := 2) (slots' := 12) M (g_invV (index := 75) S M C0 hl (c_X12_gloveFor l hfl G H.size lo dd σ a2 h52) k_X12_gloveFor tw_3_239 tw_4_0 tw_3_238 (by decide) (ge_0 rfl) rfl rfl rfl rfl rfl rfl dL_act_133) rfl rfl rfl (fun H locs M => ?_)
                          cases hf
                          exact g_iret S M hr hlk (by omega) (by omega) dL_act_136 rfl
                        · refine g_runX (cells' := 2) (slots' := 12) M (g_invV (index := 75) S M C0 hl (c_X12_gloveFor l hfl G H.size lo dd σ a2 h52) k_X12_gloveFor tw_3_239 tw_4_0 tw_3_238 (by decide) (ge_0 rfl) rfl rfl rfl rfl rfl rfl dL_act_133) rfl rfl (fun ce q H locs M hq hv hcl => ?_)
                          by_cases hc : n54 = 0
                          · have hf := it_p hc hf
                            subst hc
                            refine vx_catch (E := "java/lang/IndexOutOfBoundsException") (name := "java/lang/IndexOutOfBoundsException") S.2.2.2.1 (tableOf (tb_L_act.take 10)) ⟨131, 136, 144, 81⟩ (tableOf (tb_L_act.drop 11)) (htab.trans rfl) (l_pass tb_L_act 10 133 [] gp_n (by decide +kernel)) rfl (by decide) (S.2.2.2.2 _ tw_5_154) (va_any rfl (C0.2.1 _ (by decide +kernel))) hq hv hcl ?_
                            refine lv_astore (lv' := [(5, .ref q), (0, .ref (G.1 0)), (1, .int a1), (2, .int a2), (3, .int a3), (4, .int a4)]) hx hb dL_act_144 hl (by decide) rfl (fun ls hl => ?_)
                            refine lv_iconst (v := (-1)) hx hb dL_act_146 (by decide) ?_
                            cases hf
                            exact g_iret S M hr hlk (by omega) (by omega) dL_act_147 rfl
                          · have hf := it_n hc hf
                            by_cases hc : n54 = 1
                            · have hf := it_p hc hf
                              subst hc
                              refine vx_catch (E := "java/lang/IllegalArgumentException") (name := "java/lang/IllegalArgumentException") S.2.2.2.1 (tableOf (tb_L_act.take 22)) ⟨131, 136, 148, 83⟩ (tableOf (tb_L_act.drop 23)) (htab.trans rfl) (l_pass tb_L_act 22 133 [(81, "java/lang/IndexOutOfBoundsException")] (gp_c ⟨by decide, S.2.2.2.2 _ tw_5_154, C0.2.2.2.1.1 ("java/lang/IllegalArgumentException", "java/lang/IndexOutOfBoundsException") (by decide +kernel)⟩ gp_n) (by decide +kernel)) rfl (by decide) (S.2.2.2.2 _ tw_5_175) (va_any rfl (C0.2.1 _ (by decide +kernel))) hq hv hcl ?_
                              refine lv_astore (lv' := [(5, .ref q), (0, .ref (G.1 0)), (1, .int a1), (2, .int a2), (3, .int a3), (4, .int a4)]) hx hb dL_act_148 hl (by decide) rfl (fun ls hl => ?_)
                              refine lv_bipush (v := (-2)) hx hb dL_act_150 (by decide) ?_
                              cases hf
                              exact g_iret S M hr hlk (by omega) (by omega) dL_act_152 rfl
                            · have hf := it_n hc hf
                              by_cases hc : n54 = 2
                              · have hf := it_p hc hf
                                subst hc
                                refine vx_catch (E := "java/lang/IllegalStateException") (name := "java/lang/IllegalStateException") S.2.2.2.1 (tableOf (tb_L_act.take 34)) ⟨131, 136, 153, 85⟩ (tableOf (tb_L_act.drop 35)) (htab.trans rfl) (l_pass tb_L_act 34 133 [(81, "java/lang/IndexOutOfBoundsException"), (83, "java/lang/IllegalArgumentException")] (gp_c ⟨by decide, S.2.2.2.2 _ tw_5_154, C0.2.2.2.1.1 ("java/lang/IllegalStateException", "java/lang/IndexOutOfBoundsException") (by decide +kernel)⟩ (gp_c ⟨by decide, S.2.2.2.2 _ tw_5_175, C0.2.2.2.1.1 ("java/lang/IllegalStateException", "java/lang/IllegalArgumentException") (by decide +kernel)⟩ gp_n)) (by decide +kernel)) rfl (by decide) (S.2.2.2.2 _ tw_5_176) (va_any rfl (C0.2.1 _ (by decide +kernel))) hq hv hcl ?_
                                refine lv_astore (lv' := [(5, .ref q), (0, .ref (G.1 0)), (1, .int a1), (2, .int a2), (3, .int a3), (4, .int a4)]) hx hb dL_act_153 hl (by decide) rfl (fun ls hl => ?_)
                                refine lv_bipush (v := (-3)) hx hb dL_act_155 (by decide) ?_
                                cases hf
                                exact g_iret S M hr hlk (by omega) (by omega) dL_act_157 rfl
                              · have hf := it_n hc hf
                                by_cases hc : n54 = 3
                                · have hf := it_p hc hf
                                  subst hc
                                  refine vx_catch (E := "java/lang/UnsupportedOperationException") (name := "java/lang/UnsupportedOperationException") S.2.2.2.1 (tableOf (tb_L_act.take 46)) ⟨131, 136, 158, 87⟩ (tableOf (tb_L_act.drop 47)) (htab.trans rfl) (l_pass tb_L_act 46 133 [(81, "java/lang/IndexOutOfBoundsException"), (83, "java/lang/IllegalArgumentException"), (85, "java/lang/IllegalStateException")] (gp_c ⟨by decide, S.2.2.2.2 _ tw_5_154, C0.2.2.2.1.1 ("java/lang/UnsupportedOperationException", "java/lang/IndexOutOfBoundsException") (by decide +kernel)⟩ (gp_c ⟨by decide, S.2.2.2.2 _ tw_5_175, C0.2.2.2.1.1 ("java/lang/UnsupportedOperationException", "java/lang/IllegalArgumentException") (by decide +kernel)⟩ (gp_c ⟨by decide, S.2.2.2.2 _ tw_5_176, C0.2.2.2.1.1 ("java/lang/UnsupportedOperationException", "java/lang/IllegalStateException") (by decide +kernel)⟩ gp_n))) (by decide +kernel)) rfl (by decide) (S.2.2.2.2 _ tw_5_177) (va_any rfl (C0.2.1 _ (by decide +kernel))) hq hv hcl ?_
                                  refine lv_astore (lv' := [(5, .ref q), (0, .ref (G.1 0)), (1, .int a1), (2, .int a2), (3, .int a3), (4, .int a4)]) hx hb dL_act_158 hl (by decide) rfl (fun ls hl => ?_)
                                  refine lv_bipush (v := (-4)) hx hb dL_act_160 (by decide) ?_
                                  cases hf
                                  exact g_iret S M hr hlk (by omega) (by omega) dL_act_162 rfl
                                · have hf := it_n hc hf
                                  by_cases hc : n54 = 4
                                  · have hf := it_p hc hf
                                    subst hc
                                    refine vx_catch (E := "java/util/NoSuchElementException") (name := "java/util/NoSuchElementException") S.2.2.2.1 (tableOf (tb_L_act.take 58)) ⟨131, 136, 163, 89⟩ (tableOf (tb_L_act.drop 59)) (htab.trans rfl) (l_pass tb_L_act 58 133 [(81, "java/lang/IndexOutOfBoundsException"), (83, "java/lang/IllegalArgumentException"), (85, "java/lang/IllegalStateException"), (87, "java/lang/UnsupportedOperationException")] (gp_c ⟨by decide, S.2.2.2.2 _ tw_5_154, C0.2.2.2.1.1 ("java/util/NoSuchElementException", "java/lang/IndexOutOfBoundsException") (by decide +kernel)⟩ (gp_c ⟨by decide, S.2.2.2.2 _ tw_5_175, C0.2.2.2.1.1 ("java/util/NoSuchElementException", "java/lang/IllegalArgumentException") (by decide +kernel)⟩ (gp_c ⟨by decide, S.2.2.2.2 _ tw_5_176, C0.2.2.2.1.1 ("java/util/NoSuchElementException", "java/lang/IllegalStateException") (by decide +kernel)⟩ (gp_c ⟨by decide, S.2.2.2.2 _ tw_5_177, C0.2.2.2.1.1 ("java/util/NoSuchElementException", "java/lang/UnsupportedOperationException") (by decide +kernel)⟩ gp_n)))) (by decide +kernel)) rfl (by decide) (S.2.2.2.2 _ tw_5_178) (va_any rfl (C0.2.1 _ (by decide +kernel))) hq hv hcl ?_
                                    refine lv_astore (lv' := [(5, .ref q), (0, .ref (G.1 0)), (1, .int a1), (2, .int a2), (3, .int a3), (4, .int a4)]) hx hb dL_act_163 hl (by decide) rfl (fun ls hl => ?_)
                                    refine lv_bipush (v := (-5)) hx hb dL_act_165 (by decide) ?_
                                    cases hf
                                    exact g_iret S M hr hlk (by omega) (by omega) dL_act_167 rfl
                                  · have hf := it_n hc hf
                                    cases hf
                      · have hf := it_n c51 hf
                        refine g_tswD (tgt := 137) hx hb dL_act_1 (by decide) (by decide) (fun i hi => ?_) ?_
                        · have hi : i < 11 := hi
                          refine Or.inr (fun q => ?_)
                          rcases (show i = 0 ∨ i = 1 ∨ i = 2 ∨ i = 3 ∨ i = 4 ∨ i = 5 ∨ i = 6 ∨ i = 7 ∨ i = 8 ∨ i = 9 ∨ i = 10 by omega) with rfl | rfl | rfl | rfl | rfl | rfl | rfl | rfl | rfl | rfl | rfl
                          · exact c1 (g_toInt_inj (q.trans (by decide)))
                          · exact c6 (g_toInt_inj (q.trans (by decide)))
                          · exact c11 (g_toInt_inj (q.trans (by decide)))
                          · exact c16 (g_toInt_inj (q.trans (by decide)))
                          · exact c21 (g_toInt_inj (q.trans (by decide)))
                          · exact c26 (g_toInt_inj (q.trans (by decide)))
                          · exact c31 (g_toInt_inj (q.trans (by decide)))
                          · exact c36 (g_toInt_inj (q.trans (by decide)))
                          · exact c41 (g_toInt_inj (q.trans (by decide)))
                          · exact c46 (g_toInt_inj (q.trans (by decide)))
                          · exact c51 (g_toInt_inj (q.trans (by decide)))
                        · refine lv_aload_n hx hb dL_act_137 rfl (lv_at hl 0 rfl) ?_
                          refine lv_iload_n hx hb dL_act_138 rfl (lv_at hl 2 rfl) ?_
                          refine lv_iload_n hx hb dL_act_139 rfl (lv_at hl 3 rfl) ?_
                          rcases bt2_x hf with ⟨r56, σ57, h55, hf⟩ | ⟨n58, σ57, h55, hf⟩
                          · refine g_callR (st1 := [.int r56]) (cells' := 3) (slots' := 18) M (g_invV (index := 78) S M C0 hl (c_X12_effortTo l hfl G H.size lo dd σ a2 a3 h55) k_X12_effortTo tw_4_87 tw_4_88 tw_4_86 (by decide) (ge_0 rfl) rfl rfl rfl rfl rfl rfl dL_act_140) rfl rfl rfl (fun H locs M => ?_)
                            cases hf
                            exact g_iret S M hr hlk (by omega) (by omega) dL_act_143 rfl
                          · refine g_runX (cells' := 3) (slots' := 18) M (g_invV (index := 78) S M C0 hl (c_X12_effortTo l hfl G H.size lo dd σ a2 a3 h55) k_X12_effortTo tw_4_87 tw_4_88 tw_4_86 (by decide) (ge_0 rfl) rfl rfl rfl rfl rfl rfl dL_act_140) rfl rfl (fun ce q H locs M hq hv hcl => ?_)
                            by_cases hc : n58 = 0
                            · have hf := it_p hc hf
                              subst hc
                              refine vx_catch (E := "java/lang/IndexOutOfBoundsException") (name := "java/lang/IndexOutOfBoundsException") S.2.2.2.1 (tableOf (tb_L_act.take 11)) ⟨137, 143, 144, 81⟩ (tableOf (tb_L_act.drop 12)) (htab.trans rfl) (l_pass tb_L_act 11 140 [] gp_n (by decide +kernel)) rfl (by decide) (S.2.2.2.2 _ tw_5_154) (va_any rfl (C0.2.1 _ (by decide +kernel))) hq hv hcl ?_
                              refine lv_astore (lv' := [(5, .ref q), (0, .ref (G.1 0)), (1, .int a1), (2, .int a2), (3, .int a3), (4, .int a4)]) hx hb dL_act_144 hl (by decide) rfl (fun ls hl => ?_)
                              refine lv_iconst (v := (-1)) hx hb dL_act_146 (by decide) ?_
                              cases hf
                              exact g_iret S M hr hlk (by omega) (by omega) dL_act_147 rfl
                            · have hf := it_n hc hf
                              by_cases hc : n58 = 1
                              · have hf := it_p hc hf
                                subst hc
                                refine vx_catch (E := "java/lang/IllegalArgumentException") (name := "java/lang/IllegalArgumentException") S.2.2.2.1 (tableOf (tb_L_act.take 23)) ⟨137, 143, 148, 83⟩ (tableOf (tb_L_act.drop 24)) (htab.trans rfl) (l_pass tb_L_act 23 140 [(81, "java/lang/IndexOutOfBoundsException")] (gp_c ⟨by decide, S.2.2.2.2 _ tw_5_154, C0.2.2.2.1.1 ("java/lang/IllegalArgumentException", "java/lang/IndexOutOfBoundsException") (by decide +kernel)⟩ gp_n) (by decide +kernel)) rfl (by decide) (S.2.2.2.2 _ tw_5_175) (va_any rfl (C0.2.1 _ (by decide +kernel))) hq hv hcl ?_
                                refine lv_astore (lv' := [(5, .ref q), (0, .ref (G.1 0)), (1, .int a1), (2, .int a2), (3, .int a3), (4, .int a4)]) hx hb dL_act_148 hl (by decide) rfl (fun ls hl => ?_)
                                refine lv_bipush (v := (-2)) hx hb dL_act_150 (by decide) ?_
                                cases hf
                                exact g_iret S M hr hlk (by omega) (by omega) dL_act_152 rfl
                              · have hf := it_n hc hf
                                by_cases hc : n58 = 2
                                · have hf := it_p hc hf
                                  subst hc
                                  refine vx_catch (E := "java/lang/IllegalStateException") (name := "java/lang/IllegalStateException") S.2.2.2.1 (tableOf (tb_L_act.take 35)) ⟨137, 143, 153, 85⟩ (tableOf (tb_L_act.drop 36)) (htab.trans rfl) (l_pass tb_L_act 35 140 [(81, "java/lang/IndexOutOfBoundsException"), (83, "java/lang/IllegalArgumentException")] (gp_c ⟨by decide, S.2.2.2.2 _ tw_5_154, C0.2.2.2.1.1 ("java/lang/IllegalStateException", "java/lang/IndexOutOfBoundsException") (by decide +kernel)⟩ (gp_c ⟨by decide, S.2.2.2.2 _ tw_5_175, C0.2.2.2.1.1 ("java/lang/IllegalStateException", "java/lang/IllegalArgumentException") (by decide +kernel)⟩ gp_n)) (by decide +kernel)) rfl (by decide) (S.2.2.2.2 _ tw_5_176) (va_any rfl (C0.2.1 _ (by decide +kernel))) hq hv hcl ?_
                                  refine lv_astore (lv' := [(5, .ref q), (0, .ref (G.1 0)), (1, .int a1), (2, .int a2), (3, .int a3), (4, .int a4)]) hx hb dL_act_153 hl (by decide) rfl (fun ls hl => ?_)
                                  refine lv_bipush (v := (-3)) hx hb dL_act_155 (by decide) ?_
                                  cases hf
                                  exact g_iret S M hr hlk (by omega) (by omega) dL_act_157 rfl
                                · have hf := it_n hc hf
                                  by_cases hc : n58 = 3
                                  · have hf := it_p hc hf
                                    subst hc
                                    refine vx_catch (E := "java/lang/UnsupportedOperationException") (name := "java/lang/UnsupportedOperationException") S.2.2.2.1 (tableOf (tb_L_act.take 47)) ⟨137, 143, 158, 87⟩ (tableOf (tb_L_act.drop 48)) (htab.trans rfl) (l_pass tb_L_act 47 140 [(81, "java/lang/IndexOutOfBoundsException"), (83, "java/lang/IllegalArgumentException"), (85, "java/lang/IllegalStateException")] (gp_c ⟨by decide, S.2.2.2.2 _ tw_5_154, C0.2.2.2.1.1 ("java/lang/UnsupportedOperationException", "java/lang/IndexOutOfBoundsException") (by decide +kernel)⟩ (gp_c ⟨by decide, S.2.2.2.2 _ tw_5_175, C0.2.2.2.1.1 ("java/lang/UnsupportedOperationException", "java/lang/IllegalArgumentException") (by decide +kernel)⟩ (gp_c ⟨by decide, S.2.2.2.2 _ tw_5_176, C0.2.2.2.1.1 ("java/lang/UnsupportedOperationException", "java/lang/IllegalStateException") (by decide +kernel)⟩ gp_n))) (by decide +kernel)) rfl (by decide) (S.2.2.2.2 _ tw_5_177) (va_any rfl (C0.2.1 _ (by decide +kernel))) hq hv hcl ?_
                                    refine lv_astore (lv' := [(5, .ref q), (0, .ref (G.1 0)), (1, .int a1), (2, .int a2), (3, .int a3), (4, .int a4)]) hx hb dL_act_158 hl (by decide) rfl (fun ls hl => ?_)
                                    refine lv_bipush (v := (-4)) hx hb dL_act_160 (by decide) ?_
                                    cases hf
                                    exact g_iret S M hr hlk (by omega) (by omega) dL_act_162 rfl
                                  · have hf := it_n hc hf
                                    by_cases hc : n58 = 4
                                    · have hf := it_p hc hf
                                      subst hc
                                      refine vx_catch (E := "java/util/NoSuchElementException") (name := "java/util/NoSuchElementException") S.2.2.2.1 (tableOf (tb_L_act.take 59)) ⟨137, 143, 163, 89⟩ (tableOf (tb_L_act.drop 60)) (htab.trans rfl) (l_pass tb_L_act 59 140 [(81, "java/lang/IndexOutOfBoundsException"), (83, "java/lang/IllegalArgumentException"), (85, "java/lang/IllegalStateException"), (87, "java/lang/UnsupportedOperationException")] (gp_c ⟨by decide, S.2.2.2.2 _ tw_5_154, C0.2.2.2.1.1 ("java/util/NoSuchElementException", "java/lang/IndexOutOfBoundsException") (by decide +kernel)⟩ (gp_c ⟨by decide, S.2.2.2.2 _ tw_5_175, C0.2.2.2.1.1 ("java/util/NoSuchElementException", "java/lang/IllegalArgumentException") (by decide +kernel)⟩ (gp_c ⟨by decide, S.2.2.2.2 _ tw_5_176, C0.2.2.2.1.1 ("java/util/NoSuchElementException", "java/lang/IllegalStateException") (by decide +kernel)⟩ (gp_c ⟨by decide, S.2.2.2.2 _ tw_5_177, C0.2.2.2.1.1 ("java/util/NoSuchElementException", "java/lang/UnsupportedOperationException") (by decide +kernel)⟩ gp_n)))) (by decide +kernel)) rfl (by decide) (S.2.2.2.2 _ tw_5_178) (va_any rfl (C0.2.1 _ (by decide +kernel))) hq hv hcl ?_
                                      refine lv_astore (lv' := [(5, .ref q), (0, .ref (G.1 0)), (1, .int a1), (2, .int a2), (3, .int a3), (4, .int a4)]) hx hb dL_act_163 hl (by decide) rfl (fun ls hl => ?_)
                                      refine lv_bipush (v := (-5)) hx hb dL_act_165 (by decide) ?_
                                      cases hf
                                      exact g_iret S M hr hlk (by omega) (by omega) dL_act_167 rfl
                                    · have hf := it_n hc hf
                                      cases hf
theorem k_L_build : gMV yL_build cL_build 6 (some (.object "ParcelDepot")) 1 := ⟨tw_5_150, tw_1_0, by decide⟩
set_option maxHeartbeats 1000000 in
set_option maxRecDepth 100000 in
theorem w_L_build_L16 {p : Program} {l : Launch} {e : Env} {R : Room} {s : State} {m : MethodId} {args : Array Value} {below : List Frame} {meth : Method} {c : Code} {Q : State → Prop} {G : gT} {lo : Int64} {dd : UInt64} {C1 S1 : Nat} (S : CallFix p m c cL_build 6 s args gTs RL) (C0 : gCST G (gAA G s.heap.size) s) (hfl : l.stackTraces = false) (p2 : Int32) (hRf : 11 ≤ R.frames) (hRl : 193 ≤ R.locals) (hRc : C1 ≤ R.cells) (hRs : S1 ≤ R.slots) : ∀ (n : Nat) (v3 : Int32) (σ : gM) (res : gM), f_L_build_L16 (gtX G 3) (gtI G) p2 n v3 σ = some res → ∀ (H : Heap) (locs : List Loc) (ls : Array Slot) (cells slots : Nat), gMS G (gAA G s.heap.size) lo dd σ s H locs → lv_has ls 6 [(0, .ref (gtX G 2)), (1, .ref (G.1 0)), (2, .int p2), (3, .int v3)] → cells + n * 3 ≤ C1 → slots + n * 18 ≤ S1 → (∀ (τ : gM), res = τ → ∀ (H : Heap) (locs : List Loc) (ls : Array Slot), gMS G (gAA G s.heap.size) lo dd τ s H locs → lv_has ls 6 [(0, .ref (gtX G 2)), (1, .ref (G.1 0)), (2, .int p2)] → W p l e R s m args below meth c H locs C1 S1 Q (F0 m 53 ls [])) → W p l e R s m args below meth c H locs cells slots Q (F0 m 16 ls []) := by
  have hx := S.1
  have hb := S.2.1
  intro n
  induction n with
  | zero =>
    intro v3 σ res hf
    cases hf
  | succ n ih =>
    intro v3 σ res hf H locs ls cells slots M hl hcB hsB kx
    rw [f_L_build_L16] at hf
    refine lv_iload_n hx hb dL_build_16 rfl (lv_at hl 3 rfl) ?_
    refine lv_iconst (v := 5) hx hb dL_build_17 (by decide) ?_
    refine lv_icmp_ge (tgt := 53) hx hb dL_build_18 (by decide) (fun c3 => ?_) (fun c3 => ?_)
    · have hf := it_p c3 hf
      cases hf
      refine W.widen (k := C1) (n := S1) (by omega) (by omega) ?_
      exact kx _ rfl _ _ _ M (lv_sub hl [0, 1, 2] rfl)
    · have hf := it_n c3 hf
      refine lv_aload_n hx hb dL_build_21 rfl (lv_at hl 1 rfl) ?_
      refine lv_iconst (v := 0) hx hb dL_build_22 (by decide) ?_
      refine lv_iload_n hx hb dL_build_23 rfl (lv_at hl 2 rfl) ?_
      refine lv_iconst (v := 2) hx hb dL_build_24 (by decide) ?_
      refine lv_iload_n hx hb dL_build_25 rfl (lv_at hl 3 rfl) ?_
      refine lv_imul hx hb dL_build_26 ?_
      refine lv_ishr hx hb dL_build_27 ?_
      refine lv_iconst (v := 3) hx hb dL_build_28 (by decide) ?_
      refine lv_iand hx hb dL_build_29 ?_
      refine lv_iload_n hx hb dL_build_30 rfl (lv_at hl 3 rfl) ?_
      obtain ⟨z4, hf⟩ := gz_x hf
      refine lv_irem hx hb dL_build_31 z4 ?_
      obtain ⟨x5, ex5, hf⟩ := nm_x hf
      refine g_topi ex5 ?_
      refine lv_iload_n hx hb dL_build_32 rfl (lv_at hl 3 rfl) ?_
      refine lv_iconst (v := 1) hx hb dL_build_33 (by decide) ?_
      refine lv_iload_n hx hb dL_build_34 rfl (lv_at hl 2 rfl) ?_
      refine lv_iconst (v := 3) hx hb dL_build_35 (by decide) ?_
      refine lv_iload_n hx hb dL_build_36 rfl (lv_at hl 3 rfl) ?_
      refine lv_imul hx hb dL_build_37 ?_
      refine lv_ishr hx hb dL_build_38 ?_
      refine lv_bipush (v := 15) hx hb dL_build_39 (by decide) ?_
      refine lv_iand hx hb dL_build_41 ?_
      refine lv_iadd hx hb dL_build_42 ?_
      obtain ⟨r7, σ8, h6, hf⟩ := bd2_x hf
      refine g_callR (st1 := [.int r7]) (cells' := cells + 3) (slots' := slots + 18) M (g_invW (index := 30) S M C0 hl (c_L_act l hfl G H.size lo dd σ 0 x5 v3 (1 + ((p2 >>> ((3 * v3) &&& 31)) &&& 15)) h6) k_L_act tw_5_152 tw_5_151 rfl rfl rfl (gRm_m2 (by first | decide | exact Nat.le_trans (Nat.le_of_ble_eq_true rfl) hRf) (by first | decide | exact Nat.le_trans (Nat.le_of_ble_eq_true rfl) hRl) (by first | (dsimp only; omega) | (dsimp only [gRs]; omega) | omega) (by first | (dsimp only; omega) | (dsimp only [gRs]; omega) | omega)) dL_build_43) rfl rfl rfl (fun H locs M => ?_)
      refine lv_pop hx hb dL_build_46 rfl ?_
      obtain ⟨x9, ex9, hf⟩ := nm_x hf
      refine lv_iinc (v := x9) (lv' := [(3, .int x9), (0, .ref (gtX G 2)), (1, .ref (G.1 0)), (2, .int p2)]) hx hb dL_build_47 hl (k := 3) rfl (by rw [ex9]; rfl) (by decide) rfl (fun ls hl => ?_)
      refine lv_goto (tgt := 16) hx hb dL_build_50 (by decide) ?_
      exact ih _ _ _ hf _ _ _ _ _ M (lv_sub hl [1, 2, 3, 0] rfl) (by omega) (by omega) kx
set_option maxHeartbeats 1000000 in
set_option maxRecDepth 100000 in
theorem w_L_build_L55 {p : Program} {l : Launch} {e : Env} {R : Room} {s : State} {m : MethodId} {args : Array Value} {below : List Frame} {meth : Method} {c : Code} {Q : State → Prop} {G : gT} {lo : Int64} {dd : UInt64} {C1 S1 : Nat} (S : CallFix p m c cL_build 6 s args gTs RL) (C0 : gCST G (gAA G s.heap.size) s) (hfl : l.stackTraces = false) (p2 : Int32) (hRf : 11 ≤ R.frames) (hRl : 193 ≤ R.locals) (hRc : C1 ≤ R.cells) (hRs : S1 ≤ R.slots) : ∀ (n : Nat) (v3 : Int32) (σ : gM) (res : gM), f_L_build_L55 (gtX G 3) (gtI G) p2 n v3 σ = some res → ∀ (H : Heap) (locs : List Loc) (ls : Array Slot) (cells slots : Nat), gMS G (gAA G s.heap.size) lo dd σ s H locs → lv_has ls 6 [(0, .ref (gtX G 2)), (1, .ref (G.1 0)), (2, .int p2), (3, .int v3)] → cells + n * 3 ≤ C1 → slots + n * 18 ≤ S1 → (∀ (τ : gM), res = τ → ∀ (H : Heap) (locs : List Loc) (ls : Array Slot), gMS G (gAA G s.heap.size) lo dd τ s H locs → lv_has ls 6 [(0, .ref (gtX G 2)), (1, .ref (G.1 0))] → W p l e R s m args below meth c H locs C1 S1 Q (F0 m 88 ls [])) → W p l e R s m args below meth c H locs cells slots Q (F0 m 55 ls []) := by
  have hx := S.1
  have hb := S.2.1
  intro n
  induction n with
  | zero =>
    intro v3 σ res hf
    cases hf
  | succ n ih =>
    intro v3 σ res hf H locs ls cells slots M hl hcB hsB kx
    rw [f_L_build_L55] at hf
    refine lv_iload_n hx hb dL_build_55 rfl (lv_at hl 3 rfl) ?_
    refine lv_iconst (v := 2) hx hb dL_build_56 (by decide) ?_
    refine lv_icmp_ge (tgt := 88) hx hb dL_build_57 (by decide) (fun c12 => ?_) (fun c12 => ?_)
    · have hf := it_p c12 hf
      cases hf
      refine W.widen (k := C1) (n := S1) (by omega) (by omega) ?_
      exact kx _ rfl _ _ _ M (lv_sub hl [0, 1] rfl)
    · have hf := it_n c12 hf
      refine lv_aload_n hx hb dL_build_60 rfl (lv_at hl 1 rfl) ?_
      refine lv_iconst (v := 2) hx hb dL_build_61 (by decide) ?_
      refine lv_iconst (v := 1) hx hb dL_build_62 (by decide) ?_
      refine lv_iload_n hx hb dL_build_63 rfl (lv_at hl 2 rfl) ?_
      refine lv_bipush (v := 16) hx hb dL_build_64 (by decide) ?_
      refine lv_iconst (v := 2) hx hb dL_build_66 (by decide) ?_
      refine lv_iload_n hx hb dL_build_67 rfl (lv_at hl 3 rfl) ?_
      refine lv_imul hx hb dL_build_68 ?_
      refine lv_iadd hx hb dL_build_69 ?_
      refine lv_ishr hx hb dL_build_70 ?_
      refine lv_iconst (v := 3) hx hb dL_build_71 (by decide) ?_
      refine lv_iand hx hb dL_build_72 ?_
      refine lv_iconst (v := 3) hx hb dL_build_73 (by decide) ?_
      refine lv_irem hx hb dL_build_74 (by decide) ?_
      obtain ⟨x13, ex13, hf⟩ := nm_x hf
      refine g_topi ex13 ?_
      refine lv_iadd hx hb dL_build_75 ?_
      refine lv_iconst (v := 0) hx hb dL_build_76 (by decide) ?_
      refine lv_iconst (v := 0) hx hb dL_build_77 (by decide) ?_
      obtain ⟨r15, σ16, h14, hf⟩ := bd2_x hf
      refine g_callR (st1 := [.int r15]) (cells' := cells + 3) (slots' := slots + 18) M (g_invW (index := 30) S M C0 hl (c_L_act l hfl G H.size lo dd σ 2 (1 + x13) 0 0 h14) k_L_act tw_5_152 tw_5_151 rfl rfl rfl (gRm_m2 (by first | decide | exact Nat.le_trans (Nat.le_of_ble_eq_true rfl) hRf) (by first | decide | exact Nat.le_trans (Nat.le_of_ble_eq_true rfl) hRl) (by first | (dsimp only; omega) | (dsimp only [gRs]; omega) | omega) (by first | (dsimp only; omega) | (dsimp only [gRs]; omega) | omega)) dL_build_78) rfl rfl rfl (fun H locs M => ?_)
      refine lv_pop hx hb dL_build_81 rfl ?_
      obtain ⟨x17, ex17, hf⟩ := nm_x hf
      refine lv_iinc (v := x17) (lv' := [(3, .int x17), (0, .ref (gtX G 2)), (1, .ref (G.1 0)), (2, .int p2)]) hx hb dL_build_82 hl (k := 3) rfl (by rw [ex17]; rfl) (by decide) rfl (fun ls hl => ?_)
      refine lv_goto (tgt := 55) hx hb dL_build_85 (by decide) ?_
      exact ih _ _ _ hf _ _ _ _ _ M (lv_sub hl [1, 2, 3, 0] rfl) (by omega) (by omega) kx
set_option maxHeartbeats 1000000 in
set_option maxRecDepth 100000 in
theorem w_L_build_L90 {p : Program} {l : Launch} {e : Env} {R : Room} {s : State} {m : MethodId} {args : Array Value} {below : List Frame} {meth : Method} {c : Code} {Q : State → Prop} {G : gT} {lo : Int64} {dd : UInt64} {C1 S1 : Nat} (S : CallFix p m c cL_build 6 s args gTs RL) (C0 : gCST G (gAA G s.heap.size) s) (hfl : l.stackTraces = false) (hRf : 11 ≤ R.frames) (hRl : 193 ≤ R.locals) (hRc : C1 ≤ R.cells) (hRs : S1 ≤ R.slots) : ∀ (n : Nat) (v3 : Int32) (σ : gM) (res : gM), f_L_build_L90 (gtX G 3) (gtI G) n v3 σ = some res → ∀ (H : Heap) (locs : List Loc) (ls : Array Slot) (cells slots : Nat), gMS G (gAA G s.heap.size) lo dd σ s H locs → lv_has ls 6 [(0, .ref (gtX G 2)), (1, .ref (G.1 0)), (3, .int v3)] → cells + n * 27 ≤ C1 → slots + n * 162 ≤ S1 → (∀ (τ : gM), res = τ → ∀ (H : Heap) (locs : List Loc) (ls : Array Slot), gMS G (gAA G s.heap.size) lo dd τ s H locs → lv_has ls 6 [(1, .ref (G.1 0))] → W p l e R s m args below meth c H locs C1 S1 Q (F0 m 430 ls [])) → W p l e R s m args below meth c H locs cells slots Q (F0 m 90 ls []) := by
  have hx := S.1
  have hb := S.2.1
  intro n
  induction n with
  | zero =>
    intro v3 σ res hf
    cases hf
  | succ n ih =>
    intro v3 σ res hf H locs ls cells slots M hl hcB hsB kx
    rw [f_L_build_L90] at hf
    refine lv_iload_n hx hb dL_build_90 rfl (lv_at hl 2 rfl) ?_
    refine lv_bipush (v := 13) hx hb dL_build_91 (by decide) ?_
    refine lv_icmp_ge (tgt := 430) hx hb dL_build_93 (by decide) (fun c20 => ?_) (fun c20 => ?_)
    · have hf := it_p c20 hf
      cases hf
      refine W.widen (k := C1) (n := S1) (by omega) (by omega) ?_
      exact kx _ rfl _ _ _ M (lv_sub hl [1] rfl)
    · have hf := it_n c20 hf
      refine lv_aload_n hx hb dL_build_96 rfl (lv_at hl 0 rfl) ?_
      refine lv_iload_n hx hb dL_build_97 rfl (lv_at hl 2 rfl) ?_
      obtain ⟨r22, h21, hf⟩ := bd_x hf
      refine g_callR (st1 := [.int r22]) (cells' := cells + 0) (slots' := slots + 0) M (g_invS (index := 24) S M C0 hl (c_L_at l hfl G H.size lo dd σ v3 h21) k_L_at tw_5_129 tw_5_128 rfl rfl rfl (gRm_m2 (by first | decide | exact Nat.le_trans (Nat.le_of_ble_eq_true rfl) hRf) (by first | decide | exact Nat.le_trans (Nat.le_of_ble_eq_true rfl) hRl) (by first | (dsimp only; omega) | (dsimp only [gRs]; omega) | omega) (by first | (dsimp only; omega) | (dsimp only [gRs]; omega) | omega)) dL_build_98) rfl rfl rfl (fun H locs M => ?_)
      refine lv_istore (lv' := [(4, .int r22), (0, .ref (gtX G 2)), (1, .ref (G.1 0)), (3, .int v3)]) hx hb dL_build_101 hl (by decide) rfl (fun ls hl => ?_)
      refine lv_iconst (v := 1) hx hb dL_build_103 (by decide) ?_
      refine lv_aload_n hx hb dL_build_104 rfl (lv_at hl 2 rfl) ?_
      obtain ⟨r24, h23, hf⟩ := bd_x hf
      refine g_callR (st1 := [.int r24, .int 1]) (cells' := cells + 0) (slots' := slots + 0) M (g_invV (index := 34) S M C0 hl (c_X12_parcelCount l G H.size lo dd σ  h23) k_X12_parcelCount tw_5_188 tw_5_189 tw_5_187 (by decide) (ge_0 rfl) rfl rfl rfl rfl rfl (gRm_m2 (by first | decide | exact Nat.le_trans (Nat.le_of_ble_eq_true rfl) hRf) (by first | decide | exact Nat.le_trans (Nat.le_of_ble_eq_true rfl) hRl) (by first | (dsimp only; omega) | (dsimp only [gRs]; omega) | omega) (by first | (dsimp only; omega) | (dsimp only [gRs]; omega) | omega)) dL_build_105) rfl rfl rfl (fun H locs M => ?_)
      refine va_mmax hx hb (S.2.2.1.trans hl.1.symm) S.2.2.2.1 (S.2.2.2.2 _ tw_5_191) (S.2.2.2.2 _ tw_4_39) (S.2.2.2.2 _ tw_1_23) (S.2.2.2.2 _ tw_4_40) (by omega) (Nat.le_trans (show _ ≤ 193 from Nat.le_of_ble_eq_true rfl) hRl) (by omega) (by omega) dL_build_108 ?_
      obtain ⟨x25, ex25, hf⟩ := nm_x hf
      refine g_topi ex25 ?_
      refine lv_istore (lv' := [(5, .int x25), (4, .int r22), (0, .ref (gtX G 2)), (1, .ref (G.1 0)), (3, .int v3)]) hx hb dL_build_111 hl (by decide) rfl (fun ls hl => ?_)
      refine lv_aload_n hx hb dL_build_113 rfl (lv_at hl 3 rfl) ?_
      refine lv_iconst (v := 1) hx hb dL_build_114 (by decide) ?_
      refine lv_iconst (v := 1) hx hb dL_build_115 (by decide) ?_
      refine lv_iload hx hb dL_build_116 (lv_at hl 1 rfl) ?_
      refine lv_bipush (v := 15) hx hb dL_build_118 (by decide) ?_
      refine lv_iand hx hb dL_build_120 ?_
      refine lv_iadd hx hb dL_build_121 ?_
      refine lv_iload hx hb dL_build_122 (lv_at hl 1 rfl) ?_
      refine lv_iconst (v := 4) hx hb dL_build_124 (by decide) ?_
      refine lv_ishr hx hb dL_build_125 ?_
      refine lv_iconst (v := 3) hx hb dL_build_126 (by decide) ?_
      refine lv_iand hx hb dL_build_127 ?_
      refine lv_iload hx hb dL_build_128 (lv_at hl 1 rfl) ?_
      refine lv_bipush (v := 6) hx hb dL_build_130 (by decide) ?_
      refine lv_ishr hx hb dL_build_132 ?_
      refine lv_bipush (v := 7) hx hb dL_build_133 (by decide) ?_
      refine lv_iand hx hb dL_build_135 ?_
      refine lv_bipush (v := 6) hx hb dL_build_136 (by decide) ?_
      refine lv_irem hx hb dL_build_138 (by decide) ?_
      obtain ⟨x26, ex26, hf⟩ := nm_x hf
      refine g_topi ex26 ?_
      obtain ⟨r28, σ29, h27, hf⟩ := bd2_x hf
      refine g_callR (st1 := [.int r28]) (cells' := cells + 3) (slots' := slots + 18) M (g_invW (index := 30) S M C0 hl (c_L_act l hfl G H.size lo dd σ 1 (1 + (r22 &&& 15)) ((r22 >>> ((4 : Int32) &&& 31)) &&& 3) x26 h27) k_L_act tw_5_152 tw_5_151 rfl rfl rfl (gRm_m2 (by first | decide | exact Nat.le_trans (Nat.le_of_ble_eq_true rfl) hRf) (by first | decide | exact Nat.le_trans (Nat.le_of_ble_eq_true rfl) hRl) (by first | (dsimp only; omega) | (dsimp only [gRs]; omega) | omega) (by first | (dsimp only; omega) | (dsimp only [gRs]; omega) | omega)) dL_build_139) rfl rfl rfl (fun H locs M => ?_)
      refine lv_pop hx hb dL_build_142 rfl ?_
      refine lv_iload hx hb dL_build_143 (lv_at hl 1 rfl) ?_
      refine lv_bipush (v := 9) hx hb dL_build_145 (by decide) ?_
      refine lv_ishr hx hb dL_build_147 ?_
      refine lv_iconst (v := 1) hx hb dL_build_148 (by decide) ?_
      refine lv_iand hx hb dL_build_149 ?_
      obtain ⟨σ32, hj33, hf⟩ := bd_x hf
      refine l_join (J := 180) (st := []) (CJ := cells + 6) (SJ := slots + 36) (P := fun H locs ls => gMS G (gAA G s.heap.size) lo dd σ32 s H locs ∧ lv_has ls 6 [(5, .int x25), (4, .int r22), (0, .ref (gtX G 2)), (1, .ref (G.1 0)), (3, .int v3)]) (fun H locs ls hPJ => ?_) (fun kJ => ?_)
      · obtain ⟨M, hl⟩ := hPJ
        refine lv_aload_n hx hb dL_build_180 rfl (lv_at hl 3 rfl) ?_
        refine lv_iconst (v := 4) hx hb dL_build_181 (by decide) ?_
        refine lv_aload_n hx hb dL_build_182 rfl (lv_at hl 3 rfl) ?_
        obtain ⟨r41, h40, hf⟩ := bd_x hf
        refine g_callR (st1 := [.int r41, .int 4, .ref (G.1 0)]) (cells' := cells + 6) (slots' := slots + 36) M (g_invV (index := 34) S M C0 hl (c_X12_parcelCount l G H.size lo dd σ32  h40) k_X12_parcelCount tw_5_188 tw_5_189 tw_5_187 (by decide) (ge_0 rfl) rfl rfl rfl rfl rfl (gRm_m2 (by first | decide | exact Nat.le_trans (Nat.le_of_ble_eq_true rfl) hRf) (by first | decide | exact Nat.le_trans (Nat.le_of_ble_eq_true rfl) hRl) (by first | (dsimp only; omega) | (dsimp only [gRs]; omega) | omega) (by first | (dsimp only; omega) | (dsimp only [gRs]; omega) | omega)) dL_build_183) rfl rfl rfl (fun H locs M => ?_)
        refine lv_iconst (v := 1) hx hb dL_build_186 (by decide) ?_
        refine lv_isub hx hb dL_build_187 ?_
        refine lv_iload hx hb dL_build_188 (lv_at hl 1 rfl) ?_
        refine lv_bipush (v := 16) hx hb dL_build_190 (by decide) ?_
        refine lv_ishr hx hb dL_build_192 ?_
        refine lv_iconst (v := 3) hx hb dL_build_193 (by decide) ?_
        refine lv_iand hx hb dL_build_194 ?_
        refine lv_iconst (v := 3) hx hb dL_build_195 (by decide) ?_
        refine lv_irem hx hb dL_build_196 (by decide) ?_
        obtain ⟨x42, ex42, hf⟩ := nm_x hf
        refine g_topi ex42 ?_
        refine lv_iconst (v := 0) hx hb dL_build_197 (by decide) ?_
        obtain ⟨r44, σ45, h43, hf⟩ := bd2_x hf
        refine g_callR (st1 := [.int r44]) (cells' := cells + 9) (slots' := slots + 54) M (g_invW (index := 30) S M C0 hl (c_L_act l hfl G H.size lo dd σ32 4 (r41 - 1) x42 0 h43) k_L_act tw_5_152 tw_5_151 rfl rfl rfl (gRm_m2 (by first | decide | exact Nat.le_trans (Nat.le_of_ble_eq_true rfl) hRf) (by first | decide | exact Nat.le_trans (Nat.le_of_ble_eq_true rfl) hRl) (by first | (dsimp only; omega) | (dsimp only [gRs]; omega) | omega) (by first | (dsimp only; omega) | (dsimp only [gRs]; omega) | omega)) dL_build_198) rfl rfl rfl (fun H locs M => ?_)
        refine lv_pop hx hb dL_build_201 rfl ?_
        refine lv_iload hx hb dL_build_202 (lv_at hl 1 rfl) ?_
        refine lv_bipush (v := 18) hx hb dL_build_204 (by decide) ?_
        refine lv_ishr hx hb dL_build_206 ?_
        refine lv_iconst (v := 3) hx hb dL_build_207 (by decide) ?_
        refine lv_iand hx hb dL_build_208 ?_
        obtain ⟨σ48, hj49, hf⟩ := bd_x hf
        refine l_join (J := 240) (st := []) (CJ := cells + 12) (SJ := slots + 72) (P := fun H locs ls => gMS G (gAA G s.heap.size) lo dd σ48 s H locs ∧ lv_has ls 6 [(5, .int x25), (4, .int r22), (0, .ref (gtX G 2)), (1, .ref (G.1 0)), (3, .int v3)]) (fun H locs ls hPJ => ?_) (fun kJ => ?_)
        · obtain ⟨M, hl⟩ := hPJ
          refine lv_iload hx hb dL_build_240 (lv_at hl 1 rfl) ?_
          refine lv_bipush (v := 18) hx hb dL_build_242 (by decide) ?_
          refine lv_ishr hx hb dL_build_244 ?_
          refine lv_iconst (v := 3) hx hb dL_build_245 (by decide) ?_
          refine lv_iand hx hb dL_build_246 ?_
          refine lv_iconst (v := 1) hx hb dL_build_247 (by decide) ?_
          obtain ⟨σ57, hj58, hf⟩ := bd_x hf
          refine l_join (J := 270) (st := []) (CJ := cells + 15) (SJ := slots + 90) (P := fun H locs ls => gMS G (gAA G s.heap.size) lo dd σ57 s H locs ∧ lv_has ls 6 [(5, .int x25), (4, .int r22), (0, .ref (gtX G 2)), (1, .ref (G.1 0)), (3, .int v3)]) (fun H locs ls hPJ => ?_) (fun kJ => ?_)
          · obtain ⟨M, hl⟩ := hPJ
            refine lv_iload hx hb dL_build_270 (lv_at hl 1 rfl) ?_
            refine lv_bipush (v := 18) hx hb dL_build_272 (by decide) ?_
            refine lv_ishr hx hb dL_build_274 ?_
            refine lv_bipush (v := 7) hx hb dL_build_275 (by decide) ?_
            refine lv_iand hx hb dL_build_277 ?_
            refine lv_iconst (v := 2) hx hb dL_build_278 (by decide) ?_
            obtain ⟨σ65, hj66, hf⟩ := bd_x hf
            refine l_join (J := 301) (st := []) (CJ := cells + 18) (SJ := slots + 108) (P := fun H locs ls => gMS G (gAA G s.heap.size) lo dd σ65 s H locs ∧ lv_has ls 6 [(5, .int x25), (4, .int r22), (0, .ref (gtX G 2)), (1, .ref (G.1 0)), (3, .int v3)]) (fun H locs ls hPJ => ?_) (fun kJ => ?_)
            · obtain ⟨M, hl⟩ := hPJ
              refine lv_iload hx hb dL_build_301 (lv_at hl 1 rfl) ?_
              refine lv_bipush (v := 18) hx hb dL_build_303 (by decide) ?_
              refine lv_ishr hx hb dL_build_305 ?_
              refine lv_bipush (v := 7) hx hb dL_build_306 (by decide) ?_
              refine lv_iand hx hb dL_build_308 ?_
              refine lv_bipush (v := 6) hx hb dL_build_309 (by decide) ?_
              obtain ⟨σ74, hj75, hf⟩ := bd_x hf
              refine l_join (J := 334) (st := []) (CJ := cells + 21) (SJ := slots + 126) (P := fun H locs ls => gMS G (gAA G s.heap.size) lo dd σ74 s H locs ∧ lv_has ls 6 [(5, .int x25), (4, .int r22), (0, .ref (gtX G 2)), (1, .ref (G.1 0)), (3, .int v3)]) (fun H locs ls hPJ => ?_) (fun kJ => ?_)
              · obtain ⟨M, hl⟩ := hPJ
                refine lv_iload hx hb dL_build_334 (lv_at hl 1 rfl) ?_
                refine lv_bipush (v := 18) hx hb dL_build_336 (by decide) ?_
                refine lv_ishr hx hb dL_build_338 ?_
                refine lv_bipush (v := 7) hx hb dL_build_339 (by decide) ?_
                refine lv_iand hx hb dL_build_341 ?_
                refine lv_iconst (v := 3) hx hb dL_build_342 (by decide) ?_
                obtain ⟨σ83, hj84, hf⟩ := bd_x hf
                refine l_join (J := 373) (st := []) (CJ := cells + 24) (SJ := slots + 144) (P := fun H locs ls => gMS G (gAA G s.heap.size) lo dd σ83 s H locs ∧ lv_has ls 6 [(5, .int x25), (4, .int r22), (0, .ref (gtX G 2)), (1, .ref (G.1 0)), (3, .int v3)]) (fun H locs ls hPJ => ?_) (fun kJ => ?_)
                · obtain ⟨M, hl⟩ := hPJ
                  refine lv_iload hx hb dL_build_373 (lv_at hl 1 rfl) ?_
                  refine lv_bipush (v := 18) hx hb dL_build_375 (by decide) ?_
                  refine lv_ishr hx hb dL_build_377 ?_
                  refine lv_bipush (v := 7) hx hb dL_build_378 (by decide) ?_
                  refine lv_iand hx hb dL_build_380 ?_
                  refine lv_bipush (v := 7) hx hb dL_build_381 (by decide) ?_
                  obtain ⟨σ91, hj92, hf⟩ := bd_x hf
                  refine l_join (J := 424) (st := []) (CJ := cells + 27) (SJ := slots + 162) (P := fun H locs ls => gMS G (gAA G s.heap.size) lo dd σ91 s H locs ∧ lv_has ls 6 [(5, .int x25), (4, .int r22), (0, .ref (gtX G 2)), (1, .ref (G.1 0)), (3, .int v3)]) (fun H locs ls hPJ => ?_) (fun kJ => ?_)
                  · obtain ⟨M, hl⟩ := hPJ
                    obtain ⟨x98, ex98, hf⟩ := nm_x hf
                    refine lv_iinc (v := x98) (lv' := [(3, .int x98), (5, .int x25), (4, .int r22), (0, .ref (gtX G 2)), (1, .ref (G.1 0))]) hx hb dL_build_424 hl (k := 4) rfl (by rw [ex98]; rfl) (by decide) rfl (fun ls hl => ?_)
                    refine lv_goto (tgt := 90) hx hb dL_build_427 (by decide) ?_
                    exact ih _ _ _ hf _ _ _ _ _ M (lv_sub hl [3, 4, 0] rfl) (by omega) (by omega) kx
                  · clear hf
                    refine lv_icmp_ne (tgt := 424) hx hb dL_build_383 (by decide) (fun c89 => ?_) (fun c89 => ?_)
                    · have hf := it_n c89 hj92
                      cases hf
                      refine W.widen (k := cells + 27) (n := slots + 162) (by omega) (by omega) ?_
                      exact kJ _ _ _ ⟨M, hl⟩
                    · have hf := it_p c89 hj92
                      refine lv_aload_n hx hb dL_build_386 rfl (lv_at hl 3 rfl) ?_
                      refine lv_iconst (v := 0) hx hb dL_build_387 (by decide) ?_
                      refine lv_iload hx hb dL_build_388 (lv_at hl 1 rfl) ?_
                      refine lv_bipush (v := 21) hx hb dL_build_390 (by decide) ?_
                      refine lv_ishr hx hb dL_build_392 ?_
                      refine lv_bipush (v := 7) hx hb dL_build_393 (by decide) ?_
                      refine lv_iand hx hb dL_build_395 ?_
                      refine lv_bipush (v := 6) hx hb dL_build_396 (by decide) ?_
                      refine lv_irem hx hb dL_build_398 (by decide) ?_
                      obtain ⟨x93, ex93, hf⟩ := nm_x hf
                      refine g_topi ex93 ?_
                      refine lv_iload hx hb dL_build_399 (lv_at hl 1 rfl) ?_
                      refine lv_bipush (v := 24) hx hb dL_build_401 (by decide) ?_
                      refine lv_ishr hx hb dL_build_403 ?_
                      refine lv_bipush (v := 7) hx hb dL_build_404 (by decide) ?_
                      refine lv_iand hx hb dL_build_406 ?_
                      refine lv_bipush (v := 6) hx hb dL_build_407 (by decide) ?_
                      refine lv_irem hx hb dL_build_409 (by decide) ?_
                      obtain ⟨x94, ex94, hf⟩ := nm_x hf
                      refine g_topi ex94 ?_
                      refine lv_iconst (v := 1) hx hb dL_build_410 (by decide) ?_
                      refine lv_iload hx hb dL_build_411 (lv_at hl 1 rfl) ?_
                      refine lv_bipush (v := 27) hx hb dL_build_413 (by decide) ?_
                      refine lv_ishr hx hb dL_build_415 ?_
                      refine lv_bipush (v := 7) hx hb dL_build_416 (by decide) ?_
                      refine lv_iand hx hb dL_build_418 ?_
                      refine lv_iadd hx hb dL_build_419 ?_
                      obtain ⟨r96, σ97, h95, hf⟩ := bd2_x hf
                      refine g_callR (st1 := [.int r96]) (cells' := cells + 27) (slots' := slots + 162) M (g_invW (index := 30) S M C0 hl (c_L_act l hfl G H.size lo dd σ83 0 x93 x94 (1 + ((r22 >>> ((27 : Int32) &&& 31)) &&& 7)) h95) k_L_act tw_5_152 tw_5_151 rfl rfl rfl (gRm_m2 (by first | decide | exact Nat.le_trans (Nat.le_of_ble_eq_true rfl) hRf) (by first | decide | exact Nat.le_trans (Nat.le_of_ble_eq_true rfl) hRl) (by first | (dsimp only; omega) | (dsimp only [gRs]; omega) | omega) (by first | (dsimp only; omega) | (dsimp only [gRs]; omega) | omega)) dL_build_420) rfl rfl rfl (fun H locs M => ?_)
                      refine lv_pop hx hb dL_build_423 rfl ?_
                      cases hf
                      refine W.widen (k := cells + 27) (n := slots + 162) (by omega) (by omega) ?_
                      exact kJ _ _ _ ⟨M, hl⟩
                · clear hf
                  refine lv_icmp_ne (tgt := 373) hx hb dL_build_343 (by decide) (fun c81 => ?_) (fun c81 => ?_)
                  · have hf := it_n c81 hj84
                    cases hf
                    refine W.widen (k := cells + 24) (n := slots + 144) (by omega) (by omega) ?_
                    exact kJ _ _ _ ⟨M, hl⟩
                  · have hf := it_p c81 hj84
                    refine lv_aload_n hx hb dL_build_346 rfl (lv_at hl 3 rfl) ?_
                    refine lv_iconst (v := 3) hx hb dL_build_347 (by decide) ?_
                    refine lv_iload hx hb dL_build_348 (lv_at hl 1 rfl) ?_
                    refine lv_bipush (v := 21) hx hb dL_build_350 (by decide) ?_
                    refine lv_ishr hx hb dL_build_352 ?_
                    refine lv_iconst (v := 3) hx hb dL_build_353 (by decide) ?_
                    refine lv_iand hx hb dL_build_354 ?_
                    refine lv_iconst (v := 3) hx hb dL_build_355 (by decide) ?_
                    refine lv_irem hx hb dL_build_356 (by decide) ?_
                    obtain ⟨x85, ex85, hf⟩ := nm_x hf
                    refine g_topi ex85 ?_
                    refine lv_bipush (v := 20) hx hb dL_build_357 (by decide) ?_
                    refine lv_iload hx hb dL_build_359 (lv_at hl 1 rfl) ?_
                    refine lv_bipush (v := 23) hx hb dL_build_361 (by decide) ?_
                    refine lv_ishr hx hb dL_build_363 ?_
                    refine lv_bipush (v := 31) hx hb dL_build_364 (by decide) ?_
                    refine lv_iand hx hb dL_build_366 ?_
                    refine lv_iadd hx hb dL_build_367 ?_
                    refine lv_iconst (v := 0) hx hb dL_build_368 (by decide) ?_
                    obtain ⟨r87, σ88, h86, hf⟩ := bd2_x hf
                    refine g_callR (st1 := [.int r87]) (cells' := cells + 24) (slots' := slots + 144) M (g_invW (index := 30) S M C0 hl (c_L_act l hfl G H.size lo dd σ74 3 x85 (20 + ((r22 >>> ((23 : Int32) &&& 31)) &&& 31)) 0 h86) k_L_act tw_5_152 tw_5_151 rfl rfl rfl (gRm_m2 (by first | decide | exact Nat.le_trans (Nat.le_of_ble_eq_true rfl) hRf) (by first | decide | exact Nat.le_trans (Nat.le_of_ble_eq_true rfl) hRl) (by first | (dsimp only; omega) | (dsimp only [gRs]; omega) | omega) (by first | (dsimp only; omega) | (dsimp only [gRs]; omega) | omega)) dL_build_369) rfl rfl rfl (fun H locs M => ?_)
                    refine lv_pop hx hb dL_build_372 rfl ?_
                    cases hf
                    refine W.widen (k := cells + 24) (n := slots + 144) (by omega) (by omega) ?_
                    exact kJ _ _ _ ⟨M, hl⟩
              · clear hf
                refine lv_icmp_ne (tgt := 334) hx hb dL_build_311 (by decide) (fun c72 => ?_) (fun c72 => ?_)
                · have hf := it_n c72 hj75
                  cases hf
                  refine W.widen (k := cells + 21) (n := slots + 126) (by omega) (by omega) ?_
                  exact kJ _ _ _ ⟨M, hl⟩
                · have hf := it_p c72 hj75
                  refine lv_aload_n hx hb dL_build_314 rfl (lv_at hl 3 rfl) ?_
                  refine lv_bipush (v := 7) hx hb dL_build_315 (by decide) ?_
                  refine lv_iload hx hb dL_build_317 (lv_at hl 1 rfl) ?_
                  refine lv_bipush (v := 21) hx hb dL_build_319 (by decide) ?_
                  refine lv_ishr hx hb dL_build_321 ?_
                  refine lv_bipush (v := 15) hx hb dL_build_322 (by decide) ?_
                  refine lv_iand hx hb dL_build_324 ?_
                  refine lv_iload hx hb dL_build_325 (lv_at hl 0 rfl) ?_
                  obtain ⟨z76, hf⟩ := gz_x hf
                  refine lv_irem hx hb dL_build_327 z76 ?_
                  obtain ⟨x77, ex77, hf⟩ := nm_x hf
                  refine g_topi ex77 ?_
                  refine lv_iconst (v := 0) hx hb dL_build_328 (by decide) ?_
                  refine lv_iconst (v := 0) hx hb dL_build_329 (by decide) ?_
                  obtain ⟨r79, σ80, h78, hf⟩ := bd2_x hf
                  refine g_callR (st1 := [.int r79]) (cells' := cells + 21) (slots' := slots + 126) M (g_invW (index := 30) S M C0 hl (c_L_act l hfl G H.size lo dd σ65 7 x77 0 0 h78) k_L_act tw_5_152 tw_5_151 rfl rfl rfl (gRm_m2 (by first | decide | exact Nat.le_trans (Nat.le_of_ble_eq_true rfl) hRf) (by first | decide | exact Nat.le_trans (Nat.le_of_ble_eq_true rfl) hRl) (by first | (dsimp only; omega) | (dsimp only [gRs]; omega) | omega) (by first | (dsimp only; omega) | (dsimp only [gRs]; omega) | omega)) dL_build_330) rfl rfl rfl (fun H locs M => ?_)
                  refine lv_pop hx hb dL_build_333 rfl ?_
                  cases hf
                  refine W.widen (k := cells + 21) (n := slots + 126) (by omega) (by omega) ?_
                  exact kJ _ _ _ ⟨M, hl⟩
            · clear hf
              refine lv_icmp_ne (tgt := 301) hx hb dL_build_279 (by decide) (fun c63 => ?_) (fun c63 => ?_)
              · have hf := it_n c63 hj66
                cases hf
                refine W.widen (k := cells + 18) (n := slots + 108) (by omega) (by omega) ?_
                exact kJ _ _ _ ⟨M, hl⟩
              · have hf := it_p c63 hj66
                refine lv_aload_n hx hb dL_build_282 rfl (lv_at hl 3 rfl) ?_
                refine lv_iconst (v := 5) hx hb dL_build_283 (by decide) ?_
                refine lv_iload hx hb dL_build_284 (lv_at hl 1 rfl) ?_
                refine lv_bipush (v := 21) hx hb dL_build_286 (by decide) ?_
                refine lv_ishr hx hb dL_build_288 ?_
                refine lv_bipush (v := 15) hx hb dL_build_289 (by decide) ?_
                refine lv_iand hx hb dL_build_291 ?_
                refine lv_iload hx hb dL_build_292 (lv_at hl 0 rfl) ?_
                obtain ⟨z67, hf⟩ := gz_x hf
                refine lv_irem hx hb dL_build_294 z67 ?_
                obtain ⟨x68, ex68, hf⟩ := nm_x hf
                refine g_topi ex68 ?_
                refine lv_iconst (v := 0) hx hb dL_build_295 (by decide) ?_
                refine lv_iconst (v := 0) hx hb dL_build_296 (by decide) ?_
                obtain ⟨r70, σ71, h69, hf⟩ := bd2_x hf
                refine g_callR (st1 := [.int r70]) (cells' := cells + 18) (slots' := slots + 108) M (g_invW (index := 30) S M C0 hl (c_L_act l hfl G H.size lo dd σ57 5 x68 0 0 h69) k_L_act tw_5_152 tw_5_151 rfl rfl rfl (gRm_m2 (by first | decide | exact Nat.le_trans (Nat.le_of_ble_eq_true rfl) hRf) (by first | decide | exact Nat.le_trans (Nat.le_of_ble_eq_true rfl) hRl) (by first | (dsimp only; omega) | (dsimp only [gRs]; omega) | omega) (by first | (dsimp only; omega) | (dsimp only [gRs]; omega) | omega)) dL_build_297) rfl rfl rfl (fun H locs M => ?_)
                refine lv_pop hx hb dL_build_300 rfl ?_
                cases hf
                refine W.widen (k := cells + 18) (n := slots + 108) (by omega) (by omega) ?_
                exact kJ _ _ _ ⟨M, hl⟩
          · clear hf
            refine lv_icmp_ne (tgt := 270) hx hb dL_build_248 (by decide) (fun c55 => ?_) (fun c55 => ?_)
            · have hf := it_n c55 hj58
              cases hf
              refine W.widen (k := cells + 15) (n := slots + 90) (by omega) (by omega) ?_
              exact kJ _ _ _ ⟨M, hl⟩
            · have hf := it_p c55 hj58
              refine lv_aload_n hx hb dL_build_251 rfl (lv_at hl 3 rfl) ?_
              refine lv_iconst (v := 2) hx hb dL_build_252 (by decide) ?_
              refine lv_iconst (v := 1) hx hb dL_build_253 (by decide) ?_
              refine lv_iload hx hb dL_build_254 (lv_at hl 1 rfl) ?_
              refine lv_bipush (v := 20) hx hb dL_build_256 (by decide) ?_
              refine lv_ishr hx hb dL_build_258 ?_
              refine lv_iconst (v := 3) hx hb dL_build_259 (by decide) ?_
              refine lv_iand hx hb dL_build_260 ?_
              refine lv_iconst (v := 3) hx hb dL_build_261 (by decide) ?_
              refine lv_irem hx hb dL_build_262 (by decide) ?_
              obtain ⟨x59, ex59, hf⟩ := nm_x hf
              refine g_topi ex59 ?_
              refine lv_iadd hx hb dL_build_263 ?_
              refine lv_iconst (v := 0) hx hb dL_build_264 (by decide) ?_
              refine lv_iconst (v := 0) hx hb dL_build_265 (by decide) ?_
              obtain ⟨r61, σ62, h60, hf⟩ := bd2_x hf
              refine g_callR (st1 := [.int r61]) (cells' := cells + 15) (slots' := slots + 90) M (g_invW (index := 30) S M C0 hl (c_L_act l hfl G H.size lo dd σ48 2 (1 + x59) 0 0 h60) k_L_act tw_5_152 tw_5_151 rfl rfl rfl (gRm_m2 (by first | decide | exact Nat.le_trans (Nat.le_of_ble_eq_true rfl) hRf) (by first | decide | exact Nat.le_trans (Nat.le_of_ble_eq_true rfl) hRl) (by first | (dsimp only; omega) | (dsimp only [gRs]; omega) | omega) (by first | (dsimp only; omega) | (dsimp only [gRs]; omega) | omega)) dL_build_266) rfl rfl rfl (fun H locs M => ?_)
              refine lv_pop hx hb dL_build_269 rfl ?_
              cases hf
              refine W.widen (k := cells + 15) (n := slots + 90) (by omega) (by omega) ?_
              exact kJ _ _ _ ⟨M, hl⟩
        · clear hf
          refine lv_if_ne (tgt := 240) hx hb dL_build_209 (by decide) (fun c46 => ?_) (fun c46 => ?_)
          · have hf := it_n c46 hj49
            cases hf
            refine W.widen (k := cells + 12) (n := slots + 72) (by omega) (by omega) ?_
            exact kJ _ _ _ ⟨M, hl⟩
          · have hf := it_p c46 hj49
            refine lv_aload_n hx hb dL_build_212 rfl (lv_at hl 3 rfl) ?_
            refine lv_bipush (v := 6) hx hb dL_build_213 (by decide) ?_
            refine lv_iload hx hb dL_build_215 (lv_at hl 1 rfl) ?_
            refine lv_bipush (v := 20) hx hb dL_build_217 (by decide) ?_
            refine lv_ishr hx hb dL_build_219 ?_
            refine lv_iconst (v := 3) hx hb dL_build_220 (by decide) ?_
            refine lv_iand hx hb dL_build_221 ?_
            refine lv_iconst (v := 3) hx hb dL_build_222 (by decide) ?_
            refine lv_irem hx hb dL_build_223 (by decide) ?_
            obtain ⟨x50, ex50, hf⟩ := nm_x hf
            refine g_topi ex50 ?_
            refine lv_iload hx hb dL_build_224 (lv_at hl 1 rfl) ?_
            refine lv_bipush (v := 22) hx hb dL_build_226 (by decide) ?_
            refine lv_ishr hx hb dL_build_228 ?_
            refine lv_bipush (v := 7) hx hb dL_build_229 (by decide) ?_
            refine lv_iand hx hb dL_build_231 ?_
            refine lv_bipush (v := 6) hx hb dL_build_232 (by decide) ?_
            refine lv_irem hx hb dL_build_234 (by decide) ?_
            obtain ⟨x51, ex51, hf⟩ := nm_x hf
            refine g_topi ex51 ?_
            refine lv_iconst (v := 0) hx hb dL_build_235 (by decide) ?_
            obtain ⟨r53, σ54, h52, hf⟩ := bd2_x hf
            refine g_callR (st1 := [.int r53]) (cells' := cells + 12) (slots' := slots + 72) M (g_invW (index := 30) S M C0 hl (c_L_act l hfl G H.size lo dd σ45 6 x50 x51 0 h52) k_L_act tw_5_152 tw_5_151 rfl rfl rfl (gRm_m2 (by first | decide | exact Nat.le_trans (Nat.le_of_ble_eq_true rfl) hRf) (by first | decide | exact Nat.le_trans (Nat.le_of_ble_eq_true rfl) hRl) (by first | (dsimp only; omega) | (dsimp only [gRs]; omega) | omega) (by first | (dsimp only; omega) | (dsimp only [gRs]; omega) | omega)) dL_build_236) rfl rfl rfl (fun H locs M => ?_)
            refine lv_pop hx hb dL_build_239 rfl ?_
            cases hf
            refine W.widen (k := cells + 12) (n := slots + 72) (by omega) (by omega) ?_
            exact kJ _ _ _ ⟨M, hl⟩
      · clear hf
        refine lv_if_ne (tgt := 180) hx hb dL_build_150 (by decide) (fun c30 => ?_) (fun c30 => ?_)
        · have hf := it_n c30 hj33
          cases hf
          refine W.widen (k := cells + 6) (n := slots + 36) (by omega) (by omega) ?_
          exact kJ _ _ _ ⟨M, hl⟩
        · have hf := it_p c30 hj33
          refine lv_aload_n hx hb dL_build_153 rfl (lv_at hl 3 rfl) ?_
          refine lv_iconst (v := 4) hx hb dL_build_154 (by decide) ?_
          refine lv_iload hx hb dL_build_155 (lv_at hl 1 rfl) ?_
          refine lv_bipush (v := 10) hx hb dL_build_157 (by decide) ?_
          refine lv_ishr hx hb dL_build_159 ?_
          refine lv_bipush (v := 15) hx hb dL_build_160 (by decide) ?_
          refine lv_iand hx hb dL_build_162 ?_
          refine lv_iload hx hb dL_build_163 (lv_at hl 0 rfl) ?_
          obtain ⟨z34, hf⟩ := gz_x hf
          refine lv_irem hx hb dL_build_165 z34 ?_
          obtain ⟨x35, ex35, hf⟩ := nm_x hf
          refine g_topi ex35 ?_
          refine lv_iload hx hb dL_build_166 (lv_at hl 1 rfl) ?_
          refine lv_bipush (v := 14) hx hb dL_build_168 (by decide) ?_
          refine lv_ishr hx hb dL_build_170 ?_
          refine lv_iconst (v := 3) hx hb dL_build_171 (by decide) ?_
          refine lv_iand hx hb dL_build_172 ?_
          refine lv_iconst (v := 3) hx hb dL_build_173 (by decide) ?_
          refine lv_irem hx hb dL_build_174 (by decide) ?_
          obtain ⟨x36, ex36, hf⟩ := nm_x hf
          refine g_topi ex36 ?_
          refine lv_iconst (v := 0) hx hb dL_build_175 (by decide) ?_
          obtain ⟨r38, σ39, h37, hf⟩ := bd2_x hf
          refine g_callR (st1 := [.int r38]) (cells' := cells + 6) (slots' := slots + 36) M (g_invW (index := 30) S M C0 hl (c_L_act l hfl G H.size lo dd σ29 4 x35 x36 0 h37) k_L_act tw_5_152 tw_5_151 rfl rfl rfl (gRm_m2 (by first | decide | exact Nat.le_trans (Nat.le_of_ble_eq_true rfl) hRf) (by first | decide | exact Nat.le_trans (Nat.le_of_ble_eq_true rfl) hRl) (by first | (dsimp only; omega) | (dsimp only [gRs]; omega) | omega) (by first | (dsimp only; omega) | (dsimp only [gRs]; omega) | omega)) dL_build_176) rfl rfl rfl (fun H locs M => ?_)
          refine lv_pop hx hb dL_build_179 rfl ?_
          cases hf
          refine W.widen (k := cells + 6) (n := slots + 36) (by omega) (by omega) ?_
          exact kJ _ _ _ ⟨M, hl⟩
set_option maxHeartbeats 1000000 in
set_option maxRecDepth 100000 in
theorem c_L_build (l : Launch) (hfl : l.stackTraces = false) (G : gT) (sz : Nat) (hG : nG sz G) {o : gM} (hf : f_L_build (gtX G 3) (gtI G) = some o) : gCB l yL_build cL_build 6 (some (.object "ParcelDepot")) { frames := 11, cells := 627, slots := 4821, locals := 193 } 627 4821 G sz [.ref (gtX G 2)] (.inl (some (.ref (G.1 0)), o, 0, 0)) := by
  refine gCB_of (by decide) (Nat.le_of_ble_eq_true rfl) (fun p e s m args below meth c ls S hr hlk hsz C0 hC hK hl H locs M => ?_)
  subst hsz
  have hx := S.1
  have hb := S.2.1
  unfold f_L_build at hf
  refine n_new S hK hG M inX12 tyX12 tyX12_ok tw_1_35 tw_1_36 tw_1_1 (ci := 13) (fs := [.null, .null, .null, .null, .null, .null, .int 0, .int 0, .int 0]) rfl (fun j hj => by rcases (show j = 0 ∨ j = 1 ∨ j = 2 ∨ j = 3 ∨ j = 4 ∨ j = 5 ∨ j = 6 ∨ j = 7 ∨ j = 8 by omega) with rfl | rfl | rfl | rfl | rfl | rfl | rfl | rfl | rfl <;> rfl) 0 (by decide) (hG _ (by decide)) (Nat.le_of_ble_eq_true rfl) (Nat.le_of_ble_eq_true rfl) (cells' := 1) (slots' := 9) rfl rfl dL_build_0 (fun H M => ?_)
  refine lv_dup hx hb dL_build_3 rfl ?_
  refine n_initS S hC hK hG hl M (c_X12_init l G hG) (by rw [hG _ (by decide)]; rfl) k_X12_init tw_1_38 tw_1_37 rfl rfl rfl (cells' := 219) (slots' := 2373) rfl rfl dL_build_4 (fun H locs M => ?_)
  have M : gMS G (gAA G s.heap.size) 0 0 σ0 s H locs := n_mem hG hK M
  refine lv_astore_n (lv' := [(1, .ref (G.1 0)), (0, .ref (gtX G 2))]) hx hb dL_build_7 rfl hl (by decide) rfl (fun ls hl => ?_)
  refine lv_aload_n hx hb dL_build_8 rfl (lv_at hl 1 rfl) ?_
  refine lv_iconst (v := 0) hx hb dL_build_9 (by decide) ?_
  obtain ⟨r2, h1, hf⟩ := bd_x hf
  refine g_callR (st1 := [.int r2]) (cells' := 219) (slots' := 2373) M (g_invS (index := 24) S M C0 hl (c_L_at l hfl G H.size 0 0 σ0 0 h1) k_L_at tw_5_129 tw_5_128 rfl rfl rfl rfl dL_build_10) rfl rfl rfl (fun H locs M => ?_)
  refine lv_istore_n (lv' := [(2, .int r2), (1, .ref (G.1 0)), (0, .ref (gtX G 2))]) hx hb dL_build_13 rfl hl (by decide) rfl (fun ls hl => ?_)
  refine lv_iconst (v := 1) hx hb dL_build_14 (by decide) ?_
  refine lv_istore_n (lv' := [(3, .int 1), (2, .int r2), (1, .ref (G.1 0)), (0, .ref (gtX G 2))]) hx hb dL_build_15 rfl hl (by decide) rfl (fun ls hl => ?_)
  obtain ⟨σ11, h10, hf⟩ := bd_x hf
  refine w_L_build_L16 (C1 := 237) (S1 := 2481) S C0 hfl r2 (by decide) (by decide) (by decide) (by decide) 6 1 σ0 _ h10 _ _ _ _ _ M (lv_sub hl [3, 2, 1, 0] rfl) (by omega) (by omega) (fun _ eq H locs ls M hl => ?_)
  cases eq
  refine lv_iconst (v := 0) hx hb dL_build_53 (by decide) ?_
  refine lv_istore_n (lv' := [(3, .int 0), (0, .ref (gtX G 2)), (1, .ref (G.1 0)), (2, .int r2)]) hx hb dL_build_54 rfl hl (by decide) rfl (fun ls hl => ?_)
  obtain ⟨σ19, h18, hf⟩ := bd_x hf
  refine w_L_build_L55 (C1 := 249) (S1 := 2553) S C0 hfl r2 (by decide) (by decide) (by decide) (by decide) 4 0 σ11 _ h18 _ _ _ _ _ M (lv_sub hl [1, 2, 3, 0] rfl) (by omega) (by omega) (fun _ eq H locs ls M hl => ?_)
  cases eq
  refine lv_iconst (v := 1) hx hb dL_build_88 (by decide) ?_
  refine lv_istore_n (lv' := [(3, .int 1), (0, .ref (gtX G 2)), (1, .ref (G.1 0))]) hx hb dL_build_89 rfl hl (by decide) rfl (fun ls hl => ?_)
  obtain ⟨σ100, h99, hf⟩ := bd_x hf
  refine w_L_build_L90 (C1 := 627) (S1 := 4821) S C0 hfl (by decide) (by decide) (by decide) (by decide) 14 1 σ19 _ h99 _ _ _ _ _ M (lv_sub hl [1, 2, 0] rfl) (by omega) (by omega) (fun _ eq H locs ls M hl => ?_)
  cases eq
  refine lv_aload_n hx hb dL_build_430 rfl (lv_at hl 0 rfl) ?_
  cases hf
  exact g_aret S M hr hlk (by omega) (by omega) (Or.inl ⟨_, rfl⟩) (Or.inr ⟨_, rfl⟩) dL_build_431 rfl
