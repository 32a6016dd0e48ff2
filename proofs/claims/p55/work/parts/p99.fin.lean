theorem e_atRank {σ : gM} {e : Nat → Int32} {a : Nat → Nat} (R : nowR σ e a) (x : Int32) : f_X8_atRank_L2 x σ gFU 0 = some (hvR a x) := by
  have hN : a 36 ≤ 12 := R.2.2.1
  have hn : σ 7 5 = nI (a 36) := R.1.2.2.1
  refine loop_find (F := fun n i => f_X8_atRank_L2 x σ n i) (by omega) (fun n i hi => ?_) (fun n => ?_)
  · obtain ⟨-, -, -, p4, -⟩ := R.1.2.2.2.1 i hi
    obtain ⟨-, -, -, -, q5, q6⟩ := R.2.2.2.2.2.2.1 i hi
    show f_X8_atRank_L2 x σ (n + 1) (nI i) = if hvB a x i = true then some (.inl (nI i)) else f_X8_atRank_L2 x σ n (nI (i + 1))
    rw [f_X8_atRank_L2, hn]
    simp (disch := omega) only [nI_leq, if_neg, nI_gi, g_nIc, nm_s, nI_s]
    rw [show σ 11 i = _ from p4, e_rankOf R hi, bd_s]
    simp only [wh_out q6 q5]
    by_cases h1 : a (76 + i) = 2
    · rw [if_pos h1, if_neg (by unfold hvB; simp [h1])]
    · rw [if_neg h1]
      by_cases h2 : nI (rkN a i) = x
      · rw [if_pos h2, if_pos (by unfold hvB; simp [h1, h2])]
      · rw [if_neg h2, if_neg (by unfold hvB; simp [h1, h2])]
  · show f_X8_atRank_L2 x σ (n + 1) (nI (a 36)) = _
    rw [f_X8_atRank_L2, hn, if_pos (by rw [nI_leq (by omega) (by omega)]; omega)]
theorem q_heaviest {σ : gM} {e : Nat → Int32} {a : Nat → Nat} (R : nowR σ e a) {x : Int32} {i : Nat} (hi : i ≤ 4096) (h : hvR a x = .inl (nI i)) : f_X12_heaviest σ x = some (.inl (nI i)) := by
  unfold f_X12_heaviest f_X8_atRank
  rw [e_atRank R x, h]
  show bd (some (nI i)) _ = _
  rw [bd_s, pr_ok (nI_ge0 hi), bt_l]
/-! THE LAW: the end -/
theorem z_7 {K0 σ : gM} {r6 r9 : Int32} {e : Nat → Int32} {a : Nat → Nat} {r w : Nat} (w1 : 2 ≤ w) (w2 : w ≤ 11) (I : zInv e a K0) (E39 : e 39 = 0) (Z : zV a r w 2 0 0 0 0 0 1 3 1 3 2 1 3 2 2 31) (h : ∀ K e a g1 u1, zInv e a K → zV a r w 1 0 0 1 0 1 2 3 1 3 2 2 g1 u1 2 31 → f_Z8 K σ r6 r9 = some ()) : f_Z7 K0 σ r6 r9 = some () := by
  obtain ⟨hR, h36, h37, ⟨h40, h41, h42⟩, ⟨h52, h53, h54⟩, ⟨h64, h65, h66⟩, ⟨h76, h77, h78⟩, ⟨h88, h89, h90⟩, ⟨h112, h113⟩, ⟨h120, h121⟩, h128, h131, h133, h132⟩ := id Z
  -- put 2 2
  have b2 : bst a (a (52 + 2)) (a 37) = 1 + 1 := by
    show bst a (a 54) (a 37) = 2
    rw [h54, h37, bst_2 ⟨h112, h113⟩ ⟨h120, h121⟩]; rfl
  obtain ⟨K1, n1, I1⟩ := z_put I (p := 2) (k := 2) (l := 15) (by omega) (by omega) h78 (by rw [zload Z]; show 0 + 0 + 0 + a 42 = 15; omega) (by show 15 ≤ a 133; omega) (sf_b b2) (hd3 (by show ¬ a 54 = 0; omega) b2 (by show a 121 + 1 = 3; omega))
  have Z1 : zV (pt (pt (pt (shA (pt a (120 + 1) 3) 1 7) 37 (a 37 - 1)) (76 + 2) 1) (88 + 2) 2) r w 1 0 0 0 0 1 2 3 1 3 2 1 (a 114) (a 122) 2 31 := ⟨fun j hj => (pt_n (by omega)).trans ((pt_n (by omega)).trans ((pt_n (by omega)).trans ((shA_n (by omega)).trans ((pt_n (by omega)).trans (hR j hj))))), h36, (by show a 37 - 1 = 1; omega), ⟨h40, h41, h42⟩, ⟨h52, h53, h54⟩, ⟨h64, h65, h66⟩, ⟨h76, h77, rfl⟩, ⟨h88, h89, rfl⟩, ⟨h112, rfl⟩, ⟨h120, rfl⟩, h128, h131, h133, h132⟩
  have E1 : pe e 39 (e 39 + 1) 39 = 1 := by rw [pe_s, E39]; rfl
  generalize pe e 39 (e 39 + 1) = e1 at I1 E1
  generalize pt (pt (pt (shA (pt a (120 + 1) 3) 1 7) 37 (a 37 - 1)) (76 + 2) 1) (88 + 2) 2 = a1 at I1 Z1
  generalize a 114 = g1 at Z1
  generalize a 122 = u1 at Z1
  clear h36 h37 h40 h41 h42 h52 h53 h54 h64 h65 h66 h76 h77 h78 h88 h89 h90 h112 h113 h120 h121 h128 h131 h133 h132 hR b2
  obtain ⟨hR, h36, h37, ⟨h40, h41, h42⟩, ⟨h52, h53, h54⟩, ⟨h64, h65, h66⟩, ⟨h76, h77, h78⟩, ⟨h88, h89, h90⟩, ⟨h112, h113⟩, ⟨h120, h121⟩, h128, h131, h133, h132⟩ := id Z1
  have q1 := q_gloveCount (zI_R I1)
  rw [h37] at q1
  have q2 := q_glovesUsedUp (zI_R I1)
  rw [E1] at q2
  have q3 := q_grade (zI_R I1) (j := 0) (by omega)
  rw [show a1 (112 + 0) = 2 from h112] at q3
  have hb0 : ¬ sfB a1 0 = true := by
    have : bst a1 (a1 (52 + 0)) (a1 37) = 0 := by
      show bst a1 (a1 52) (a1 37) = 0
      rw [h52, h37, bst_1 h112 h120]; rfl
    unfold sfB
    rw [this, show a1 (52 + 0) = 3 from h52]
    decide
  have q4 := q_canHandle (zI_R I1) (j := 0) (by omega)
  rw [if_neg hb0] at q4
  obtain ⟨K2, n2, I2⟩ := z_no I1 (by omega) (pu_no4 (zI_R I1).2.2 (p := 0) (k := 0) (by omega) (by omega) h76 (by rw [zload Z1]; show 0 + 0 + 0 + a1 40 ≤ a1 131; omega) hb0)
  -- put 1 0
  have b1 : bst a1 (a1 (52 + 1)) (a1 37) = 0 + 1 := by
    show bst a1 (a1 53) (a1 37) = 1
    rw [h53, h37, bst_1 h112 h120]; rfl
  obtain ⟨K3, n3, I3⟩ := z_put I2 (p := 1) (k := 0) (l := 20) (by omega) (by omega) h77 (by rw [zload Z1]; show 0 + 0 + 0 + a1 41 = 20; omega) (by show 20 ≤ a1 131; omega) (sf_b b1) (hd1 (u := 2) (by show ¬ a1 53 = 0; omega) b1 (by show a1 120 + 1 = 2; omega) (by omega))
  have Z3 : zV (pt (pt (pt a1 (120 + 0) 2) (76 + 1) 1) (88 + 1) 0) r w 1 0 0 1 0 1 2 3 1 3 2 2 g1 u1 2 31 := ⟨fun j hj => (pt_n (by omega)).trans ((pt_n (by omega)).trans ((pt_n (by omega)).trans (hR j hj))), h36, h37, ⟨h40, h41, h42⟩, ⟨h52, h53, h54⟩, ⟨h64, h65, h66⟩, ⟨h76, rfl, h78⟩, ⟨h88, rfl, h90⟩, ⟨h112, h113⟩, ⟨rfl, h121⟩, h128, h131, h133, h132⟩
  generalize pt (pt (pt a1 (120 + 0) 2) (76 + 1) 1) (88 + 1) 0 = a3 at I3 Z3
  have q5 := q_usesLeft (zI_R I3) (j := 0) (by rw [Z3.2.2.1]; omega)
  rw [show 3 - a3 (120 + 0) = 1 from by have := Z3.2.2.2.2.2.2.2.2.2.1.1; show 3 - a3 120 = 1; omega] at q5
  unfold f_Z7
  rw [show f_X12_put K0 2 2 = _ from n1, btn2_l, if_pos (show nI 15 = 15 from rfl), q1, bd_s, if_pos (show nI 1 = 1 from rfl), q2, bd_s, if_pos rfl, show f_X12_grade K1 0 = _ from q3, btn_l, if_pos (show nI 2 = 2 from rfl), show f_X12_canHandle K1 0 = _ from q4, btn_l, if_pos rfl, show f_L_act K1 4 0 0 0 = some (-5, K2) from by rw [act_4, show fD (fun τ => f_X3_putIn τ 0 0) K1 = _ from n2, actM_r (by omega)]; rfl, bd2_s, if_pos rfl, show f_X12_put K2 1 0 = _ from n3, btn2_l, if_pos (show nI 20 = 20 from rfl), show f_X12_usesLeft K3 0 = _ from q5, btn_l, if_pos (show nI 1 = 1 from rfl)]
  exact h K3 e1 a3 g1 u1 I3 Z3
theorem l_line {z : gM} {L : List Nat} (h : txt z 217 1 218 L) (hl : L.length = 10) (hL : ((List.range 10).all fun i => decide (nI (gl L i) = (gByt.getD 33 []).getD i 0)) = true) : f_L_isLine z (nI 10) (gByt.getD 33 []) = some 1 := by
  have h10 : (gByt.getD 33 []).length = 10 := by decide
  have key : ∀ (k i n : Nat), i + k = 10 → k < n → f_L_isLine_L12 (nI 10) (gByt.getD 33 []) z n (nI i) = some () := by
    intro k
    induction k with
    | zero =>
      intro i n hi hn
      obtain ⟨m, rfl⟩ : ∃ m, n = m + 1 := ⟨n - 1, by omega⟩
      rw [f_L_isLine_L12, if_pos (by rw [nI_leq (by omega) (by omega)]; omega)]
    | succ k ih =>
      intro i n hi hn
      obtain ⟨m, rfl⟩ : ∃ m, n = m + 1 := ⟨n - 1, by omega⟩
      obtain ⟨t1, t2⟩ := h.2 i (by omega)
      have e := of_decide_eq_true (List.all_eq_true.mp hL i (List.mem_range.mpr (by omega)))
      rw [f_L_isLine_L12, if_neg (by rw [nI_leq (by omega) (by omega)]; omega), q_outputChar (o := 10) (by omega) (by rw [h.1, hl]) (by omega) (by rw [t1]; exact (ch_ok t2).2), btn_l, h10, nI_gi (by omega) (by omega), g_nIc (by omega), t1, if_pos e, nm_s, nI_s (by omega)]
      exact ih (i + 1) m (by omega) (by omega)
  unfold f_L_isLine
  rw [h10, if_pos rfl, show f_L_isLine_L12 (nI 10) (gByt.getD 33 []) z 20 0 = some () from key 10 0 20 (by omega) (by omega), bd_s]
theorem z_8 {K0 σ : gM} {r6 r9 : Int32} {e : Nat → Int32} {a : Nat → Nat} {r w g1 u1 : Nat} (w1 : 2 ≤ w) (w2 : w ≤ 11) (I : zInv e a K0) (Z : zV a r w 1 0 0 1 0 1 2 3 1 3 2 2 g1 u1 2 31) (h : f_Z9 σ r6 r9 = some ()) : f_Z8 K0 σ r6 r9 = some () := by
  obtain ⟨hR, h36, h37, ⟨h40, h41, h42⟩, ⟨h52, h53, h54⟩, ⟨h64, h65, h66⟩, ⟨h76, h77, h78⟩, ⟨h88, h89, h90⟩, ⟨h112, h113⟩, ⟨h120, h121⟩, h128, h131, h133, h132⟩ := id Z
  -- writeSack
  have hsk : sackL a 0 (a 36) = [115, 48, 64, 50, 32, 50, 48, 104, 62, 49] := by
    rw [h36]
    show (if a 78 = 1 ∧ a 90 = 0 then (if a 77 = 1 ∧ a 89 = 0 then (if a 76 = 1 ∧ a 88 = 0 then ([115] ++ numL 0 ++ [64] ++ numL (a 128)) ++ parL a 0 else [115] ++ numL 0 ++ [64] ++ numL (a 128)) ++ parL a 1 else (if a 76 = 1 ∧ a 88 = 0 then ([115] ++ numL 0 ++ [64] ++ numL (a 128)) ++ parL a 0 else [115] ++ numL 0 ++ [64] ++ numL (a 128))) ++ parL a 2 else (if a 77 = 1 ∧ a 89 = 0 then (if a 76 = 1 ∧ a 88 = 0 then ([115] ++ numL 0 ++ [64] ++ numL (a 128)) ++ parL a 0 else [115] ++ numL 0 ++ [64] ++ numL (a 128)) ++ parL a 1 else (if a 76 = 1 ∧ a 88 = 0 then ([115] ++ numL 0 ++ [64] ++ numL (a 128)) ++ parL a 0 else [115] ++ numL 0 ++ [64] ++ numL (a 128)))) = _
    rw [if_neg (by omega), if_pos (by omega), if_neg (by omega), h128]
    unfold parL
    rw [show a (40 + 1) = 20 from h41, show a (52 + 1) = 1 from h53, show a (64 + 1) = 1 from h65]
    decide
  obtain ⟨K1, n1, t1, o1⟩ := q_writeSack (zI_R I) (k := 0) (by omega)
  rw [hsk] at n1 t1
  have I1 : zInv e a K1 := by
    obtain ⟨c, nx, R, Hh, h2⟩ := I
    exact ⟨c, nx, now_f0 R (fun i q i1 i2 => by rw [o1 i (by omega) (by omega)]), ⟨Hh.1, Hh.2.1, by rw [o1 199 (by omega) (by omega)]; exact Hh.2.2.1, by rw [o1 199 (by omega) (by omega)]; exact Hh.2.2.2⟩, by rw [o1 204 (by omega) (by omega)]; exact h2⟩
  have n2 := l_line t1 rfl (by decide +kernel)
  -- heaviest
  have k0 : rkN a 0 = 2 := by
    unfold rkN
    rw [h36]
    rcases (show w = 2 ∨ w = 3 ∨ w = 4 ∨ w = 5 ∨ w = 6 ∨ w = 7 ∨ w = 8 ∨ w = 9 ∨ w = 10 ∨ w = 11 by omega) with rfl | rfl | rfl | rfl | rfl | rfl | rfl | rfl | rfl | rfl <;> simp [sm, ahB, h40, h41, h42, h52, h53, h54, h76, h77, h78]
  have k1 : rkN a 1 = 0 := by
    unfold rkN
    rw [h36]
    rcases (show w = 2 ∨ w = 3 ∨ w = 4 ∨ w = 5 ∨ w = 6 ∨ w = 7 ∨ w = 8 ∨ w = 9 ∨ w = 10 ∨ w = 11 by omega) with rfl | rfl | rfl | rfl | rfl | rfl | rfl | rfl | rfl | rfl <;> simp [sm, ahB, h40, h41, h42, h52, h53, h54, h76, h77, h78]
  have k2 : rkN a 2 = 1 := by
    unfold rkN
    rw [h36]
    rcases (show w = 2 ∨ w = 3 ∨ w = 4 ∨ w = 5 ∨ w = 6 ∨ w = 7 ∨ w = 8 ∨ w = 9 ∨ w = 10 ∨ w = 11 by omega) with rfl | rfl | rfl | rfl | rfl | rfl | rfl | rfl | rfl | rfl <;> simp [sm, ahB, h40, h41, h42, h52, h53, h54, h76, h77, h78]
  have hv : ∀ x : Int32, hvR a x = if nI 2 = x then .inl (nI 0) else if nI 0 = x then .inl (nI 1) else if nI 1 = x then .inl (nI 2) else .inr () := by
    intro x
    have B0 : hvB a x 0 = decide (nI 2 = x) := by
      show (decide (a 76 ≠ 2) && decide (nI (rkN a 0) = x)) = _
      rw [h76, k0]; rfl
    have B1 : hvB a x 1 = decide (nI 0 = x) := by
      show (decide (a 77 ≠ 2) && decide (nI (rkN a 1) = x)) = _
      rw [h77, k1]; rfl
    have B2 : hvB a x 2 = decide (nI 1 = x) := by
      show (decide (a 78 ≠ 2) && decide (nI (rkN a 2) = x)) = _
      rw [h78, k2]; rfl
    unfold hvR
    rw [h36]
    show (if hvB a x 0 = true then (.inl (nI 0) : Int32 ⊕ Unit) else if hvB a x 1 = true then .inl (nI 1) else if hvB a x 2 = true then .inl (nI 2) else .inr ()) = _
    rw [B0, B1, B2]
    simp only [decide_eq_true_eq]
  have n3 := q_heaviest (zI_R I1) (x := 0) (i := 1) (by omega) (by rw [hv]; rfl)
  have n4 := q_heaviest (zI_R I1) (x := 1) (i := 2) (by omega) (by rw [hv]; rfl)
  have n5 := q_heaviest (zI_R I1) (x := 2) (i := 0) (by omega) (by rw [hv]; rfl)
  have n6 := q_waitingCount (zI_R I1)
  rw [h36, show sm (fun p => if a (76 + p) = 0 then 1 else 0) 3 = 1 by simp [sm, h76, h77, h78]] at n6
  have hl : loadN a 0 = 20 := by rw [zload Z]; rfl
  obtain ⟨K2, n7, I2⟩ := z_no I1 (by omega) (cap_no2 (zI_R I1).2.2 (k := 0) (q := 19) (by omega) (by omega) (by omega) (by omega))
  obtain ⟨c, nx, R2, Hh2, h22⟩ := I2
  have hx := Hh2.2.1
  have hc := Hh2.1
  obtain ⟨o8, V8⟩ := cap_ok R2.2.2 (k := 0) (q := 20) (by omega) (by omega) (by omega) (by omega)
  obtain ⟨K3, n8, R3, Hh3, B3, -⟩ := chg_ok R2 Hh2 (nI_ge0 (by show a 131 ≤ 4096; omega)) o8 V8
  rw [show a (131 + 0) = 31 from h131] at n8
  have f36 : pt a (131 + 0) 20 36 = 3 := h36
  have n9 := q_meanHazard R3 (by rw [f36]; omega)
  rw [f36, show sm (fun p => pt a (131 + 0) 20 (52 + p)) 3 = 7 from by show 0 + a 52 + a 53 + a 54 = 7; omega] at n9
  have n10 := q_deliveredShare R3 (by rw [f36]; omega)
  rw [f36, show sm (fun p => if pt a (131 + 0) 20 (76 + p) = 2 then 1 else 0) 3 = 0 from by show 0 + (if a 76 = 2 then 1 else 0) + (if a 77 = 2 then 1 else 0) + (if a 78 = 2 then 1 else 0) = 0; rw [h76, h77, h78]; rfl] at n10
  have en : ((nx + 1) % 9 + 8) % 9 = nx := by omega
  obtain ⟨K4, n11, R4, -, -⟩ := d_undo (d := min c 7) (by rw [show min c 7 + 1 = min (c + 1) 8 by omega]; exact Hh3) (by rw [en]; exact B3) R2.2.2
  have n12 := q_capacity R4 (j := 0) (by omega)
  rw [show a (131 + 0) = 31 from h131] at n12
  obtain ⟨K5, n13, -⟩ := q_isConsistent R4
  unfold f_Z8
  rw [show f_X12_writeSack K0 0 = some (.inl (nI 10, K1)) from n1, btn2_l, n2, bd_s, if_neg (by decide), show f_X12_heaviest K1 0 = _ from n3, btn_l, if_pos (show nI 1 = 1 from rfl), show f_X12_heaviest K1 1 = _ from n4, btn_l, if_pos (show nI 2 = 2 from rfl), show f_X12_heaviest K1 2 = _ from n5, btn_l, if_pos (show nI 0 = 0 from rfl), n6, bd_s, if_pos (show nI 1 = 1 from rfl), show f_L_act K1 3 0 19 0 = some (-3, K2) from by rw [act_3, show fD (fun τ => f_X3_changeCapacity τ 0 19) K1 = _ from n7, actM_r (by omega)]; rfl, bd2_s, if_pos rfl, show f_X12_setCapacity K2 0 20 = _ from n8, btn2_l, if_pos (show nI 31 = 31 from rfl), n9, btn_l, if_pos (by decide +kernel), n10, btn_l, if_pos (by decide +kernel), n11, btn2_l, if_neg (Int32.not_lt.mpr (nI_ge0 (by omega))), show f_X12_capacity K4 0 = _ from n12, btn_l, if_pos (show nI 31 = 31 from rfl), n13, bd2_s, if_neg (by decide)]
  exact h
theorem f_law_ok {L : Nat} {xs : Nat → Int32} (hL : L ≤ 260) : f_law L xs = some () := by
  rw [law_eq]
  refine x_1 hL (fun e a K I => z_0 hL (fun r w r1 r2 w1 w2 => ?_))
  refine z_1 (fun K0 I0 => z_2 r1 r2 w1 w2 I0 (fun K1 a1 I1 Z1 => z_3 r1 r2 w1 w2 I1 Z1 (fun K2 I2 => z_4 r1 r2 w1 w2 I2 Z1 (fun K3 a3 I3 Z3 => z_5 r1 r2 w1 w2 I3 rfl rfl rfl Z3 (fun K4 e4 a4 I4 E4 F4 Z4 => z_6 w1 w2 I4 E4 F4 Z4 (fun K5 e5 a5 I5 E5 Z5 => z_7 w1 w2 I5 E5 Z5 (fun K6 e6 a6 g6 u6 I6 Z6 => z_8 w1 w2 I6 Z6 (z_9 I))))))))
