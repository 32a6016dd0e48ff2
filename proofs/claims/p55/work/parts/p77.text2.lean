theorem num_d {x : Nat} (h : x < 10) : numL x = [48 + x] := by
  have e : x - x / 10 * 10 = x := by omega
  unfold numL
  rw [if_pos h, e]
/-- the depot writes a parcel -/
theorem d_par {σ z : gM} {e : Nat → Int32} {a : Nat → Nat} {L : List Nat} (B : blkR σ 0 e a) (V : vdR e a) (hz : ∀ j, j ≠ 217 → j ≠ 218 → z j = σ j) (h : txt z 217 1 218 L) {p : Nat} (hp : p < a 36) (hl : L.length ≤ 92) : ∃ z' : gM, f_X10_addParcel z (nI p) = some z' ∧ txt z' 217 1 218 (L ++ parL a p) ∧ ∀ j, j ≠ 217 → j ≠ 218 → z' j = σ j := by
  have h12 : a 36 ≤ 12 := V.1
  obtain ⟨w1, w2, w3, w4, w5, w6⟩ := V.2.2.2.2.1 p hp
  have p1 : σ 8 p = nI (a (40 + p)) := (B.2.2.2.1 p hp).1
  have p2 : σ 9 p = nI (a (52 + p)) := (B.2.2.2.1 p hp).2.1
  have p3 : σ 10 p = nI (a (64 + p)) := (B.2.2.2.1 p hp).2.2.1
  have bn := numL_len (a (40 + p))
  have bd := num1 (show a (64 + p) < 10 by omega)
  obtain ⟨z1, a1, a2, a3⟩ := a_add (c := 32) h (by omega) (by omega)
  have l1 : (L ++ [32]).length = L.length + 1 := by simp
  obtain ⟨z2, b1, b2, b3⟩ := a_num (x := a (40 + p)) a2 (by omega) (by omega)
  have l2 : (L ++ [32] ++ numL (a (40 + p))).length = L.length + 1 + (numL (a (40 + p))).length := by rw [List.length_append, l1]
  have o2 : ∀ j, j ≠ 217 → j ≠ 218 → z2 j = σ j := fun j j1 j2 => (b3 j j1 j2).trans ((a3 j j1 j2).trans (hz j j1 j2))
  unfold f_X10_addParcel
  rw [show (32 : Int32) = nI 32 from rfl, a1, bd_s, f_X8_weightOf, nI_gi (by omega) (by omega), g_nIc (by omega), a3 8 (by decide) (by decide), hz 8 (by decide) (by decide), p1, bd_s, b1, bd_s]
  refine Exists.elim (loop_mex (F := fun n i (y : gM) => f_X10_addParcel_L17 (nI p) n i y) (N := a (52 + p)) (I := fun i y => (∀ j, j ≠ 217 → j ≠ 218 → y j = σ j) ∧ txt y 217 1 218 (L ++ [32] ++ numL (a (40 + p)) ++ List.replicate i 104)) (Q := fun y => (∀ j, j ≠ 217 → j ≠ 218 → y j = σ j) ∧ txt y 217 1 218 (L ++ [32] ++ numL (a (40 + p)) ++ List.replicate (a (52 + p)) 104)) (by omega) (fun n i y hi hI => Or.inr ?_) (fun n y hI => ?_) (s := z2) ⟨o2, by rw [List.replicate_zero, List.append_nil]; exact b2⟩) ?_
  rotate_right
  · rintro z3 ⟨c1, c2, c3⟩
    have l3 : (L ++ [32] ++ numL (a (40 + p)) ++ List.replicate (a (52 + p)) 104).length = L.length + 1 + (numL (a (40 + p))).length + a (52 + p) := by
      rw [List.length_append, l2, List.length_replicate]
    obtain ⟨z4, d1, d2, d3⟩ := a_add (c := 62) c3 (by omega) (by omega)
    have l4 : (L ++ [32] ++ numL (a (40 + p)) ++ List.replicate (a (52 + p)) 104 ++ [62]).length = L.length + 1 + (numL (a (40 + p))).length + a (52 + p) + 1 := by
      rw [List.length_append, l3]; rfl
    obtain ⟨z5, f1, f2, f3⟩ := a_num (x := a (64 + p)) d2 (by omega) (by omega)
    refine ⟨z5, ?_, ?_, fun j j1 j2 => (f3 j j1 j2).trans ((d3 j j1 j2).trans (c2 j j1 j2))⟩
    · rw [show f_X10_addParcel_L17 (nI p) gFU 0 z2 = some z3 from c1, bd_s, show (62 : Int32) = nI 62 from rfl, d1, bd_s, f_X8_destinationOf, nI_gi (by omega) (by omega), g_nIc (by omega), d3 10 (by decide) (by decide), c2 10 (by decide) (by decide), p3, bd_s, f1, bd_s]
    · have : L ++ parL a p = L ++ [32] ++ numL (a (40 + p)) ++ List.replicate (a (52 + p)) 104 ++ [62] ++ numL (a (64 + p)) := by
        unfold parL
        simp only [List.append_assoc]
      rw [this]; exact f2
  · obtain ⟨s1, s2⟩ := hI
    have l3 : (L ++ [32] ++ numL (a (40 + p)) ++ List.replicate i 104).length = L.length + 1 + (numL (a (40 + p))).length + i := by
      rw [List.length_append, l2, List.length_replicate]
    obtain ⟨y', d1, d2, d3⟩ := a_add (c := 104) s2 (by omega) (by omega)
    refine ⟨y', ?_, fun j j1 j2 => (d3 j j1 j2).trans (s1 j j1 j2), ?_⟩
    · show f_X10_addParcel_L17 (nI p) (n + 1) (nI i) y = f_X10_addParcel_L17 (nI p) n (nI (i + 1)) y'
      rw [f_X10_addParcel_L17, f_X8_hazardOf, nI_gi (by omega) (by omega), g_nIc (by omega), s1 9 (by decide) (by decide), p2, bd_s, if_neg (by rw [nI_leq (by omega) (by omega)]; omega), show (104 : Int32) = nI 104 from rfl, d1, bd_s, nm_s, nI_s (by omega)]
    · rw [List.replicate_succ', ← List.append_assoc]; exact d2
  · obtain ⟨s1, s2⟩ := hI
    refine ⟨y, ?_, s1, s2⟩
    show f_X10_addParcel_L17 (nI p) (n + 1) (nI (a (52 + p))) y = _
    rw [f_X10_addParcel_L17, f_X8_hazardOf, nI_gi (by omega) (by omega), g_nIc (by omega), s1 9 (by decide) (by decide), p2, bd_s, if_pos (by rw [nI_leq (by omega) (by omega)]; omega)]
theorem d_describe {σ : gM} {e : Nat → Int32} {a : Nat → Nat} (B : blkR σ 0 e a) (V : vdR e a) {k : Nat} (hk : k < 3) : ∃ z : gM, f_X10_describe σ (nI k) = some (nI (sackL a k (a 36)).length, z) ∧ txt z 217 1 218 (sackL a k (a 36)) ∧ ∀ j, j ≠ 217 → j ≠ 218 → z j = σ j := by
  have h12 : a 36 ≤ 12 := V.1
  obtain ⟨v1, v2, v3, v4⟩ := V.2.2.2.2.2.2.2 k hk
  have e17 : σ 17 k = nI (a (128 + k)) := (B.2.2.2.2.2.2.2.2 k hk).1
  have bk := num1 (show k < 10 by omega)
  have bp := num1 (show a (128 + k) < 10 by omega)
  have t0 : txt (mset σ 217 1 0) 217 1 218 [] := ⟨mset_same _ _ _ _, fun j hj => absurd hj (Nat.not_lt_zero _)⟩
  obtain ⟨z1, a1, a2, a3⟩ := a_add (c := 115) t0 (by simp) (by omega)
  obtain ⟨z2, b1, b2, b3⟩ := a_num (x := k) a2 (by omega) (by rw [bk]; simp)
  obtain ⟨z3, c1, c2, c3⟩ := a_add (c := 64) b2 (by rw [List.length_append, bk]; simp) (by omega)
  obtain ⟨z4, d1, d2, d3⟩ := a_num (x := a (128 + k)) c2 (by omega) (by rw [List.length_append, List.length_append, bk, bp]; simp)
  have o4 : ∀ j, j ≠ 217 → j ≠ 218 → z4 j = σ j := fun j j1 j2 => (d3 j j1 j2).trans ((c3 j j1 j2).trans ((b3 j j1 j2).trans ((a3 j j1 j2).trans (funext fun q => mset_ne1 _ _ j1))))
  have o3 : z3 17 = σ 17 := (c3 17 (by decide) (by decide)).trans ((b3 17 (by decide) (by decide)).trans ((a3 17 (by decide) (by decide)).trans (funext fun q => mset_ne1 _ _ (by decide))))
  unfold f_X10_describe
  rw [nm_s, show (115 : Int32) = nI 115 from rfl, a1, bd_s, b1, bd_s, show (64 : Int32) = nI 64 from rfl, c1, bd_s, f_X11_placeOf, nI_gi (by omega) (by omega), g_nIc (by omega), o3, e17, bd_s, d1, bd_s]
  refine Exists.elim (loop_mex (F := fun n i (y : gM) => f_X10_describe_L36 (nI k) n i y) (N := a 36) (I := fun i y => (∀ j, j ≠ 217 → j ≠ 218 → y j = σ j) ∧ txt y 217 1 218 (sackL a k i)) (Q := fun y => (∀ j, j ≠ 217 → j ≠ 218 → y j = σ j) ∧ txt y 217 1 218 (sackL a k (a 36))) (by omega) (fun n i y hi hI => Or.inr ?_) (fun n y hI => ?_) (s := z4) ⟨o4, d2⟩) ?_
  rotate_right
  · rintro z ⟨f1, f2, f3⟩
    refine ⟨z, ?_, f3, f2⟩
    rw [show f_X10_describe_L36 (nI k) gFU 0 z4 = some z from f1, bd_s, f3.1]
  · obtain ⟨s1, s2⟩ := hI
    obtain ⟨w1, w2, w3, w4, w5, w6⟩ := V.2.2.2.2.1 i hi
    have p4 : σ 11 i = wh (a (76 + i)) (a (88 + i)) := (B.2.2.2.1 i hi).2.2.2.1
    have b3 : σ 7 5 = nI (a 36) := B.2.2.1
    have hlen := sackL_len V hk i (by omega)
    by_cases c : a (76 + i) = 1 ∧ a (88 + i) = k
    · obtain ⟨y', g1, g2, g3⟩ := d_par B V s1 s2 hi (by omega)
      refine ⟨y', ?_, g3, ?_⟩
      · show f_X10_describe_L36 (nI k) (n + 1) (nI i) y = f_X10_describe_L36 (nI k) n (nI (i + 1)) y'
        rw [f_X10_describe_L36, f_X8_size, s1 7 (by decide) (by decide), b3, bd_s, if_neg (by rw [nI_leq (by omega) (by omega)]; omega), f_X8_whereIs, nI_gi (by omega) (by omega), g_nIc (by omega), s1 11 (by decide) (by decide), p4, bd_s, if_pos (by rw [wh_eq w6 (by omega)]; exact c), g1, bd_s, nm_s, nI_s (by omega)]
      · rw [show sackL a k (i + 1) = sackL a k i ++ parL a i from if_pos c]; exact g2
    · refine ⟨y, ?_, s1, ?_⟩
      · show f_X10_describe_L36 (nI k) (n + 1) (nI i) y = f_X10_describe_L36 (nI k) n (nI (i + 1)) y
        rw [f_X10_describe_L36, f_X8_size, s1 7 (by decide) (by decide), b3, bd_s, if_neg (by rw [nI_leq (by omega) (by omega)]; omega), f_X8_whereIs, nI_gi (by omega) (by omega), g_nIc (by omega), s1 11 (by decide) (by decide), p4, bd_s, if_neg (by rw [wh_eq w6 (by omega)]; exact c), nm_s, nI_s (by omega)]
      · rw [show sackL a k (i + 1) = sackL a k i from if_neg c]; exact s2
  · obtain ⟨s1, s2⟩ := hI
    have b3 : σ 7 5 = nI (a 36) := B.2.2.1
    refine ⟨y, ?_, s1, s2⟩
    show f_X10_describe_L36 (nI k) (n + 1) (nI (a 36)) y = _
    rw [f_X10_describe_L36, f_X8_size, s1 7 (by decide) (by decide), b3, bd_s, if_pos (by rw [nI_leq (by omega) (by omega)]; omega)]

theorem q_writeSack {σ : gM} {e : Nat → Int32} {a : Nat → Nat} (R : nowR σ e a) {k : Nat} (hk : k < 3) : ∃ z : gM, f_X12_writeSack σ (nI k) = some (.inl (nI (sackL a k (a 36)).length, z)) ∧ txt z 217 1 218 (sackL a k (a 36)) ∧ ∀ j, j ≠ 217 → j ≠ 218 → z j = σ j := by
  obtain ⟨z, h1, h2, h3⟩ := d_describe R.1 R.2.2 hk
  refine ⟨z, ?_, h2, h3⟩
  unfold f_X12_writeSack
  rw [ss_ok hk, bt_l, h1, bd2_s]
