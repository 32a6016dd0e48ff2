/-- the reference writes a parcel -/
theorem m_par {σ z : gM} {e : Nat → Int32} {a : Nat → Nat} {L : List Nat} (hr : rowR (σ 220) a) (V : vdR e a) (hz : ∀ i q, i ≠ 225 → ¬ (i = 219 ∧ q = 11) → z i q = σ i q) (h : txt z 219 11 225 L) {p : Nat} (hp : p < a 36) (hl : L.length ≤ 92) : ∃ z' : gM, f_X13_writesParcel z (nI p) = some z' ∧ txt z' 219 11 225 (L ++ parL a p) ∧ ∀ i q, i ≠ 225 → ¬ (i = 219 ∧ q = 11) → z' i q = σ i q := by
  have h12 : a 36 ≤ 12 := V.1
  obtain ⟨w1, w2, w3, w4, w5, w6⟩ := V.2.2.2.2.1 p hp
  have r40 : ∀ y : gM, (∀ i q, i ≠ 225 → ¬ (i = 219 ∧ q = 11) → y i q = σ i q) → y 220 (40 + p) = nI (a (40 + p)) := fun y hy => (hy _ _ (by decide) (by omega)).trans (hr (40 + p) (by omega) (by omega) (by omega) (by omega))
  have r52 : ∀ y : gM, (∀ i q, i ≠ 225 → ¬ (i = 219 ∧ q = 11) → y i q = σ i q) → y 220 (52 + p) = nI (a (52 + p)) := fun y hy => (hy _ _ (by decide) (by omega)).trans (hr (52 + p) (by omega) (by omega) (by omega) (by omega))
  have r64 : ∀ y : gM, (∀ i q, i ≠ 225 → ¬ (i = 219 ∧ q = 11) → y i q = σ i q) → y 220 (64 + p) = nI (a (64 + p)) := fun y hy => (hy _ _ (by decide) (by omega)).trans (hr (64 + p) (by omega) (by omega) (by omega) (by omega))
  have bn := numL_len (a (40 + p))
  have bd := num1 (show a (64 + p) < 10 by omega)
  obtain ⟨z1, a1, a2, a3⟩ := w_add (c := 32) h (by omega) (by omega)
  have o1 : ∀ i q, i ≠ 225 → ¬ (i = 219 ∧ q = 11) → z1 i q = σ i q := fun i q i1 i2 => (a3 i q i1 i2).trans (hz i q i1 i2)
  have l1 : (L ++ [32]).length = L.length + 1 := by simp
  -- from the weight on
  have rest : ∀ z2 : gM, txt z2 219 11 225 (L ++ [32] ++ numL (a (40 + p))) → (∀ i q, i ≠ 225 → ¬ (i = 219 ∧ q = 11) → z2 i q = σ i q) → ∃ z3 z4 z5 : gM, f_X13_writesParcel_L60 (nI p) gFU 0 z2 = some z3 ∧ f_X13_writes z3 62 = some z4 ∧ (∀ i q, i ≠ 225 → ¬ (i = 219 ∧ q = 11) → z4 i q = σ i q) ∧ f_X13_writes z4 (nI (48 + a (64 + p))) = some z5 ∧ txt z5 219 11 225 (L ++ parL a p) ∧ ∀ i q, i ≠ 225 → ¬ (i = 219 ∧ q = 11) → z5 i q = σ i q := by
    intro z2 b2 o2
    have l2 : (L ++ [32] ++ numL (a (40 + p))).length = L.length + 1 + (numL (a (40 + p))).length := by rw [List.length_append, l1]
    refine Exists.elim (loop_mex (F := fun n i (y : gM) => f_X13_writesParcel_L60 (nI p) n i y) (N := a (52 + p)) (I := fun i y => (∀ i q, i ≠ 225 → ¬ (i = 219 ∧ q = 11) → y i q = σ i q) ∧ txt y 219 11 225 (L ++ [32] ++ numL (a (40 + p)) ++ List.replicate i 104)) (Q := fun y => (∀ i q, i ≠ 225 → ¬ (i = 219 ∧ q = 11) → y i q = σ i q) ∧ txt y 219 11 225 (L ++ [32] ++ numL (a (40 + p)) ++ List.replicate (a (52 + p)) 104)) (by omega) (fun n i y hi hI => Or.inr ?_) (fun n y hI => ?_) (s := z2) ⟨o2, by rw [List.replicate_zero, List.append_nil]; exact b2⟩) ?_
    rotate_right
    · rintro z3 ⟨c1, c2, c3⟩
      have l3 : (L ++ [32] ++ numL (a (40 + p)) ++ List.replicate (a (52 + p)) 104).length = L.length + 1 + (numL (a (40 + p))).length + a (52 + p) := by
        rw [List.length_append, l2, List.length_replicate]
      obtain ⟨z4, d1, d2, d3⟩ := w_add (c := 62) c3 (by omega) (by omega)
      have l4 : (L ++ [32] ++ numL (a (40 + p)) ++ List.replicate (a (52 + p)) 104 ++ [62]).length = L.length + 1 + (numL (a (40 + p))).length + a (52 + p) + 1 := by
        rw [List.length_append, l3]; rfl
      obtain ⟨z5, f1, f2, f3⟩ := w_add (c := 48 + a (64 + p)) d2 (by omega) (by omega)
      refine ⟨z3, z4, z5, c1, d1, fun i q i1 i2 => (d3 i q i1 i2).trans (c2 i q i1 i2), f1, ?_, fun i q i1 i2 => (f3 i q i1 i2).trans ((d3 i q i1 i2).trans (c2 i q i1 i2))⟩
      have : L ++ parL a p = L ++ [32] ++ numL (a (40 + p)) ++ List.replicate (a (52 + p)) 104 ++ [62] ++ [48 + a (64 + p)] := by
        unfold parL
        rw [num_d (show a (64 + p) < 10 by omega)]
        simp only [List.append_assoc]
      rw [this]; exact f2
    · obtain ⟨s1, s2⟩ := hI
      have l3 : (L ++ [32] ++ numL (a (40 + p)) ++ List.replicate i 104).length = L.length + 1 + (numL (a (40 + p))).length + i := by
        rw [List.length_append, l2, List.length_replicate]
      obtain ⟨y', d1, d2, d3⟩ := w_add (c := 104) s2 (by omega) (by omega)
      refine ⟨y', ?_, fun i q i1 i2 => (d3 i q i1 i2).trans (s1 i q i1 i2), ?_⟩
      · show f_X13_writesParcel_L60 (nI p) (n + 1) (nI i) y = f_X13_writesParcel_L60 (nI p) n (nI (i + 1)) y'
        rw [f_X13_writesParcel_L60, show (52 : Int32) + nI p = nI (52 + p) from nI_al (k := 52) (by omega), nI_gi (by omega) (by omega), g_nIc (by omega), r52 y s1, if_neg (by rw [nI_leq (by omega) (by omega)]; omega), show (104 : Int32) = nI 104 from rfl, d1, bd_s, nm_s, nI_s (by omega)]
      · rw [List.replicate_succ', ← List.append_assoc]; exact d2
    · obtain ⟨s1, s2⟩ := hI
      refine ⟨y, ?_, s1, s2⟩
      show f_X13_writesParcel_L60 (nI p) (n + 1) (nI (a (52 + p))) y = _
      rw [f_X13_writesParcel_L60, show (52 : Int32) + nI p = nI (52 + p) from nI_al (k := 52) (by omega), nI_gi (by omega) (by omega), g_nIc (by omega), r52 y s1, if_pos (by rw [nI_leq (by omega) (by omega)]; omega)]
  unfold f_X13_writesParcel
  rw [show (32 : Int32) = nI 32 from rfl, a1, bd_s, show (40 : Int32) + nI p = nI (40 + p) from nI_al (k := 40) (by omega), show (64 : Int32) + nI p = nI (64 + p) from nI_al (k := 64) (by omega)]
  simp (disch := omega) only [nI_gi, g_nIc]
  rw [r40 z1 o1, e_d1 (by omega), e_d2 (by omega), show (9 : Int32) = nI 9 from rfl]
  simp (disch := omega) only [nI_leq]
  by_cases c : a (40 + p) ≤ 9
  · have en : numL (a (40 + p)) = [48 + (a (40 + p) - a (40 + p) / 10 * 10)] := if_pos (by omega)
    obtain ⟨z2, b1, b2, b3⟩ := w_add (c := 48 + (a (40 + p) - a (40 + p) / 10 * 10)) a2 (by omega) (by omega)
    obtain ⟨z3, z4, z5, g1, g2, g3, g4, g5, g6⟩ := rest z2 (by rw [en]; exact b2) (fun i q i1 i2 => (b3 i q i1 i2).trans (o1 i q i1 i2))
    refine ⟨z5, ?_, g5, g6⟩
    rw [if_pos c, b1, bd_s, g1, bd_s, g2, bd_s, r64 z4 g3, show (48 : Int32) + nI (a (64 + p)) = nI (48 + a (64 + p)) from nI_al (k := 48) (by omega), g4, bd_s]
  · have en : numL (a (40 + p)) = [48 + a (40 + p) / 10, 48 + (a (40 + p) - a (40 + p) / 10 * 10)] := if_neg (by omega)
    obtain ⟨y, b1, b2, b3⟩ := w_add (c := 48 + a (40 + p) / 10) a2 (by omega) (by omega)
    have oy : ∀ i q, i ≠ 225 → ¬ (i = 219 ∧ q = 11) → y i q = σ i q := fun i q i1 i2 => (b3 i q i1 i2).trans (o1 i q i1 i2)
    obtain ⟨z2, d1, d2, d3⟩ := w_add (c := 48 + (a (40 + p) - a (40 + p) / 10 * 10)) b2 (by rw [List.length_append, l1]; show L.length + 1 + 1 ≤ 199; omega) (by omega)
    obtain ⟨z3, z4, z5, g1, g2, g3, g4, g5, g6⟩ := rest z2 (by rw [en]; rw [List.append_assoc] at d2; exact d2) (fun i q i1 i2 => (d3 i q i1 i2).trans (oy i q i1 i2))
    refine ⟨z5, ?_, g5, g6⟩
    rw [if_neg c, b1, bd_s, r40 y oy, e_d1 (by omega), d1, bd_s, g1, bd_s, g2, bd_s, r64 z4 g3, show (48 : Int32) + nI (a (64 + p)) = nI (48 + a (64 + p)) from nI_al (k := 48) (by omega), g4, bd_s]
theorem m_write {σ : gM} {e : Nat → Int32} {a : Nat → Nat} (hr : rowR (σ 220) a) (V : vdR e a) {k : Nat} (hk : k < 3) : ∃ z : gM, f_X13_writeSack σ (nI k) = some (nI (sackL a k (a 36)).length, mset z 219 12 0) ∧ txt z 219 11 225 (sackL a k (a 36)) ∧ ∀ i q, i ≠ 225 → ¬ (i = 219 ∧ q = 11) → z i q = σ i q := by
  have h12 : a 36 ≤ 12 := V.1
  obtain ⟨v1, v2, v3, v4⟩ := V.2.2.2.2.2.2.2 k hk
  have t0 : txt (mset σ 219 11 0) 219 11 225 [] := ⟨mset_same _ _ _ _, fun j hj => absurd hj (Nat.not_lt_zero _)⟩
  have o0 : ∀ i q, i ≠ 225 → ¬ (i = 219 ∧ q = 11) → mset σ 219 11 0 i q = σ i q := fun i q i1 i2 => by
    by_cases h9 : i = 219
    · subst h9; exact mset_ne2 _ _ (fun e => i2 ⟨rfl, e⟩)
    · exact mset_ne1 _ _ h9
  obtain ⟨z1, a1, a2, a3⟩ := w_add (c := 115) t0 (by simp) (by omega)
  obtain ⟨z2, b1, b2, b3⟩ := w_add (c := 48 + k) a2 (by simp) (by omega)
  obtain ⟨z3, c1, c2, c3⟩ := w_add (c := 64) b2 (by simp) (by omega)
  obtain ⟨z4, d1, d2, d3⟩ := w_add (c := 48 + a (128 + k)) c2 (by simp) (by omega)
  have o3 : ∀ i q, i ≠ 225 → ¬ (i = 219 ∧ q = 11) → z3 i q = σ i q := fun i q i1 i2 => (c3 i q i1 i2).trans ((b3 i q i1 i2).trans ((a3 i q i1 i2).trans (o0 i q i1 i2)))
  have o4 : ∀ i q, i ≠ 225 → ¬ (i = 219 ∧ q = 11) → z4 i q = σ i q := fun i q i1 i2 => (d3 i q i1 i2).trans (o3 i q i1 i2)
  have r128 : z3 220 (128 + k) = nI (a (128 + k)) := (o3 _ _ (by decide) (by omega)).trans (hr (128 + k) (by omega) (by omega) (by omega) (by omega))
  have hL : sackL a k 0 = [] ++ [115] ++ [48 + k] ++ [64] ++ [48 + a (128 + k)] := by
    show [115] ++ numL k ++ [64] ++ numL (a (128 + k)) = _
    rw [num_d (show k < 10 by omega), num_d (show a (128 + k) < 10 by omega)]; rfl
  unfold f_X13_writeSack
  rw [(ss_ok hk).2, bd_s, if_neg (by decide), nm_s, show (115 : Int32) = nI 115 from rfl, a1, bd_s, show (48 : Int32) + nI k = nI (48 + k) from nI_al (k := 48) (by omega), b1, bd_s, show (64 : Int32) = nI 64 from rfl, c1, bd_s, show (128 : Int32) + nI k = nI (128 + k) from nI_al (k := 128) (by omega), nI_gi (by omega) (by omega), g_nIc (by omega), r128, show (48 : Int32) + nI (a (128 + k)) = nI (48 + a (128 + k)) from nI_al (k := 48) (by omega), d1, bd_s]
  refine Exists.elim (loop_mex (F := fun n i (y : gM) => f_X13_writeSack_L57 (nI k) n i y) (N := a 36) (I := fun i y => (∀ i q, i ≠ 225 → ¬ (i = 219 ∧ q = 11) → y i q = σ i q) ∧ txt y 219 11 225 (sackL a k i)) (Q := fun y => (∀ i q, i ≠ 225 → ¬ (i = 219 ∧ q = 11) → y i q = σ i q) ∧ txt y 219 11 225 (sackL a k (a 36))) (by omega) (fun n i y hi hI => Or.inr ?_) (fun n y hI => ?_) (s := z4) ⟨o4, by rw [hL]; exact d2⟩) ?_
  rotate_right
  · rintro z ⟨f1, f2, f3⟩
    refine ⟨z, ?_, f3, f2⟩
    rw [show f_X13_writeSack_L57 (nI k) gFU 0 z4 = some z from f1, bd_s, f3.1, f_X13_done, nm_s, bd2_s]
  · obtain ⟨s1, s2⟩ := hI
    obtain ⟨w1, w2, w3, w4, w5, w6⟩ := V.2.2.2.2.1 i hi
    have r36 : y 220 36 = nI (a 36) := (s1 _ _ (by decide) (by omega)).trans (hr 36 (by omega) (by omega) (by omega) (by omega))
    have r76 : y 220 (76 + i) = nI (a (76 + i)) := (s1 _ _ (by decide) (by omega)).trans (hr (76 + i) (by omega) (by omega) (by omega) (by omega))
    have r88 : y 220 (88 + i) = nI (a (88 + i)) := (s1 _ _ (by decide) (by omega)).trans (hr (88 + i) (by omega) (by omega) (by omega) (by omega))
    have hlen := sackL_len V hk i (by omega)
    have main : (a (76 + i) = 1 ∧ a (88 + i) = k) ∨ ¬ (a (76 + i) = 1 ∧ a (88 + i) = k) := Classical.em _
    rcases main with c | c
    · obtain ⟨y', g1, g2, g3⟩ := m_par hr V s1 s2 hi (by omega)
      refine ⟨y', ?_, g3, ?_⟩
      · show f_X13_writeSack_L57 (nI k) (n + 1) (nI i) y = f_X13_writeSack_L57 (nI k) n (nI (i + 1)) y'
        rw [f_X13_writeSack_L57, r36, if_neg (by rw [nI_leq (by omega) (by omega)]; omega), show (76 : Int32) + nI i = nI (76 + i) from nI_al (k := 76) (by omega), nI_gi (by omega) (by omega), g_nIc (by omega), r76, if_pos (by rw [nI_1', nI_inj (by omega) (by omega)]; exact c.1), show (88 : Int32) + nI i = nI (88 + i) from nI_al (k := 88) (by omega), nI_gi (by omega) (by omega), g_nIc (by omega), r88, if_pos (by rw [nI_inj (by omega) (by omega)]; exact c.2), g1, bd_s, nm_s, nI_s (by omega)]
      · rw [show sackL a k (i + 1) = sackL a k i ++ parL a i from if_pos c]; exact g2
    · refine ⟨y, ?_, s1, ?_⟩
      · show f_X13_writeSack_L57 (nI k) (n + 1) (nI i) y = f_X13_writeSack_L57 (nI k) n (nI (i + 1)) y
        rw [f_X13_writeSack_L57, r36, if_neg (by rw [nI_leq (by omega) (by omega)]; omega), show (76 : Int32) + nI i = nI (76 + i) from nI_al (k := 76) (by omega), nI_gi (by omega) (by omega), g_nIc (by omega), r76]
        by_cases c1 : a (76 + i) = 1
        · rw [if_pos (by rw [nI_1', nI_inj (by omega) (by omega)]; exact c1), show (88 : Int32) + nI i = nI (88 + i) from nI_al (k := 88) (by omega), nI_gi (by omega) (by omega), g_nIc (by omega), r88, if_neg (by rw [nI_inj (by omega) (by omega)]; exact fun q => c ⟨c1, q⟩), nm_s, nI_s (by omega)]
        · rw [if_neg (by rw [nI_1', nI_inj (by omega) (by omega)]; exact c1), nm_s, nI_s (by omega)]
      · rw [show sackL a k (i + 1) = sackL a k i from if_neg c]; exact s2
  · obtain ⟨s1, s2⟩ := hI
    have r36 : y 220 36 = nI (a 36) := (s1 _ _ (by decide) (by omega)).trans (hr 36 (by omega) (by omega) (by omega) (by omega))
    refine ⟨y, ?_, s1, s2⟩
    show f_X13_writeSack_L57 (nI k) (n + 1) (nI (a 36)) y = _
    rw [f_X13_writeSack_L57, r36, if_pos (by rw [nI_leq (by omega) (by omega)]; omega)]
theorem k_T_46 : turnOk f_T_46 := by
  intro σ lo dd a1 a2 a3 I
  obtain ⟨a, c, nx, R, N, Hh, Sv⟩ := id I
  have V := R.2.2
  have h12 : a 36 ≤ 12 := V.1
  unfold f_T_46 f_L_writeSack f_X12_writeSack
  by_cases h : vp_in a1 3
  · obtain ⟨k, hk, rfl⟩ := vp_ex h
    obtain ⟨z, p1, p2, p3⟩ := d_describe R.1 V hk
    have hrz : rowR (z 220) a := by rw [p3 220 (by decide) (by decide)]; exact R.2.1
    obtain ⟨y, q1, q2, q3⟩ := m_write hrz V hk
    have hlen := sackL_len V hk (a 36) (Nat.le_refl _)
    have o : ∀ i q, i ≠ 217 → i ≠ 218 → i ≠ 225 → ¬ (i = 219 ∧ (q = 11 ∨ q = 12)) → mset y 219 12 0 i q = σ i q := fun i q i1 i2 i3 i4 => by
      rw [thr (fun e => i4 ⟨e.1, Or.inr e.2⟩), q3 i q i3 (fun e => i4 ⟨e.1, Or.inl e.2⟩), p3 i i1 i2]
    refine ⟨mset y 219 12 0, (nI (sackL a k (a 36)).length).toInt64, dd, ?_, inv_mk R Hh Sv (fun i q hi => o i q (by omega) (by omega) (by omega) (by omega)) ?_⟩
    · rw [(ss_ok hk).1, bt_l, p1, bd2_s, bt2_l, bd4_s, q1, bd2_s, f_X13_thrown, mset_same, bd_s, if_pos rfl, if_pos rfl, lg_s, if_pos rfl]
    · obtain ⟨⟨n1, n2⟩, ⟨n3, n4⟩, ⟨t, t1, t2, t3, t4⟩, -⟩ := N
      refine ⟨⟨?_, ?_⟩, ⟨?_, ?_⟩, ⟨t, t1, ?_, ?_, fun j hj => ?_⟩, ⟨(sackL a k (a 36)).length, by omega, ?_, ?_, fun j hj => ?_⟩⟩
      · rw [o 0 7 (by omega) (by omega) (by omega) (by omega), o 219 8 (by omega) (by omega) (by omega) (by omega)]; exact n1
      · rw [o 0 7 (by omega) (by omega) (by omega) (by omega)]; exact n2
      · rw [o 0 8 (by omega) (by omega) (by omega) (by omega), o 219 9 (by omega) (by omega) (by omega) (by omega)]; exact n3
      · rw [o 0 8 (by omega) (by omega) (by omega) (by omega)]; exact n4
      · rw [o 204 2 (by omega) (by omega) (by omega) (by omega)]; exact t2
      · rw [o 219 7 (by omega) (by omega) (by omega) (by omega)]; exact t3
      · rw [o 205 j (by omega) (by omega) (by omega) (by omega), o 224 j (by omega) (by omega) (by omega) (by omega)]; exact t4 j hj
      · rw [mset_ne1 _ _ (by decide), q3 217 1 (by decide) (by omega)]; exact p2.1
      · rw [mset_ne2 _ _ (by decide)]; exact q2.1
      · have e1 : mset y 219 12 0 218 j = nI (gl (sackL a k (a 36)) j) := by rw [mset_ne1 _ _ (by decide), q3 218 j (by decide) (by omega)]; exact (p2.2 j hj).1
        have e2 : mset y 219 12 0 225 j = nI (gl (sackL a k (a 36)) j) := by rw [mset_ne1 _ _ (by decide)]; exact (q2.2 j hj).1
        rw [e1, e2]
        exact ⟨rfl, (ch_ok (p2.2 j hj).2).2⟩
  · refine inv_q I ⟨mset σ 219 12 1, lo, dd, ?_, eqv_m eqv.rf irr_t _⟩
    rw [(ss_no h).1, bt_r, bt2_r, if_pos rfl, bd4_s, f_X13_writeSack, (ss_no h).2, bd_s, if_pos rfl, f_X13_fails, nm_s, bd2_s, bd2_s, f_X13_thrown, mset_same, bd_s, if_pos rfl, if_neg (by decide)]
