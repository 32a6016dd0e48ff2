theorem cy_no1 {e : Nat → Int32} {a : Nat → Nat} (V : vdR e a) {k d : Nat} (hk : k < 3) (hd : d < 6) (hs : a (128 + k) = d) : noD (fun τ => f_X3_bring τ (nI k) (nI d)) e a 1 := by
  refine noD_i (fun τ B => ?_)
  have e17 : f_X11_placeOf τ (nI k) = some (nI (a (128 + k))) := by
    unfold f_X11_placeOf
    rw [nI_gi (by omega) (by omega), g_nIc (by omega), show τ 17 k = _ from (B.2.2.2.2.2.2.2.2 k hk).1]
  show f_X3_bring τ (nI k) (nI d) = _
  unfold f_X3_bring
  rw [sk_ok hk, bd_s, if_neg (by decide), show f_X12_isIndex τ (nI d) 6 = _ from ix_ok (N := 6) hd (by omega), bd_s, if_neg (by decide), e17, bd_s, hs, if_pos rfl]; rfl
theorem cy_no4 {e : Nat → Int32} {a δ : Nat → Nat} (V : vdR e a) {k d : Nat} (hk : k < 3) (hd : d < 6) (hs : ¬ a (128 + k) = d) (hδ : spR a (a (128 + k)) δ) (hinf : δ d = 1000) : noD (fun τ => f_X3_bring τ (nI k) (nI d)) e a 4 := by
  obtain ⟨v1, v2, v3, v4⟩ := V.2.2.2.2.2.2.2 k hk
  have hne : ¬ nI (a (128 + k)) = nI d := by rw [nI_inj (by omega) (by omega)]; exact hs
  intro τ B
  have e17 : f_X11_placeOf τ (nI k) = some (nI (a (128 + k))) := by
    unfold f_X11_placeOf
    rw [nI_gi (by omega) (by omega), g_nIc (by omega), show τ 17 k = _ from (B.2.2.2.2.2.2.2.2 k hk).1]
  obtain ⟨τ2, s1, s2⟩ := e_shortest (rds_of B V) (show a (128 + k) < 6 by omega) hd hδ
  refine ⟨τ2, ?_, fun i i4 i5 i6 => s2 i i4 i5⟩
  show f_X3_bring τ (nI k) (nI d) = _
  unfold f_X3_bring
  rw [sk_ok hk, bd_s, if_neg (by decide), show f_X12_isIndex τ (nI d) 6 = _ from ix_ok (N := 6) hd (by omega), bd_s, if_neg (by decide), e17, bd_s, if_neg hne, bd_s, s1, bd2_s, hinf, if_pos (show oD 1000 = (-1 : Int32) from rfl)]; rfl
theorem cy_ok {e : Nat → Int32} {a δ : Nat → Nat} (V : vdR e a) {k d : Nat} (hk : k < 3) (hd : d < 6) (hs : ¬ a (128 + k) = d) (hδ : spR a (a (128 + k)) δ) (hinf : ¬ δ d = 1000) : okD (fun τ => f_X3_bring τ (nI k) (nI d)) e a (nI (dvN a k d (a 36))) (pe e 38 (e 38 + nI (δ d) * nI (loadN a k))) (cyA a k d (a 36)) ∧ vdR (pe e 38 (e 38 + nI (δ d) * nI (loadN a k))) (cyA a k d (a 36)) := by
  have h12 : a 36 ≤ 12 := V.1
  obtain ⟨v1, v2, v3, v4⟩ := V.2.2.2.2.2.2.2 k hk
  have hle := sp_le hδ hd
  have x1 : ∀ τ, f_X12_isIndex τ (nI k) 3 = some 1 := fun τ => ix_ok (N := 3) hk (by omega)
  have x2 : ∀ τ, f_X12_isIndex τ (nI d) 6 = some 1 := fun τ => ix_ok (N := 6) hd (by omega)
  have hne : ¬ nI (a (128 + k)) = nI d := by rw [nI_inj (by omega) (by omega)]; exact hs
  have V2 := cy_V V hk (show d ≤ 5 by omega) (x := e 38 + nI (δ d) * nI (loadN a k))
  refine ⟨fun τ B => ?_, V2⟩
  have e17 : f_X11_placeOf τ (nI k) = some (nI (a (128 + k))) := by
    unfold f_X11_placeOf
    rw [nI_gi (by omega) (by omega), g_nIc (by omega), show τ 17 k = _ from (B.2.2.2.2.2.2.2.2 k hk).1]
  obtain ⟨τ2, s1, s2⟩ := e_shortest (rds_of B V) (show a (128 + k) < 6 by omega) hd hδ
  have B2 : blkR τ2 0 e a := blk_congr V.1 (fun o q h1 h2 h3 h4 => by rw [s2 _ (by omega) (by omega)]) (fun _ _ => rfl) B
  obtain ⟨b1, b2, b3, b4, b5, b6, b7, b8, b9⟩ := id B2
  have b8 : τ2 16 2 = e 38 := b8
  have b3 : τ2 7 5 = nI (a 36) := b3
  generalize hm : mset (mset τ2 17 k (nI d)) 16 2 (e 38 + nI (δ d) * nI (loadN a k)) = τ3
  have m3 : ∀ j, j ≠ 16 → j ≠ 17 → τ3 j = τ2 j := fun j j1 j2 => funext fun q => by rw [← hm, mset_ne1 _ _ j1, mset_ne1 _ _ j2]
  obtain ⟨τ4, d1, d2, d3⟩ := d_deliver (τ := τ3) V hk (show d ≤ 5 by omega) (by rw [m3 7 (by decide) (by decide)]; exact b3) (fun p hp => by rw [m3 11 (by decide) (by decide)]; exact (b4 p hp).2.2.2.1) (fun p hp => by rw [m3 10 (by decide) (by decide)]; exact (b4 p hp).2.2.1)
  refine ⟨τ4, ?_, fun i hi => ?_, ?_⟩
  · show f_X3_bring τ (nI k) (nI d) = _
    unfold f_X3_bring
    rw [x1, bd_s, if_neg (by decide), x2, bd_s, if_neg (by decide), e17, bd_s, if_neg hne, bd_s, s1, bd2_s, if_neg (by rw [oD_eq (by omega)]; exact hinf), d_weightAt B2 V (by omega), bd_s, oD_n hinf, f_X11_move, nI_gi (by omega) (by omega), g_nIc (by omega), nm_s, nm_s, bd_s, mset_ne1 _ _ (by decide), b8, hm, d1, bd2_s]
  · rw [d2 i (by omega), m3 i (by omega) (by omega), s2 i (by omega) (by omega)]
  · have n36 : cyA a k d (a 36) 36 = a 36 := cyA_n (by omega) (by omega) h12
    have ha : ∀ j, j < 76 ∨ (88 ≤ j ∧ j < 128) ∨ 131 ≤ j → cyA a k d (a 36) j = a j := fun j hj => cyA_n (by omega) (by omega) h12
    have o4 : ∀ j, j ≠ 11 → j ≠ 16 → j ≠ 17 → τ4 j = τ2 j := fun j j1 j2 j3 => (d2 j j1).trans (m3 j j2 j3)
    refine ⟨fun i hi => ?_, ?_, ?_, fun p hp => ?_, ?_, ?_, fun i hi => ?_, ?_, fun i hi => ?_⟩
    · rw [ha i (by omega), o4 _ (by omega) (by omega) (by omega)]; exact b1 i hi
    · rw [roadsN_congr (b := a) (fun j hj => ha j (by omega)), o4 _ (by omega) (by omega) (by omega)]; exact b2
    · rw [n36, o4 _ (by omega) (by omega) (by omega)]; exact b3
    · rw [n36] at hp
      obtain ⟨p1, p2, p3, p4, p5⟩ := b4 p hp
      rw [ha (40 + p) (by omega), ha (52 + p) (by omega), ha (64 + p) (by omega), ha (88 + p) (by omega), pe_n (by omega), o4 (1 + 18 * 0 + 7) (by omega) (by omega) (by omega), o4 (1 + 18 * 0 + 8) (by omega) (by omega) (by omega), o4 (1 + 18 * 0 + 9) (by omega) (by omega) (by omega), o4 (1 + 18 * 0 + 11) (by omega) (by omega) (by omega)]
      exact ⟨p1, p2, p3, d3 p hp, p5⟩
    · rw [ha 37 (by omega), o4 _ (by omega) (by omega) (by omega)]; exact b5
    · rw [pe_n (by omega), o4 _ (by omega) (by omega) (by omega)]; exact b6
    · rw [ha 37 (by omega)] at hi
      have h8 := V.2.1
      rw [ha (112 + i) (by omega), ha (120 + i) (by omega), o4 _ (by omega) (by omega) (by omega), o4 _ (by omega) (by omega) (by omega)]; exact b7 i hi
    · show τ4 16 2 = _
      rw [d2 16 (by decide), ← hm, mset_same, pe_s]
    · show τ4 17 i = _ ∧ τ4 18 i = _
      rw [d2 17 (by decide), d2 18 (by decide), m3 18 (by decide) (by decide), ha (131 + i) (by omega)]
      refine ⟨?_, (b9 i hi).2⟩
      rw [← hm, mset_ne1 _ _ (by decide)]
      by_cases c : i = k
      · subst c; rw [mset_same, cyA_k h12]
      · rw [mset_ne2 _ _ c, cyA_n (by omega) (by omega) h12]; exact (b9 i hi).1
theorem sp_rc {a δ : Nat → Nat} {s : Nat} (h : spR a s δ) : ∀ m v, v < 6 → δ v = m → m < 1000 → rcB a s v := by
  intro m
  induction m using Nat.strongRecOn with
  | _ m ih =>
    intro v hv hm hlt
    rcases h.2.2.1 v hv with e | e | ⟨u, hu, hw, e⟩
    · subst e; exact fun P p0 _ => p0
    · omega
    · have := ih (δ u) (by omega) u hu rfl (by omega)
      exact fun P p0 ps => ps u v hu hv hw (this P p0 ps)
theorem cy_gP {e : Nat → Int32} {a δ : Nat → Nat} (V : vdR e a) {k d : Nat} (hk : k < 3) (hd : d < 6) (hδ : spR a (a (128 + k)) δ) (hinf : ¬ δ d = 1000) : gP a (cyA a k d (a 36)) := by
  have h12 : a 36 ≤ 12 := V.1
  have hle := hδ.2.2.2 d hd
  refine ⟨fun j hj hp => by rw [cyA_n (by omega) (by omega) h12]; exact hp, ?_⟩
  by_cases hk0 : k = 0
  · subst hk0
    refine Or.inr ?_
    rw [show cyA a 0 d (a 36) 128 = d from cyA_k (k := 0) h12]
    exact sp_rc hδ (δ d) d hd rfl (by omega)
  · exact Or.inl (cyA_n (by omega) (by omega) h12)
theorem cy_chg (a1 a2 : Int32) : chgD (fun τ => f_X3_bring τ a1 a2) := by
  intro e a V
  have h12 : a 36 ≤ 12 := V.1
  by_cases h : vp_in a1 3
  · obtain ⟨k, hk, rfl⟩ := vp_ex h
    obtain ⟨v1, v2, v3, v4⟩ := V.2.2.2.2.2.2.2 k hk
    by_cases h2 : vp_in a2 6
    · obtain ⟨d, hd, rfl⟩ := vp_ex h2
      by_cases hs : a (128 + k) = d
      · exact Or.inr ⟨1, by omega, cy_no1 V hk hd hs⟩
      · have hR0 : rdsR (fun i j => if i = 3 then nI (a j) else 0) a := ⟨fun i hi => if_pos rfl, fun i j hi hj => (V.2.2.1 i j hi hj).1, V.2.2.2.1⟩
        obtain ⟨δs, hδs⟩ := sp_ex hR0
        have hδ := hδs (a (128 + k)) (by omega)
        by_cases hinf : δs (a (128 + k)) d = 1000
        · exact Or.inr ⟨4, by omega, cy_no4 V hk hd hs hδ hinf⟩
        · exact Or.inl ⟨_, _, _, nI_ge0 (by have := dvN_le (a := a) (k := k) (d := d) h12; omega), (cy_ok V hk hd hs hδ hinf).1, (cy_ok V hk hd hs hδ hinf).2, cy_gP V hk hd hδ hinf⟩
    · refine Or.inr ⟨0, by omega, noD_i (fun τ B => ?_)⟩
      show f_X3_bring τ (nI k) a2 = _
      unfold f_X3_bring
      rw [sk_ok hk, bd_s, if_neg (by decide), show f_X12_isIndex τ a2 6 = _ from ix_no (N := 6) h2 (by omega), bd_s, if_pos rfl]; rfl
  · refine Or.inr ⟨0, by omega, noD_i (fun τ B => ?_)⟩
    show f_X3_bring τ a1 a2 = _
    unfold f_X3_bring
    rw [show f_X12_isIndex τ a1 3 = _ from ix_no (N := 3) h (by omega), bd_s, if_pos rfl]; rfl
