/-! a change that is right on both sides: done on both, or refused on both -/
theorem noD_i {D : gM → Option (Int32 × gM)} {e : Nat → Int32} {a : Nat → Nat} {n : Nat} (h : ∀ τ, blkR τ 0 e a → D τ = some (-2 - nI n, τ)) : noD D e a n := fun τ B => ⟨τ, h τ B, fun _ _ _ _ => rfl⟩
theorem d_size {τ : gM} {e : Nat → Int32} {a : Nat → Nat} (B : blkR τ 0 e a) : f_X8_size τ = some (nI (a 36)) := by
  unfold f_X8_size
  rw [show τ 7 5 = _ from B.2.2.1]
/-- the parcels of a block are changed, nothing else -/
theorem blk_par {τ τ2 : gM} {e e2 : Nat → Int32} {a a2 : Nat → Nat} (B : blkR τ 0 e a) (h : ∀ i, i < 7 ∨ 12 < i → τ2 i = τ i) (h5 : τ2 7 5 = nI (a2 36)) (ha : ∀ j, j < 36 ∨ j = 37 ∨ 112 ≤ j → a2 j = a j) (he : e2 38 = e 38 ∧ e2 39 = e 39) (hM : a 37 ≤ 8)
    (hp : ∀ p, p < a2 36 → τ2 8 p = nI (a2 (40 + p)) ∧ τ2 9 p = nI (a2 (52 + p)) ∧ τ2 10 p = nI (a2 (64 + p)) ∧ τ2 11 p = wh (a2 (76 + p)) (a2 (88 + p)) ∧ τ2 12 p = e2 (100 + p)) : blkR τ2 0 e2 a2 := by
  obtain ⟨b1, b2, b3, b4, b5, b6, b7, b8, b9⟩ := B
  refine ⟨fun i hi => ?_, ?_, h5, hp, ?_, ?_, fun i hi => ?_, ?_, fun i hi => ?_⟩
  · rw [ha i (by omega), h _ (by omega)]; exact b1 i hi
  · rw [roadsN_congr (b := a) (fun j hj => ha j (by omega)), h _ (by omega)]; exact b2
  · rw [ha 37 (by omega), h _ (by omega)]; exact b5
  · rw [he.2, h _ (by omega)]; exact b6
  · rw [ha 37 (by omega)] at hi
    rw [ha (112 + i) (by omega), ha (120 + i) (by omega), h _ (by omega), h _ (by omega)]; exact b7 i hi
  · rw [he.1, h _ (by omega)]; exact b8
  · rw [ha (128 + i) (by omega), ha (131 + i) (by omega), h _ (by omega), h _ (by omega)]; exact b9 i hi

theorem sk_ok {τ : gM} {k : Nat} (h : k < 3) : f_X12_isIndex τ (nI k) 3 = some 1 := ix_ok (N := 3) h (by omega)
theorem sk_no {τ : gM} {x : Int32} (h : ¬ vp_in x 3) : f_X12_isIndex τ x 3 = some 0 := ix_no (N := 3) h (by omega)
theorem cap_ok {e : Nat → Int32} {a : Nat → Nat} (V : vdR e a) {k q : Nat} (hk : k < 3) (h1 : 1 ≤ q) (h2 : q ≤ 60) (hl : loadN a k ≤ q) :
    okD (fun τ => f_X3_changeCapacity τ (nI k) (nI q)) e a (nI (a (131 + k))) e (pt a (131 + k) q) ∧ vdR e (pt a (131 + k) q) := by
  have hll : loadN a k ≤ 4096 := by omega
  have n36 : pt a (131 + k) q 36 = a 36 := pt_n (by omega)
  have n37 : pt a (131 + k) q 37 = a 37 := pt_n (by omega)
  obtain ⟨v1, v2, v3, v4, v5, v6, v7, v8⟩ := id V
  refine ⟨fun τ B => ?_, ⟨by omega, by omega, fun i j hi hj => ?_, fun i hi => ?_, fun p hp => ?_, fun p p1 p2 => ?_, fun i hi => ?_, fun i hi => ?_⟩⟩
  · obtain ⟨b1, b2, b3, b4, b5, b6, b7, b8, b9⟩ := id B
    refine ⟨mset τ 18 k (nI q), ?_, fun i hi => funext fun z => mset_ne1 _ _ (by omega), ?_⟩
    · show f_X3_changeCapacity τ (nI k) (nI q) = _
      unfold f_X3_changeCapacity
      rw [(sk_ok hk), bd_s, if_neg (by decide), show f_X12_isWithin τ (nI q) 1 60 = _ from (wi_ok (lo := 1) (hi := 60) h1 h2 (by omega)), bd_s, if_neg (by decide), d_weightAt B V (by omega), bd_s, if_pos (by rw [nI_leq hll (by omega)]; exact hl), f_X11_resize, nI_gi (by omega) (by omega), g_nIc (by omega), nm_s, nI_gi (by omega) (by omega), nm_s, bd2_s, show τ 18 k = _ from (b9 k hk).2]
    · have rd : ∀ i z, i ≠ 18 → mset τ 18 k (nI q) i z = τ i z := fun i z hi => mset_ne1 _ _ hi
      refine ⟨fun i hi => ?_, ?_, ?_, fun p hp => ?_, ?_, ?_, fun i hi => ?_, ?_, fun i hi => ?_⟩
      · rw [pt_n (by omega)]; exact (rd 3 i (by decide)).trans (b1 i hi)
      · rw [roadsN_congr (b := a) (fun j hj => pt_n (by omega))]; exact (rd 2 4 (by decide)).trans b2
      · rw [n36]; exact (rd 7 5 (by decide)).trans b3
      · rw [n36] at hp
        obtain ⟨p1, p2, p3, p4, p5⟩ := b4 p hp
        rw [pt_n (by omega), pt_n (by omega), pt_n (by omega), pt_n (by omega), pt_n (by omega)]
        exact ⟨(rd 8 p (by decide)).trans p1, (rd 9 p (by decide)).trans p2, (rd 10 p (by decide)).trans p3, (rd 11 p (by decide)).trans p4, (rd 12 p (by decide)).trans p5⟩
      · rw [n37]; exact (rd 13 2 (by decide)).trans b5
      · exact (rd 13 3 (by decide)).trans b6
      · rw [n37] at hi
        rw [pt_n (by omega), pt_n (by omega)]
        exact ⟨(rd 14 i (by decide)).trans (b7 i hi).1, (rd 15 i (by decide)).trans (b7 i hi).2⟩
      · exact (rd 16 2 (by decide)).trans b8
      · rw [pt_n (by omega)]
        refine ⟨(rd 17 i (by decide)).trans (b9 i hi).1, ?_⟩
        by_cases hik : i = k
        · subst hik
          rw [pt_s]; exact mset_same _ _ _ _
        · rw [pt_n (by omega)]; exact (mset_ne2 _ _ hik).trans (b9 i hi).2
  · rw [pt_n (by omega), pt_n (by omega)]; exact v3 i j hi hj
  · rw [pt_n (by omega)]; exact v4 i hi
  · rw [n36] at hp
    rw [pt_n (by omega), pt_n (by omega), pt_n (by omega), pt_n (by omega), pt_n (by omega)]; exact v5 p hp
  · rw [n36] at p1
    rw [pt_n (by omega), pt_n (by omega)]; exact v6 p p1 p2
  · rw [n37] at hi
    rw [pt_n (by omega), pt_n (by omega)]; exact v7 i hi
  · rw [pt_n (by omega), loadN_congr (b := a) n36 (fun p hp => ⟨pt_n (by omega), pt_n (by omega), pt_n (by omega)⟩) i]
    by_cases hik : i = k
    · subst hik
      rw [pt_s]; exact ⟨(v8 i hi).1, h1, h2, hl⟩
    · rw [pt_n (by omega)]; exact v8 i hi
theorem cap_no2 {e : Nat → Int32} {a : Nat → Nat} (V : vdR e a) {k q : Nat} (hk : k < 3) (w1 : 1 ≤ q) (w2 : q ≤ 60) (hl : ¬ loadN a k ≤ q) : noD (fun τ => f_X3_changeCapacity τ (nI k) (nI q)) e a 2 := by
  have hb := (V.2.2.2.2.2.2.2 k hk).2.2
  refine noD_i (fun τ B => ?_)
  show f_X3_changeCapacity τ (nI k) (nI q) = _
  unfold f_X3_changeCapacity
  rw [sk_ok hk, bd_s, if_neg (by decide), show f_X12_isWithin τ (nI q) 1 60 = _ from wi_ok (lo := 1) (hi := 60) w1 w2 (by omega), bd_s, if_neg (by decide), d_weightAt B V (by omega), bd_s, if_neg (by rw [nI_leq (by omega) (by omega)]; exact hl)]; rfl
theorem cap_chg (a1 a2 : Int32) : chgD (fun τ => f_X3_changeCapacity τ a1 a2) := by
  intro e a V
  by_cases h : vp_in a1 3
  · obtain ⟨k, hk, rfl⟩ := vp_ex h
    rcases wi_no (x := a2) (lo := 1) (hi := 60) (by omega) (by omega) with ⟨q, w1, w2, rfl⟩ | hw
    · have hb := (V.2.2.2.2.2.2.2 k hk).2.2
      by_cases hl : loadN a k ≤ q
      · obtain ⟨c1, c3⟩ := cap_ok V hk w1 w2 hl
        exact Or.inl ⟨_, _, _, nI_ge0 (j := a (131 + k)) (by omega), c1, c3, gP_of (fun j hj => pt_n (by omega))⟩
      · exact Or.inr ⟨2, by omega, cap_no2 V hk w1 w2 hl⟩
    · refine Or.inr ⟨1, by omega, noD_i (fun τ B => ?_)⟩
      show f_X3_changeCapacity τ (nI k) a2 = _
      unfold f_X3_changeCapacity
      rw [sk_ok hk, bd_s, if_neg (by decide), show f_X12_isWithin τ a2 1 60 = _ from hw τ, bd_s, if_pos rfl]; rfl
  · refine Or.inr ⟨0, by omega, noD_i (fun τ B => ?_)⟩
    show f_X3_changeCapacity τ a1 a2 = _
    unfold f_X3_changeCapacity
    rw [sk_no h, bd_s, if_pos rfl]; rfl
