/-! a road is built -/
theorem sm_one {f g : Nat → Nat} {k : Nat} : ∀ {n : Nat}, k < n → (∀ i, i < n → i ≠ k → f i = g i) → f k = g k + 1 → sm f n = sm g n + 1
  | 0, h, _, _ => absurd h (Nat.not_lt_zero k)
  | n + 1, h, hf, hk => by
    show sm f n + f n = sm g n + g n + 1
    by_cases hn : n = k
    · subst hn
      rw [hk, sm_congr (fun i hi => hf i (by omega) (by omega))]
      omega
    · rw [sm_one (n := n) (k := k) (by omega) (fun i hi => hf i (by omega)) hk, hf n (by omega) hn]
      omega
theorem roadsN_one {a b : Nat → Nat} {i j : Nat} (hi : i < 6) (hij : j < i) (h0 : a (6 * i + j) = 0) (h1 : 0 < b (6 * i + j)) (hb : ∀ p q, p < 6 → q < p → ¬ (p = i ∧ q = j) → b (6 * p + q) = a (6 * p + q)) : roadsN b = roadsN a + 1 := by
  unfold roadsN
  refine sm_one (k := i) hi (fun p hp hpi => sm_congr (fun q hq => ?_)) (sm_one (k := j) hij (fun q hq hqj => ?_) ?_)
  · rw [hb p q hp hq (fun h => hpi h.1)]
  · rw [hb i q hi hq (fun h => hqj h.2)]
  · rw [if_pos h1, h0, if_neg (by omega)]
def rdA (a : Nat → Nat) (i j x : Nat) : Nat → Nat := pt (pt a (6 * i + j) x) (6 * j + i) x
theorem rdA_n {a : Nat → Nat} {i j x q : Nat} (h1 : q ≠ 6 * i + j) (h2 : q ≠ 6 * j + i) : rdA a i j x q = a q := (pt_n h2).trans (pt_n h1)
theorem rdA_1 {a : Nat → Nat} {i j x : Nat} : rdA a i j x (6 * i + j) = x := by
  by_cases h : 6 * i + j = 6 * j + i
  · unfold rdA; rw [h, pt_s]
  · exact (pt_n h).trans pt_s
theorem rdA_2 {a : Nat → Nat} {i j x : Nat} : rdA a i j x (6 * j + i) = x := pt_s
theorem rdA_roads {a : Nat → Nat} {i j x : Nat} (hi : i < 6) (hj : j < 6) (hij : i ≠ j) (h1 : a (6 * i + j) = 0) (h2 : a (6 * j + i) = 0) (hx : 1 ≤ x) : roadsN (rdA a i j x) = roadsN a + 1 := by
  by_cases h : j < i
  · exact roadsN_one hi h h1 (by rw [rdA_1]; omega) (fun p q hp hq hpq => rdA_n (by omega) (by omega))
  · exact roadsN_one (i := j) (j := i) hj (by omega) h2 (by rw [rdA_2]; omega) (fun p q hp hq hpq => rdA_n (by omega) (by omega))
theorem rd_V {e : Nat → Int32} {a : Nat → Nat} (V : vdR e a) {i j x : Nat} (hi : i < 6) (hj : j < 6) (hij : i ≠ j) (hx : x ≤ 20) : vdR e (rdA a i j x) := by
  have ha : ∀ q, 36 ≤ q → rdA a i j x q = a q := fun q hq => rdA_n (by omega) (by omega)
  obtain ⟨v1, v2, v3, v4, v5, v6, v7, v8⟩ := V
  refine ⟨by rw [ha 36 (by omega)]; exact v1, by rw [ha 37 (by omega)]; exact v2, fun p q hp hq => ?_, fun p hp => ?_, fun q hq => ?_, fun q q1 q2 => ?_, fun p hp => ?_, fun p hp => ?_⟩
  · by_cases h1 : p = i ∧ q = j
    · obtain ⟨rfl, rfl⟩ := h1
      rw [rdA_1, rdA_2]; exact ⟨hx, rfl⟩
    · by_cases h2 : p = j ∧ q = i
      · obtain ⟨rfl, rfl⟩ := h2
        rw [rdA_1, rdA_2]; exact ⟨hx, rfl⟩
      · rw [rdA_n (q := 6 * p + q) (by omega) (by omega), rdA_n (q := 6 * q + p) (by omega) (by omega)]; exact v3 p q hp hq
  · rw [rdA_n (by omega) (by omega)]; exact v4 p hp
  · rw [ha 36 (by omega)] at hq
    rw [ha (40 + q) (by omega), ha (52 + q) (by omega), ha (64 + q) (by omega), ha (76 + q) (by omega), ha (88 + q) (by omega)]; exact v5 q hq
  · rw [ha 36 (by omega)] at q1
    rw [ha (76 + q) (by omega), ha (88 + q) (by omega)]; exact v6 q q1 q2
  · rw [ha 37 (by omega)] at hp
    rw [ha (112 + p) (by omega), ha (120 + p) (by omega)]; exact v7 p hp
  · rw [ha (128 + p) (by omega), ha (131 + p) (by omega), loadN_congr (b := a) (ha 36 (by omega)) (fun q hq => ⟨ha _ (by omega), ha _ (by omega), ha _ (by omega)⟩) p]; exact v8 p hp
theorem rd_ok {e : Nat → Int32} {a : Nat → Nat} (V : vdR e a) {i j w : Nat} (hi : i < 6) (hj : j < 6) (hij : ¬ i = j) (w1 : 1 ≤ w) (w2 : w ≤ 20) (h0 : a (6 * i + j) = 0) : okD (fun τ => f_X3_joinPlaces τ (nI i) (nI j) (nI w)) e a (nI (roadsN a + 1)) e (rdA a i j w) ∧ vdR e (rdA a i j w) := by
  have x1 : ∀ τ, f_X12_isIndex τ (nI i) 6 = some 1 := fun τ => ix_ok (N := 6) hi (by omega)
  have x2 : ∀ τ, f_X12_isIndex τ (nI j) 6 = some 1 := fun τ => ix_ok (N := 6) hj (by omega)
  have hne : ¬ nI i = nI j := by rw [nI_inj (by omega) (by omega)]; exact hij
  have x3 : ∀ τ, f_X12_isWithin τ (nI w) 1 20 = some 1 := fun τ => wi_ok (lo := 1) (hi := 20) w1 w2 (by omega)
  obtain ⟨y1, y2⟩ := V.2.2.1 i j hi hj
  have hV := rd_V V hi hj hij w2
  have hN := rdA_roads hi hj hij h0 (by omega) w1
  have hle : roadsN a ≤ 36 := roadsN_le a 6 (by omega)
  refine ⟨fun τ B => ?_, hV⟩
  have b2 : τ 2 4 = nI (roadsN a) := B.2.1
  refine ⟨mset (mset (mset τ 3 (6 * i + j) (nI w)) 3 (6 * j + i) (nI w)) 2 4 (nI (roadsN a + 1)), ?_, fun k hk => ?_, ?_⟩
  · show f_X3_joinPlaces τ (nI i) (nI j) (nI w) = _
    unfold f_X3_joinPlaces
    rw [x1, bd_s, if_neg (by decide), x2, bd_s, if_neg (by decide), if_neg hne, (x3 _), bd_s, if_neg (by decide), e_joins (k := 0) B V hi hj, if_pos h0, bd_s, if_pos rfl, f_X9_join, ix36 hi hj, ix36 hj hi]
    simp (disch := omega) only [nI_gi, g_nIc, nm_s, mset_ne1, b2, nI_s, mset_same]
    rw [bd2_s]
  · funext q
    simp (disch := omega) only [mset_ne1]
  · obtain ⟨b1, -, b3, b4, b5, b6, b7, b8, b9⟩ := id B
    have ha : ∀ q, 36 ≤ q → rdA a i j w q = a q := fun q hq => rdA_n (by omega) (by omega)
    refine ⟨fun q hq => ?_, ?_, ?_, fun p hp => ?_, ?_, ?_, fun p hp => ?_, ?_, fun p hp => ?_⟩
    · show mset (mset (mset τ 3 (6 * i + j) (nI w)) 3 (6 * j + i) (nI w)) 2 4 (nI (roadsN a + 1)) 3 q = _
      rw [mset_ne1 _ _ (by decide)]
      by_cases e2 : q = 6 * j + i
      · subst e2; rw [mset_same, rdA_2]
      · rw [mset_ne2 _ _ e2]
        by_cases e1 : q = 6 * i + j
        · subst e1; rw [mset_same, rdA_1]
        · rw [mset_ne2 _ _ e1, rdA_n e1 e2]; exact b1 q hq
    · rw [hN]; exact mset_same _ _ _ _
    · rw [ha 36 (by omega)]; simp (disch := omega) only [mset_ne1]; exact b3
    · rw [ha 36 (by omega)] at hp
      rw [ha (40 + p) (by omega), ha (52 + p) (by omega), ha (64 + p) (by omega), ha (76 + p) (by omega), ha (88 + p) (by omega)]
      simp (disch := omega) only [mset_ne1]; exact b4 p hp
    · rw [ha 37 (by omega)]; simp (disch := omega) only [mset_ne1]; exact b5
    · simp (disch := omega) only [mset_ne1]; exact b6
    · rw [ha 37 (by omega)] at hp
      rw [ha (112 + p) (by omega), ha (120 + p) (by omega)]
      simp (disch := omega) only [mset_ne1]; exact b7 p hp
    · simp (disch := omega) only [mset_ne1]; exact b8
    · rw [ha (128 + p) (by omega), ha (131 + p) (by omega)]
      simp (disch := omega) only [mset_ne1]; exact b9 p hp
theorem rd_gP {a : Nat → Nat} {i j w : Nat} (hi : i < 6) (hj : j < 6) (w1 : 1 ≤ w) : gP a (rdA a i j w) := by
  refine ⟨fun q hq hp => ?_, Or.inl (rdA_n (by omega) (by omega))⟩
  by_cases h2 : q = 6 * j + i
  · rw [h2, rdA_2]; omega
  · by_cases h1 : q = 6 * i + j
    · rw [h1, rdA_1]; omega
    · rw [rdA_n h1 h2]; exact hp
theorem rd_chg (a1 a2 a3 : Int32) : chgD (fun τ => f_X3_joinPlaces τ a1 a2 a3) := by
  intro e a V
  by_cases h : vp_in a1 6
  · obtain ⟨i, hi, rfl⟩ := vp_ex h
    have x1 : ∀ τ, f_X12_isIndex τ (nI i) 6 = some 1 := fun τ => ix_ok (N := 6) hi (by omega)
    by_cases h2 : vp_in a2 6
    · obtain ⟨j, hj, rfl⟩ := vp_ex h2
      have x2 : ∀ τ, f_X12_isIndex τ (nI j) 6 = some 1 := fun τ => ix_ok (N := 6) hj (by omega)
      by_cases hij : i = j
      · subst hij
        refine Or.inr ⟨1, by omega, noD_i (fun τ B => ?_)⟩
        show f_X3_joinPlaces τ (nI i) (nI i) a3 = _
        unfold f_X3_joinPlaces
        rw [x1, bd_s, if_neg (by decide), bd_s, if_neg (by decide), if_pos rfl]; rfl
      · have hne : ¬ nI i = nI j := by rw [nI_inj (by omega) (by omega)]; exact hij
        rcases wi_no (x := a3) (lo := 1) (hi := 20) (by omega) (by omega) with ⟨w, w1, w2, rfl⟩ | hw
        · have x3 : ∀ τ, f_X12_isWithin τ (nI w) 1 20 = some 1 := fun τ => wi_ok (lo := 1) (hi := 20) w1 w2 (by omega)
          obtain ⟨y1, y2⟩ := V.2.2.1 i j hi hj
          have hle : roadsN a ≤ 36 := roadsN_le a 6 (by omega)
          by_cases h0 : a (6 * i + j) = 0
          · exact Or.inl ⟨_, _, _, nI_ge0 (by omega), (rd_ok V hi hj hij w1 w2 h0).1, (rd_ok V hi hj hij w1 w2 h0).2, rd_gP hi hj w1⟩
          · refine Or.inr ⟨2, by omega, noD_i (fun τ B => ?_)⟩
            show f_X3_joinPlaces τ (nI i) (nI j) (nI w) = _
            unfold f_X3_joinPlaces
            rw [x1, bd_s, if_neg (by decide), x2, bd_s, if_neg (by decide), if_neg hne, x3, bd_s, if_neg (by decide), e_joins (k := 0) B V hi hj, if_neg h0, bd_s, if_neg (by decide)]; rfl
        · refine Or.inr ⟨1, by omega, noD_i (fun τ B => ?_)⟩
          show f_X3_joinPlaces τ (nI i) (nI j) a3 = _
          unfold f_X3_joinPlaces
          rw [x1, bd_s, if_neg (by decide), x2, bd_s, if_neg (by decide), if_neg hne, show f_X12_isWithin τ a3 1 20 = _ from hw τ, bd_s, if_pos rfl]; rfl
    · refine Or.inr ⟨0, by omega, noD_i (fun τ B => ?_)⟩
      show f_X3_joinPlaces τ (nI i) a2 a3 = _
      unfold f_X3_joinPlaces
      rw [x1, bd_s, if_neg (by decide), show f_X12_isIndex τ a2 6 = _ from ix_no (N := 6) h2 (by omega), bd_s, if_pos rfl]; rfl
  · refine Or.inr ⟨0, by omega, noD_i (fun τ B => ?_)⟩
    show f_X3_joinPlaces τ a1 a2 a3 = _
    unfold f_X3_joinPlaces
    rw [show f_X12_isIndex τ a1 6 = _ from ix_no (N := 6) h (by omega), bd_s, if_pos rfl]; rfl
