/-! the questions about distances -/
theorem eqv_of {σ σ' : gM} (h : ∀ j, j ≠ 4 → j ≠ 5 → j ≠ 6 → j ≠ 226 → σ' j = σ j) : eqv σ σ' := fun i k hi => by
  rw [h i (fun e => hi (by unfold irr; omega)) (fun e => hi (by unfold irr; omega)) (fun e => hi (by unfold irr; omega)) (fun e => hi (by unfold irr; omega))]
theorem sp_ex {τ : gM} {a : Nat → Nat} (hR : rdsR τ a) : ∃ δ : Nat → Nat → Nat, ∀ i, i < 6 → spR a i (δ i) := by
  have h : ∀ i, ∃ d : Nat → Nat, i < 6 → spR a i d := fun i => by
    by_cases hi : i < 6
    · obtain ⟨_, d, _, _, h, _⟩ := e_measure hR hi
      exact ⟨d, fun _ => h⟩
    · exact ⟨fun _ => 0, fun q => absurd q hi⟩
  exact ⟨fun i => Classical.choose (h i), fun i hi => Classical.choose_spec (h i) hi⟩
theorem e_shortest {τ : gM} {a δ : Nat → Nat} (hR : rdsR τ a) {s v : Nat} (hs : s < 6) (hv : v < 6) (hδ : spR a s δ) : ∃ τ' : gM, f_X9_shortest τ (nI s) (nI v) = some (oD (δ v), τ') ∧ ∀ j, j ≠ 4 → j ≠ 5 → τ' j = τ j := by
  obtain ⟨τ', d, h1, h2, h3, h4⟩ := e_measure hR hs
  refine ⟨τ', ?_, h2⟩
  unfold f_X9_shortest
  rw [h1, bd_s, nI_gi (by omega) (by omega), g_nIc (by omega), h4 v hv, sp_uniq h3 hδ v hv]
theorem e_distanceOf {τ : gM} {a δ : Nat → Nat} (hr : rowR (τ 220) a) (ha : ∀ i j, i < 6 → j < 6 → a (6 * i + j) ≤ 20) {s v : Nat} (hs : s < 6) (hv : v < 6) (hδ : spR a s δ) : ∃ τ' : gM, f_X13_distanceOf τ (nI s) (nI v) = some (nI (δ v), τ') ∧ ∀ j, j ≠ 226 → τ' j = τ j := by
  obtain ⟨τ', h1, h2, h3⟩ := e_explore hr ha hs hδ
  refine ⟨τ', ?_, h2⟩
  unfold f_X13_distanceOf
  rw [h1, bd_s, nI_gi (by omega) (by omega), g_nIc (by omega), h3 v hv]
theorem nI_1000 {x : Nat} (h : x ≤ 4096) : (nI x = 1000) = (x = 1000) := by
  rw [show (1000 : Int32) = nI 1000 from rfl, nI_inj h (by omega)]
/-- the depot's answer x and the reference's are the same -/
theorem dist_core {σ σ5 : gM} {a δ : Nat → Nat} (R : nowR σ a) {i j : Nat} (hi : i < 6) (hj : j < 6) (hδ : spR a i δ) (h5 : ∀ x, x ≠ 4 → x ≠ 5 → x ≠ 6 → σ5 x = σ x) (lo : Int64) (dd : UInt64) : tOk σ (bd4 (bt2 (bt (f_X12_present σ5 (oD (δ j))) (fun r7 => some (Sum.inl (r7, σ5))) (fun n8 => some (.inr (n8, σ5)))) (fun r σ1 => some (0, σ1, r.toInt64, dd)) (fun n σ1 => if n = 0 then some (1, σ1, lo, dd) else if n = 4 then some (2, σ1, lo, dd) else none)) fun r1 σ2 lo3 dd4 => bd2 (f_X13_distance σ2 (nI i) (nI j)) fun r6 σ8 => bd (f_X13_thrown σ8) fun r9 => if r9 = r1 then if r1 = 0 then if (lg_cmp lo3 r6.toInt64) = 0 then some (σ8, lo3, dd4) else none else some (σ8, lo3, dd4) else none) := by
  have hr5 : rowR (σ5 220) a := by rw [h5 220 (by decide) (by decide) (by decide)]; exact R.2.1
  obtain ⟨τ, t1, t2⟩ := e_distanceOf hr5 (fun p q hp hq => (R.2.2.2.2.1 p q hp hq).1) hi hj hδ
  have hle := sp_le hδ hj
  have E : eqv σ τ := eqv_of (fun x x1 x2 x3 x4 => by rw [t2 x x4, h5 x x1 x2 x3])
  by_cases h : δ j = 1000
  · refine ⟨mset τ 219 12 2, lo, dd, ?_, eqv_m E irr_t _⟩
    rw [h, show oD 1000 = (-1 : Int32) from rfl, pr_no, bt_r, bt2_r, if_neg (by decide), if_pos rfl, bd4_s, f_X13_distance, (ls_ok hi).2, bd_s, if_neg (by decide), (ls_ok hj).2, bd_s, if_neg (by decide), t1, bd2_s, if_pos (by rw [nI_1000 (by omega)]; exact h), f_X13_fails, nm_s, bd2_s, bd2_s, f_X13_thrown, mset_same, bd_s, if_pos rfl, if_neg (by decide)]
  · refine ⟨mset τ 219 12 0, (nI (δ j)).toInt64, dd, ?_, eqv_m E irr_t _⟩
    rw [oD_n h, pr_ok (nI_ge0 (by omega)), bt_l, bt2_l, bd4_s, f_X13_distance, (ls_ok hi).2, bd_s, if_neg (by decide), (ls_ok hj).2, bd_s, if_neg (by decide), t1, bd2_s, if_neg (by rw [nI_1000 (by omega)]; exact h), f_X13_done, nm_s, bd2_s, bd2_s, f_X13_thrown, mset_same, bd_s, if_pos rfl, if_pos rfl, lg_s, if_pos rfl]
theorem q_distance {σ : gM} {a : Nat → Nat} (R : nowR σ a) (lo : Int64) (dd : UInt64) (a1 a2 a3 : Int32) : tOk σ (f_T_10 σ lo dd a1 a2 a3) := by
  unfold f_T_10 f_L_distance f_X12_distance f_X12_requirePlaces
  by_cases h : vp_in a1 6
  · obtain ⟨i, hi, rfl⟩ := vp_ex h
    by_cases h2 : vp_in a2 6
    · obtain ⟨j, hj, rfl⟩ := vp_ex h2
      have hR := rds_of R.1 R.2.2
      obtain ⟨δ, hδ⟩ := sp_ex hR
      obtain ⟨σ5, s1, s2⟩ := e_shortest hR hi hj (hδ i hi)
      rw [(ls_ok hi).1, bt_l, (ls_ok hj).1, bt_l, bt_l, s1, bd2_s]
      exact dist_core R hi hj (hδ i hi) (fun x x1 x2 _ => s2 x x1 x2) lo dd
    · refine ⟨mset σ 219 12 1, lo, dd, ?_, eqv_m eqv.rf irr_t _⟩
      rw [(ls_ok hi).1, bt_l, (ls_no h2).1, bt_r, bt_r, bt2_r, if_pos rfl, bd4_s, f_X13_distance, (ls_ok hi).2, bd_s, if_neg (by decide), (ls_no h2).2, bd_s, if_pos rfl, f_X13_fails, nm_s, bd2_s, bd2_s, f_X13_thrown, mset_same, bd_s, if_pos rfl, if_neg (by decide)]
  · refine ⟨mset σ 219 12 1, lo, dd, ?_, eqv_m eqv.rf irr_t _⟩
    rw [(ls_no h).1, bt_r, bt_r, bt2_r, if_pos rfl, bd4_s, f_X13_distance, (ls_no h).2, bd_s, if_pos rfl, f_X13_fails, nm_s, bd2_s, bd2_s, f_X13_thrown, mset_same, bd_s, if_pos rfl, if_neg (by decide)]
theorem bd2_re {X : Option (Int32 × gM)} : (bd2 X fun r2 σ3 => some (r2, σ3)) = X := by
  cases X <;> rfl
theorem q_distanceByRounds {σ : gM} {a : Nat → Nat} (R : nowR σ a) (lo : Int64) (dd : UInt64) (a1 a2 a3 : Int32) : tOk σ (f_T_11 σ lo dd a1 a2 a3) := by
  unfold f_T_11 f_L_distanceByRounds f_X12_distanceByRounds f_X12_requirePlaces f_X13_distanceByRounds
  simp only [bd2_re]
  by_cases h : vp_in a1 6
  · obtain ⟨i, hi, rfl⟩ := vp_ex h
    by_cases h2 : vp_in a2 6
    · obtain ⟨j, hj, rfl⟩ := vp_ex h2
      have hR := rds_of R.1 R.2.2
      obtain ⟨δ, hδ⟩ := sp_ex hR
      obtain ⟨σ5, s1, s2, s3⟩ := e_floyd hR hδ
      rw [(ls_ok hi).1, bt_l, (ls_ok hj).1, bt_l, bt_l, s1, bd_s, f_X9_measuredByRounds, ix36 hi hj, nI_gi (by omega) (by omega), g_nIc (by omega), s3 i j hi hj, bd_s]
      exact dist_core R hi hj (hδ i hi) (fun x _ _ x3 => s2 x x3) lo dd
    · refine ⟨mset σ 219 12 1, lo, dd, ?_, eqv_m eqv.rf irr_t _⟩
      rw [(ls_ok hi).1, bt_l, (ls_no h2).1, bt_r, bt_r, bt2_r, if_pos rfl, bd4_s, f_X13_distance, (ls_ok hi).2, bd_s, if_neg (by decide), (ls_no h2).2, bd_s, if_pos rfl, f_X13_fails, nm_s, bd2_s, bd2_s, f_X13_thrown, mset_same, bd_s, if_pos rfl, if_neg (by decide)]
  · refine ⟨mset σ 219 12 1, lo, dd, ?_, eqv_m eqv.rf irr_t _⟩
    rw [(ls_no h).1, bt_r, bt_r, bt2_r, if_pos rfl, bd4_s, f_X13_distance, (ls_no h).2, bd_s, if_pos rfl, f_X13_fails, nm_s, bd2_s, bd2_s, f_X13_thrown, mset_same, bd_s, if_pos rfl, if_neg (by decide)]
/-- the farthest of the first n -/
def fpN (δ : Nat → Nat) (s : Nat) : Nat → Nat
  | 0 => s
  | i + 1 => if δ i = 1000 then fpN δ s i else if δ i ≤ δ (fpN δ s i) then fpN δ s i else i
theorem fp_lt {δ : Nat → Nat} {s : Nat} (hs : s < 6) (h0 : δ s = 0) : ∀ n, n ≤ 6 → fpN δ s n < 6 ∧ δ (fpN δ s n) ≠ 1000
  | 0, _ => ⟨hs, by show δ s ≠ 1000; omega⟩
  | n + 1, h => by
    have ih := fp_lt hs h0 n (by omega)
    unfold fpN
    by_cases h1 : δ n = 1000
    · rw [if_pos h1]; exact ih
    · rw [if_neg h1]
      by_cases h2 : δ n ≤ δ (fpN δ s n)
      · rw [if_pos h2]; exact ih
      · rw [if_neg h2]; exact ⟨by omega, h1⟩
theorem q_farthestPlace {σ : gM} {a : Nat → Nat} (R : nowR σ a) (lo : Int64) (dd : UInt64) (a1 a2 a3 : Int32) : tOk σ (f_T_12 σ lo dd a1 a2 a3) := by
  unfold f_T_12 f_L_farthestPlace f_X12_farthestPlace
  by_cases h : vp_in a1 6
  · obtain ⟨s, hs, rfl⟩ := vp_ex h
    have hR := rds_of R.1 R.2.2
    obtain ⟨τ5, δ, s1, s2, hδ, s3⟩ := e_measure hR hs
    have hr5 : rowR (τ5 220) a := by rw [s2 220 (by decide) (by decide)]; exact R.2.1
    obtain ⟨τ, t1, t2, t3⟩ := e_explore hr5 (fun p q hp hq => (R.2.2.2.2.1 p q hp hq).1) hs hδ
    have E : eqv σ τ := eqv_of (fun x x1 x2 x3 x4 => by rw [t2 x x4, s2 x x1 x2])
    have eD : f_X9_farthestFrom_L9 τ5 gFU (nI s) 0 = some (nI (fpN δ s 6)) := by
      refine loop_val (F := fun n i v => f_X9_farthestFrom_L9 τ5 n v i) (N := 6) (val := fun i => nI (fpN δ s i)) (by omega) (fun n i hi => ?_) (fun n => ?_)
      · obtain ⟨k1, k2⟩ := fp_lt hs hδ.1 i (by omega)
        have b1 := sp_le hδ hi
        have b2 := sp_le hδ k1
        show f_X9_farthestFrom_L9 τ5 (n + 1) (nI (fpN δ s i)) (nI i) = f_X9_farthestFrom_L9 τ5 n (nI (if δ i = 1000 then fpN δ s i else if δ i ≤ δ (fpN δ s i) then fpN δ s i else i)) (nI (i + 1))
        rw [f_X9_farthestFrom_L9, show (6 : Int32) = nI 6 from rfl]
        simp (disch := omega) only [nI_leq, if_neg, nI_gi, g_nIc, nm_s, nI_s]
        rw [s3 i hi, s3 _ k1, oD_n k2]
        by_cases c1 : δ i = 1000
        · rw [if_pos c1, c1, if_pos (show oD 1000 ≤ nI (δ (fpN δ s i)) from Int32.le_trans (by decide : (-1 : Int32) ≤ 0) (nI_ge0 (by omega)))]
        · rw [if_neg c1, oD_n c1]
          simp (disch := omega) only [nI_leq]
          by_cases c2 : δ i ≤ δ (fpN δ s i)
          · rw [if_pos c2, if_pos c2]
          · rw [if_neg c2, if_neg c2]
      · show f_X9_farthestFrom_L9 τ5 (n + 1) (nI (fpN δ s 6)) (nI 6) = _
        rw [f_X9_farthestFrom_L9, if_pos (by decide)]
    have eM : f_X13_farthestPlace_L22 τ gFU (nI s) 0 = some (nI (fpN δ s 6)) := by
      refine loop_val (F := fun n i v => f_X13_farthestPlace_L22 τ n v i) (N := 6) (val := fun i => nI (fpN δ s i)) (by omega) (fun n i hi => ?_) (fun n => ?_)
      · obtain ⟨k1, k2⟩ := fp_lt hs hδ.1 i (by omega)
        have b1 := sp_le hδ hi
        have b2 := sp_le hδ k1
        show f_X13_farthestPlace_L22 τ (n + 1) (nI (fpN δ s i)) (nI i) = f_X13_farthestPlace_L22 τ n (nI (if δ i = 1000 then fpN δ s i else if δ i ≤ δ (fpN δ s i) then fpN δ s i else i)) (nI (i + 1))
        rw [f_X13_farthestPlace_L22, show (6 : Int32) = nI 6 from rfl]
        simp (disch := omega) only [nI_leq, if_neg, nI_gi, g_nIc, nm_s, nI_s]
        rw [t3 i hi, t3 _ k1, show (1000 : Int32) = nI 1000 from rfl]
        simp (disch := omega) only [nI_leq]
        by_cases c1 : δ i = 1000
        · rw [if_pos c1, if_pos (by omega)]
        · rw [if_neg c1, if_neg (by omega)]
          by_cases c2 : δ i ≤ δ (fpN δ s i)
          · rw [if_pos c2, if_pos c2]
          · rw [if_neg c2, if_neg c2]
      · show f_X13_farthestPlace_L22 τ (n + 1) (nI (fpN δ s 6)) (nI 6) = _
        rw [f_X13_farthestPlace_L22, if_pos (by decide)]
    refine ⟨mset τ 219 12 0, (nI (fpN δ s 6)).toInt64, dd, ?_, eqv_m E irr_t _⟩
    rw [(ls_ok hs).1, bt_l, f_X9_farthestFrom, s1, bd_s, eD, bd_s, bd2_s, bt2_l, bd4_s, f_X13_farthestPlace, (ls_ok hs).2, bd_s, if_neg (by decide), t1, bd_s, eM, bd_s, f_X13_done, nm_s, bd2_s, bd2_s, f_X13_thrown, mset_same, bd_s, if_pos rfl, if_pos rfl, lg_s, if_pos rfl]
  · refine ⟨mset σ 219 12 1, lo, dd, ?_, eqv_m eqv.rf irr_t _⟩
    rw [(ls_no h).1, bt_r, bt2_r, if_pos rfl, bd4_s, f_X13_farthestPlace, (ls_no h).2, bd_s, if_pos rfl, f_X13_fails, nm_s, bd2_s, bd2_s, f_X13_thrown, mset_same, bd_s, if_pos rfl, if_neg (by decide)]
theorem nI_mul0 {x y : Nat} (hx : x ≤ 4096) (hy : y ≤ 4096) : (0 : Int32) ≤ nI x * nI y := by
  have hxy : x * y ≤ 4096 * 4096 := Nat.mul_le_mul hx hy
  have e : (x : Int) * (y : Int) = ((x * y : Nat) : Int) := by simp
  rw [Int32.le_iff_toInt_le, Int32.toInt_mul, g_nIt hx, g_nIt hy, e, show (0 : Int32).toInt = 0 from rfl]
  unfold Int.bmod
  dsimp only
  split <;> omega
theorem nI_mul1 {x y : Nat} (hx : x ≤ 4096) (hy : y ≤ 4096) : ¬ nI x * nI y = -1 := fun h => by
  have := nI_mul0 hx hy
  rw [h] at this
  exact absurd this (by decide)
theorem q_effortTo {σ : gM} {a : Nat → Nat} (R : nowR σ a) (lo : Int64) (dd : UInt64) (a1 a2 a3 : Int32) : tOk σ (f_T_35 σ lo dd a1 a2 a3) := by
  unfold f_T_35 f_L_effortTo f_X12_effortTo
  by_cases h : vp_in a1 3
  · obtain ⟨k, hk, rfl⟩ := vp_ex h
    by_cases h2 : vp_in a2 6
    · obtain ⟨v, hv, rfl⟩ := vp_ex h2
      obtain ⟨p1, p2, p3, p4⟩ := R.2.2.2.2.2.2.2.2.2 k hk
      have hR := rds_of R.1 R.2.2
      obtain ⟨δs, hδs⟩ := sp_ex hR
      have hs : a (128 + k) < 6 := by omega
      have hδ := hδs _ hs
      generalize δs (a (128 + k)) = δ at hδ
      obtain ⟨σ5, s1, s2⟩ := e_shortest hR hs hv hδ
      have e17 : σ 17 k = nI (a (128 + k)) := (R.1.2.2.2.2.2.2.2.2 k hk).1
      have hr5 : rowR (σ5 220) a := by rw [s2 220 (by decide) (by decide)]; exact R.2.1
      have B5 : blkR σ5 0 (σ 220) a := blk_congr R.2.2.1 (fun o q h1 h2 h3 h4 => by rw [s2 _ (by omega) (by omega)]) (fun _ _ => rfl) R.1
      obtain ⟨τ, t1, t2⟩ := e_distanceOf hr5 (fun p q hp hq => (R.2.2.2.2.1 p q hp hq).1) hs hv hδ
      have hrt : rowR (τ 220) a := by rw [t2 220 (by decide)]; exact hr5
      have r128 := hr5 (128 + k) (by omega) (by omega) (by omega) (by omega)
      have hle := sp_le hδ hv
      have E : eqv σ τ := eqv_of (fun x x1 x2 x3 x4 => by rw [t2 x x4, s2 x x1 x2])
      by_cases hd : δ v = 1000
      · refine ⟨mset τ 219 12 2, lo, dd, ?_, eqv_m E irr_t _⟩
        rw [(ss_ok hk).1, bt_l, (ls_ok hv).1, bt_l, f_X3_effortOf, f_X11_placeOf, nI_gi (by omega) (by omega), g_nIc (by omega), e17, bd_s, s1, bd2_s, hd, if_pos (show oD 1000 = (-1 : Int32) from rfl), bd2_s, pr_no, bt_r, bt2_r, if_neg (by decide), if_pos rfl, bd4_s, f_X13_effortTo, (ss_ok hk).2, bd_s, if_neg (by decide), (ls_ok hv).2, bd_s, if_neg (by decide), show (128 : Int32) + nI k = nI (128 + k) from nI_al (k := 128) (by omega), nI_gi (by omega) (by omega), g_nIc (by omega), r128, t1, bd2_s, hd, if_pos (show nI 1000 = (1000 : Int32) from rfl), f_X13_fails, nm_s, bd2_s, bd2_s, f_X13_thrown, mset_same, bd_s, if_pos rfl, if_neg (by decide)]
      · refine ⟨mset τ 219 12 0, (nI (δ v) * nI (loadN a k)).toInt64, dd, ?_, eqv_m E irr_t _⟩
        rw [(ss_ok hk).1, bt_l, (ls_ok hv).1, bt_l, f_X3_effortOf, f_X11_placeOf, nI_gi (by omega) (by omega), g_nIc (by omega), e17, bd_s, s1, bd2_s, if_neg (by rw [oD_eq (by omega)]; exact hd), d_weightAt B5 R.2.2 (by omega), bd_s, bd2_s, oD_n hd, pr_ok (nI_mul0 (by omega) (by omega)), bt_l, bt2_l, bd4_s, f_X13_effortTo, (ss_ok hk).2, bd_s, if_neg (by decide), (ls_ok hv).2, bd_s, if_neg (by decide), show (128 : Int32) + nI k = nI (128 + k) from nI_al (k := 128) (by omega), nI_gi (by omega) (by omega), g_nIc (by omega), r128, t1, bd2_s, if_neg (by rw [nI_1000 (by omega)]; exact hd), m_loadOf hrt R.2.2 (by omega), bd_s, f_X13_done, nm_s, bd2_s, bd2_s, f_X13_thrown, mset_same, bd_s, if_pos rfl, if_pos rfl, lg_s, if_pos rfl]
    · refine ⟨mset σ 219 12 1, lo, dd, ?_, eqv_m eqv.rf irr_t _⟩
      rw [(ss_ok hk).1, bt_l, (ls_no h2).1, bt_r, bt2_r, if_pos rfl, bd4_s, f_X13_effortTo, (ss_ok hk).2, bd_s, if_neg (by decide), (ls_no h2).2, bd_s, if_pos rfl, f_X13_fails, nm_s, bd2_s, bd2_s, f_X13_thrown, mset_same, bd_s, if_pos rfl, if_neg (by decide)]
  · refine ⟨mset σ 219 12 1, lo, dd, ?_, eqv_m eqv.rf irr_t _⟩
    rw [(ss_no h).1, bt_r, bt2_r, if_pos rfl, bd4_s, f_X13_effortTo, (ss_no h).2, bd_s, if_pos rfl, f_X13_fails, nm_s, bd2_s, bd2_s, f_X13_thrown, mset_same, bd_s, if_pos rfl, if_neg (by decide)]
theorem k_T_10 : turnOk f_T_10 := turn_q (fun σ a R lo dd a1 a2 a3 => q_distance R lo dd a1 a2 a3)
theorem k_T_11 : turnOk f_T_11 := turn_q (fun σ a R lo dd a1 a2 a3 => q_distanceByRounds R lo dd a1 a2 a3)
theorem k_T_12 : turnOk f_T_12 := turn_q (fun σ a R lo dd a1 a2 a3 => q_farthestPlace R lo dd a1 a2 a3)
theorem k_T_35 : turnOk f_T_35 := turn_q (fun σ a R lo dd a1 a2 a3 => q_effortTo R lo dd a1 a2 a3)
