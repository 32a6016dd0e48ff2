theorem nI_mul {k i : Nat} (hk : k ≤ 4096) (hi : i ≤ 4096) (h : k * i ≤ 4096) : nI k * nI i = nI (k * i) := by
  apply g_toInt_inj
  rw [Int32.toInt_mul, g_nIt hk, g_nIt hi, g_nIt h]
  have e : (k : Int) * (i : Int) = ((k * i : Nat) : Int) := by simp
  rw [e]
  unfold Int.bmod
  dsimp only
  split <;> omega
theorem ix36 {i j : Nat} (hi : i < 6) (hj : j < 6) : (nI i * 6) + nI j = nI (6 * i + j) := by
  rw [show (6 : Int32) = nI 6 from rfl, nI_mul (by omega) (by omega) (by omega), nI_al (by omega), Nat.mul_comm i 6]
theorem ixr {i j : Nat} (hi : i < 6) (hj : j < 6) : ((0 : Int32) + ((6 : Int32) * nI i)) + nI j = nI (6 * i + j) := by
  rw [show (6 : Int32) = nI 6 from rfl, nI_mul (by omega) (by omega) (by omega), show (0 : Int32) = nI 0 from rfl, nI_al (by omega), nI_al (by omega), Nat.zero_add]
theorem e_road {σ : gM} {a : Nat → Nat} (hr : rowR (σ 220) a) {i j : Nat} (hi : i < 6) (hj : j < 6) : f_X13_road σ (nI i) (nI j) = some (nI (a (6 * i + j))) := by
  unfold f_X13_road
  rw [ixr hi hj, nI_gi (by omega) (by omega), g_nIc (by omega), hr _ (by omega) (by omega) (by omega) (by omega)]
theorem ls_no {σ : gM} {x : Int32} (h : ¬ vp_in x 6) : f_X12_requireIndex σ x 6 = some (.inr 0) ∧ f_X13_isPlace σ x = some 0 := by
  refine ⟨rq_no (N := 6) h (by omega), ?_⟩
  unfold f_X13_isPlace
  rw [show f_X13_in σ x 0 5 = _ from in_no (N := 6) h (by omega)]; rfl
theorem ls_ok {σ : gM} {j : Nat} (h : j < 6) : f_X12_requireIndex σ (nI j) 6 = some (.inl ()) ∧ f_X13_isPlace σ (nI j) = some 1 := by
  refine ⟨rq_ok (N := 6) h (by omega), ?_⟩
  unfold f_X13_isPlace
  rw [show f_X13_in σ (nI j) 0 5 = _ from in_ok (N := 6) h (by omega)]; rfl
theorem e_joins {σ : gM} {k : Nat} {r : Nat → Int32} {a : Nat → Nat} (B : blkR σ 0 r a) (hv : vdR r a) {i j : Nat} (hi : i < 6) (hj : j < 6) : f_X9_joins σ (nI i) (nI j) = some (if a (6 * i + j) = 0 then 0 else 1) := by
  have hb := (hv.2.2.1 i j hi hj).1
  unfold f_X9_joins
  rw [ix36 hi hj, nI_gi (by omega) (by omega), g_nIc (by omega), show σ 3 (6 * i + j) = _ from B.1 (6 * i + j) (by omega), show (0 : Int32) = nI 0 from rfl]
  simp (disch := omega) only [nI_leq]
  by_cases h : a (6 * i + j) = 0
  · rw [if_pos h, if_pos (by omega)]
  · rw [if_neg h, if_neg (by omega)]
theorem e_length {σ : gM} {r : Nat → Int32} {a : Nat → Nat} (B : blkR σ 0 r a) (hv : vdR r a) {i j : Nat} (hi : i < 6) (hj : j < 6) : f_X9_lengthBetween σ (nI i) (nI j) = some (if a (6 * i + j) = 0 then -1 else nI (a (6 * i + j))) := by
  unfold f_X9_lengthBetween
  rw [e_joins (k := 0) B hv hi hj, bd_s]
  by_cases h : a (6 * i + j) = 0
  · rw [if_pos h, if_pos rfl, if_pos h]
  · rw [if_neg h, if_neg (by decide), if_neg h, ix36 hi hj, nI_gi (by omega) (by omega), g_nIc (by omega), show σ 3 (6 * i + j) = _ from B.1 (6 * i + j) (by omega)]
theorem q_roadLength {σ : gM} {a : Nat → Nat} (R : nowR σ a) (lo : Int64) (dd : UInt64) (a1 a2 a3 : Int32) : tOk σ (f_T_9 σ lo dd a1 a2 a3) := by
  unfold f_T_9 f_L_roadLength f_X12_roadLength f_X13_roadLength f_X12_requirePlaces
  by_cases h : vp_in a1 6
  · obtain ⟨i, hi, rfl⟩ := vp_ex h
    by_cases h2 : vp_in a2 6
    · obtain ⟨j, hj, rfl⟩ := vp_ex h2
      have hb := (R.2.2.2.2.1 i j hi hj).1
      by_cases h0 : a (6 * i + j) = 0
      · refine ⟨mset σ 219 12 2, lo, dd, ?_, eqv_m eqv.rf irr_t _⟩
        rw [(ls_ok hi).1, bt_l, (ls_ok hj).1, bt_l, bt_l, e_length R.1 R.2.2 hi hj, if_pos h0, bd_s, pr_no, bt_r, bt_r, if_neg (by decide), if_pos rfl, bd4_s, (ls_ok hi).2, bd_s, if_neg (by decide), (ls_ok hj).2, bd_s, if_neg (by decide), e_road R.2.1 hi hj, bd_s, h0, if_pos (show nI 0 = (0 : Int32) from rfl), f_X13_fails, nm_s, bd2_s, bd2_s, f_X13_thrown, mset_same, bd_s, if_pos rfl, if_neg (by decide)]
      · have hz : ¬ nI (a (6 * i + j)) = (0 : Int32) := by
          rw [show (0 : Int32) = nI 0 from rfl, nI_inj (by omega) (by omega)]; exact h0
        refine ⟨mset σ 219 12 0, (nI (a (6 * i + j))).toInt64, dd, ?_, eqv_m eqv.rf irr_t _⟩
        rw [(ls_ok hi).1, bt_l, (ls_ok hj).1, bt_l, bt_l, e_length R.1 R.2.2 hi hj, if_neg h0, bd_s, pr_ok (nI_ge0 (j := a (6 * i + j)) (by omega)), bt_l, bt_l, bd4_s, (ls_ok hi).2, bd_s, if_neg (by decide), (ls_ok hj).2, bd_s, if_neg (by decide), e_road R.2.1 hi hj, bd_s, if_neg hz, bd_s, f_X13_done, nm_s, bd2_s, bd2_s, f_X13_thrown, mset_same, bd_s, if_pos rfl, if_pos rfl, lg_s, if_pos rfl]
    · refine ⟨mset σ 219 12 1, lo, dd, ?_, eqv_m eqv.rf irr_t _⟩
      rw [(ls_ok hi).1, bt_l, (ls_no h2).1, bt_r, bt_r, bt_r, if_pos rfl, bd4_s, (ls_ok hi).2, bd_s, if_neg (by decide), (ls_no h2).2, bd_s, if_pos rfl, f_X13_fails, nm_s, bd2_s, bd2_s, f_X13_thrown, mset_same, bd_s, if_pos rfl, if_neg (by decide)]
  · refine ⟨mset σ 219 12 1, lo, dd, ?_, eqv_m eqv.rf irr_t _⟩
    rw [(ls_no h).1, bt_r, bt_r, bt_r, if_pos rfl, bd4_s, (ls_no h).2, bd_s, if_pos rfl, f_X13_fails, nm_s, bd2_s, bd2_s, f_X13_thrown, mset_same, bd_s, if_pos rfl, if_neg (by decide)]
theorem roadsN_le (a : Nat → Nat) : ∀ n, n ≤ 6 → sm (fun i => sm (fun j => if 0 < a (6 * i + j) then 1 else 0) i) n ≤ 36 := by
  intro n hn
  refine Nat.le_trans (sm_le (B := 6) (fun i hi => ?_)) (by omega)
  exact Nat.le_trans (sm_le (B := 1) (fun j hj => by split <;> omega)) (by omega)
theorem e_roads12 {σ : gM} {r : Nat → Int32} {a : Nat → Nat} (hr : rowR (σ 220) a) (hv : vdR r a) {i : Nat} (hi : i < 6) {v0 : Nat} (h0 : v0 ≤ 100) : f_X13_roads_L12 (nI i) σ gFU (nI v0) 0 = some (nI (v0 + sm (fun j => if 0 < a (6 * i + j) then 1 else 0) i)) := by
  have hb : ∀ n, n ≤ i → sm (fun j => if 0 < a (6 * i + j) then 1 else 0) n ≤ 6 := fun n hn => Nat.le_trans (sm_le (B := 1) (fun j hj => by split <;> omega)) (by omega)
  refine loop_val (F := fun n j v => f_X13_roads_L12 (nI i) σ n v j) (N := i) (val := fun n => nI (v0 + sm (fun j => if 0 < a (6 * i + j) then 1 else 0) n)) (by omega) (fun n j hj => ?_) (fun n => ?_)
  · show f_X13_roads_L12 (nI i) σ (n + 1) (nI (v0 + sm _ j)) (nI j) = f_X13_roads_L12 (nI i) σ n (nI (v0 + sm _ (j + 1))) (nI (j + 1))
    have h1 := hb j (by omega)
    have h2 := (hv.2.2.1 i j hi (by omega)).1
    rw [f_X13_roads_L12, if_neg (by rw [nI_leq (by omega) (by omega)]; omega), e_road hr hi (by omega), bd_s, show (0 : Int32) = nI 0 from rfl]
    simp (disch := omega) only [nI_leq, nm_s, nI_s]
    show _ = f_X13_roads_L12 (nI i) σ n (nI (v0 + (sm (fun j => if 0 < a (6 * i + j) then 1 else 0) j + if 0 < a (6 * i + j) then 1 else 0))) (nI (j + 1))
    by_cases h3 : 0 < a (6 * i + j)
    · rw [if_neg (by omega), if_pos h3]; rfl
    · rw [if_pos (by omega), if_neg h3, nI_add0]; rfl
  · show f_X13_roads_L12 (nI i) σ (n + 1) (nI (v0 + sm _ i)) (nI i) = _
    rw [f_X13_roads_L12, if_pos (by rw [nI_leq (by omega) (by omega)]; omega)]
theorem e_roads {σ : gM} {r : Nat → Int32} {a : Nat → Nat} (hr : rowR (σ 220) a) (hv : vdR r a) : f_X13_roads σ = some (nI (roadsN a)) := by
  unfold f_X13_roads
  rw [show f_X13_roads_L4 σ gFU 0 0 = some (nI (roadsN a)) from
    loop_val (F := fun n j v => f_X13_roads_L4 σ n v j) (N := 6) (val := fun n => nI (sm (fun i => sm (fun j => if 0 < a (6 * i + j) then 1 else 0) i) n)) (by omega) (fun n i hi => ?_) (fun n => ?_)]
  · rfl
  · show f_X13_roads_L4 σ (n + 1) (nI (sm _ i)) (nI i) = f_X13_roads_L4 σ n (nI (sm _ (i + 1))) (nI (i + 1))
    have h1 := roadsN_le a i (by omega)
    rw [f_X13_roads_L4, if_neg (by rw [show (6 : Int32) = nI 6 from rfl, nI_leq (by omega) (by omega)]; omega), e_roads12 hr hv hi (by omega), bd_s, nm_s, nI_s (by omega)]
    rfl
  · show f_X13_roads_L4 σ (n + 1) (nI (sm _ 6)) (nI 6) = _
    rw [f_X13_roads_L4, if_pos (by decide)]; rfl
theorem q_roadCount {σ : gM} {a : Nat → Nat} (R : nowR σ a) (lo : Int64) (dd : UInt64) (a1 a2 a3 : Int32) : tOk σ (f_T_8 σ lo dd a1 a2 a3) := by
  unfold f_T_8 f_X12_roadCount f_X13_roadCount f_X9_size f_X13_done
  refine ⟨mset σ 219 12 0, lo, dd, ?_, eqv_m eqv.rf irr_t _⟩
  rw [bd_s, bd_s, e_roads R.2.1 R.2.2, bd_s, nm_s, bd2_s, bd2_s, show σ 2 4 = _ from R.1.2.1, if_pos rfl]
