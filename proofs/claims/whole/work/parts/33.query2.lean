theorem e_countAt {σ : gM} {a : Nat → Nat} (R : nowR σ a) {w : Int32} {P : Nat → Prop} [DecidablePred P] (hP : ∀ p, p < a 36 → (wh (a (76 + p)) (a (88 + p)) = w) = P p) : f_X8_countAt σ w = some (nI (sm (fun p => if P p then 1 else 0) (a 36))) := by
  obtain ⟨⟨-, -, hn, hp, -⟩, -, ⟨v1, -, -, -, v5, -⟩⟩ := R
  unfold f_X8_countAt
  rw [show f_X8_countAt_L4 w σ gFU 0 0 = some (nI (sm (fun p => if P p then 1 else 0) (a 36))) from
    loop_sum (F := fun n i v => f_X8_countAt_L4 w σ n v i) (fin := fun v => v) (by omega) (Nat.le_trans (sm_le (B := 1) (fun i hi => ?_)) (by omega)) (fun n i v hi => ?_) (fun n v => ?_)]
  · rfl
  · split <;> omega
  · obtain ⟨p1, p2, p3, p4, p5⟩ := hp i hi
    rw [f_X8_countAt_L4, show σ 7 5 = nI (a 36) from hn]
    simp (disch := omega) only [nI_leq, if_neg, nI_gi, g_nIc, nm_s, nI_s]
    rw [show σ 11 i = _ from p4]
    simp only [hP i hi]
    by_cases hc : P i
    · rw [if_pos hc, if_pos hc]; rfl
    · rw [if_neg hc, if_neg hc, nI_add0]
  · rw [f_X8_countAt_L4, show σ 7 5 = nI (a 36) from hn, if_pos (by rw [nI_leq (by omega) (by omega)]; omega)]
theorem e_inState {σ : gM} {r : Nat → Int32} {a : Nat → Nat} (hr : rowR (σ 220) a) (hv : vdR r a) {s : Nat} (hs : s ≤ 2) : f_X13_inState σ (nI s) = some (nI (sm (fun p => if a (76 + p) = s then 1 else 0) (a 36))) := by
  obtain ⟨v1, -, -, -, v5, -⟩ := hv
  unfold f_X13_inState
  rw [show f_X13_inState_L4 (nI s) σ gFU 0 0 = some (nI (sm (fun p => if a (76 + p) = s then 1 else 0) (a 36))) from
    loop_sum (F := fun n i v => f_X13_inState_L4 (nI s) σ n v i) (fin := fun v => v) (by omega) (Nat.le_trans (sm_le (B := 1) (fun i hi => ?_)) (by omega)) (fun n i v hi => ?_) (fun n v => ?_)]
  · rfl
  · split <;> omega
  · obtain ⟨q1, q2, q3, q4, q5, q6⟩ := v5 i hi
    rw [f_X13_inState_L4, hr 36 (by omega) (by omega) (by omega) (by omega)]
    rw [show (76 : Int32) + nI i = nI (76 + i) from nI_al (k := 76) (by omega)]
    simp (disch := omega) only [nI_leq, if_neg, nI_gi, g_nIc, nm_s, nI_s]
    rw [hr (76 + i) (by omega) (by omega) (by omega) (by omega)]
    simp (disch := omega) only [nI_inj]
    by_cases h1 : a (76 + i) = s
    · rw [if_pos h1, if_pos h1]; rfl
    · rw [if_neg h1, if_neg h1]; rfl
  · rw [f_X13_inState_L4, hr 36 (by omega) (by omega) (by omega) (by omega), if_pos (by rw [nI_leq (by omega) (by omega)]; omega)]
theorem e_waiting {σ : gM} {a : Nat → Nat} (R : nowR σ a) : f_X8_countAt σ (-1) = some (nI (sm (fun p => if a (76 + p) = 0 then 1 else 0) (a 36))) :=
  e_countAt R (fun p hp => wh_in (R.2.2.2.2.2.2.1 p hp).2.2.2.2.2)
theorem e_delivered {σ : gM} {a : Nat → Nat} (R : nowR σ a) : f_X8_countAt σ (-2) = some (nI (sm (fun p => if a (76 + p) = 2 then 1 else 0) (a 36))) :=
  e_countAt R (fun p hp => wh_out (R.2.2.2.2.2.2.1 p hp).2.2.2.2.2 (R.2.2.2.2.2.2.1 p hp).2.2.2.2.1)
theorem q_waitingCount {σ : gM} {a : Nat → Nat} (R : nowR σ a) (lo : Int64) (dd : UInt64) (a1 a2 a3 : Int32) : tOk σ (f_T_20 σ lo dd a1 a2 a3) := by
  unfold f_T_20 f_X12_waitingCount f_X13_waitingCount f_X13_done
  refine ⟨mset σ 219 12 0, lo, dd, ?_, eqv_m eqv.rf irr_t _⟩
  rw [e_waiting R, bd_s, bd_s, show f_X13_inState σ 0 = _ from e_inState (s := 0) R.2.1 R.2.2 (by omega), bd_s, nm_s, bd2_s, bd2_s, if_pos rfl]
theorem q_deliveredCount {σ : gM} {a : Nat → Nat} (R : nowR σ a) (lo : Int64) (dd : UInt64) (a1 a2 a3 : Int32) : tOk σ (f_T_21 σ lo dd a1 a2 a3) := by
  unfold f_T_21 f_X12_deliveredCount f_X13_deliveredCount f_X13_done
  refine ⟨mset σ 219 12 0, lo, dd, ?_, eqv_m eqv.rf irr_t _⟩
  rw [e_delivered R, bd_s, bd_s, show f_X13_inState σ 2 = _ from e_inState (s := 2) R.2.1 R.2.2 (by omega), bd_s, nm_s, bd2_s, bd2_s, if_pos rfl]
theorem e_parcelsIn {σ : gM} {a : Nat → Nat} (R : nowR σ a) {w : Nat} (hw : w ≤ 2) : f_X13_parcelsIn_L17 (nI w) σ gFU 0 0 = some (nI (sm (fun p => if a (76 + p) = 1 ∧ a (88 + p) = w then 1 else 0) (a 36))) := by
  obtain ⟨-, hr, ⟨v1, -, -, -, v5, -⟩⟩ := R
  refine loop_sum (F := fun n i v => f_X13_parcelsIn_L17 (nI w) σ n v i) (fin := fun v => v) (by omega) (Nat.le_trans (sm_le (B := 1) (fun i hi => ?_)) (by omega)) (fun n i v hi => ?_) (fun n v => ?_)
  · split <;> omega
  · obtain ⟨q1, q2, q3, q4, q5, q6⟩ := v5 i hi
    rw [f_X13_parcelsIn_L17, hr 36 (by omega) (by omega) (by omega) (by omega)]
    rw [show (76 : Int32) + nI i = nI (76 + i) from nI_al (k := 76) (by omega), show (88 : Int32) + nI i = nI (88 + i) from nI_al (k := 88) (by omega)]
    simp (disch := omega) only [nI_leq, if_neg, nI_gi, g_nIc, nm_s, nI_s]
    rw [hr (76 + i) (by omega) (by omega) (by omega) (by omega), hr (88 + i) (by omega) (by omega) (by omega) (by omega), nI_1']
    simp (disch := omega) only [nI_inj]
    by_cases h1 : a (76 + i) = 1
    · by_cases h2 : a (88 + i) = w
      · rw [if_pos h1, if_pos h2, if_pos ⟨h1, h2⟩]
      · rw [if_pos h1, if_neg h2, if_neg (fun h => h2 h.2)]; rfl
    · rw [if_neg h1, if_neg (fun h => h1 h.1)]; rfl
  · rw [f_X13_parcelsIn_L17, hr 36 (by omega) (by omega) (by omega) (by omega), if_pos (by rw [nI_leq (by omega) (by omega)]; omega)]
theorem q_parcelsIn {σ : gM} {a : Nat → Nat} (R : nowR σ a) (lo : Int64) (dd : UInt64) (a1 a2 a3 : Int32) : tOk σ (f_T_32 σ lo dd a1 a2 a3) := by
  unfold f_T_32 f_L_parcelsIn f_X12_parcelsIn f_X13_parcelsIn
  by_cases h : vp_in a1 3
  · obtain ⟨j, hj, rfl⟩ := vp_ex h
    refine ⟨mset σ 219 12 0, (nI (sm (fun p => if a (76 + p) = 1 ∧ a (88 + p) = j then 1 else 0) (a 36))).toInt64, dd, ?_, eqv_m eqv.rf irr_t _⟩
    · rw [(ss_ok hj).1, bt_l, e_countAt R (P := fun p => a (76 + p) = 1 ∧ a (88 + p) = j) (fun p hp => wh_eq (R.2.2.2.2.2.2.1 p hp).2.2.2.2.2 (by omega)), bd_s, bt_l, bd4_s, (ss_ok hj).2, bd_s, if_neg (by decide), e_parcelsIn R (by omega), bd_s, f_X13_done, nm_s, bd2_s, bd2_s, f_X13_thrown, mset_same, bd_s, if_pos rfl, if_pos rfl, lg_s, if_pos rfl]
  · refine ⟨mset σ 219 12 1, lo, dd, ?_, eqv_m eqv.rf irr_t _⟩
    rw [(ss_no h).1, bt_r, bt_r, if_pos rfl, bd4_s, (ss_no h).2, bd_s, if_pos rfl, f_X13_fails, nm_s, bd2_s, bd2_s, f_X13_thrown, mset_same, bd_s, if_pos rfl, if_neg (by decide)]
theorem q_state {σ : gM} {a : Nat → Nat} (R : nowR σ a) (lo : Int64) (dd : UInt64) (a1 a2 a3 : Int32) : tOk σ (f_T_17 σ lo dd a1 a2 a3) := by
  have hN : a 36 ≤ 12 := R.2.2.1
  unfold f_T_17 f_L_state f_X12_state f_X13_state
  by_cases h : vp_in a1 (a 36)
  · obtain ⟨j, hj, rfl⟩ := vp_ex h
    obtain ⟨-, -, -, p1, -⟩ := R.1.2.2.2.1 j hj
    obtain ⟨-, -, -, -, q5, q6⟩ := R.2.2.2.2.2.2.1 j hj
    have r1 := R.2.1 (76 + j) (by omega) (by omega) (by omega) (by omega)
    have e0 := wh_in (s := a (76 + j)) q6
    have e2 := wh_out (s := a (76 + j)) q6 q5
    rw [(ps_ok R hj).1, bt_l, f_X8_stateOf, nI_gi (by omega) (by omega), g_nIc (by omega), show σ 11 j = _ from p1, nI_gi (by omega) (by omega)]
    simp only [e0, e2]
    have h3 : a (76 + j) = 0 ∨ a (76 + j) = 1 ∨ a (76 + j) = 2 := by omega
    rcases h3 with h3 | h3 | h3
    · refine ⟨mset σ 219 12 0, (119 : Int32).toInt64, dd, ?_, eqv_m eqv.rf irr_t _⟩
      rw [if_pos h3, bd_s, gn_s (by decide), bt_l, bd4_s, show f_X13_parcelNumber σ 76 (nI j) = _ from pn_ok R hj (t := 76) (by omega), bd2_s, mset_same, if_pos (by decide), r1, h3, if_pos (show nI 0 = (0 : Int32) from rfl), bd2_s, f_X13_thrown, mset_same, bd_s, if_pos rfl, if_pos rfl, lg_s, if_pos rfl]
    · refine ⟨mset σ 219 12 0, (115 : Int32).toInt64, dd, ?_, eqv_m eqv.rf irr_t _⟩
      rw [if_neg (by omega), if_neg (by omega), bd_s, gn_s (by decide), bt_l, bd4_s, show f_X13_parcelNumber σ 76 (nI j) = _ from pn_ok R hj (t := 76) (by omega), bd2_s, mset_same, if_pos (by decide), r1, h3, if_neg (by decide), if_pos (show nI 1 = (1 : Int32) from rfl), bd2_s, f_X13_thrown, mset_same, bd_s, if_pos rfl, if_pos rfl, lg_s, if_pos rfl]
    · refine ⟨mset σ 219 12 0, (100 : Int32).toInt64, dd, ?_, eqv_m eqv.rf irr_t _⟩
      rw [if_neg (by omega), if_pos h3, bd_s, gn_s (by decide), bt_l, bd4_s, show f_X13_parcelNumber σ 76 (nI j) = _ from pn_ok R hj (t := 76) (by omega), bd2_s, mset_same, if_pos (by decide), r1, h3, if_neg (by decide), if_neg (by decide), bd2_s, f_X13_thrown, mset_same, bd_s, if_pos rfl, if_pos rfl, lg_s, if_pos rfl]
  · refine ⟨mset σ 219 12 1, lo, dd, ?_, eqv_m eqv.rf irr_t _⟩
    rw [(ps_no R h).1, bt_r, bt_r, if_pos rfl, bd4_s, pn_no R h, bd2_s, mset_same, if_neg (by decide), bd2_s, f_X13_thrown, mset_same, bd_s, if_pos rfl, if_neg (by decide)]
theorem pr_no (σ : gM) : f_X12_present σ (-1) = some (.inr 4) := by
  unfold f_X12_present
  rw [if_pos rfl]
  unfold f_X12_accepted
  rw [if_pos rfl]; rfl
theorem ac_ok {σ : gM} {x : Int32} (h : 0 ≤ x) : f_X12_accepted σ x = some (.inl x) := by
  have h1 : ∀ y : Int32, y < 0 → x ≠ y := by
    intro y hy e
    subst e
    rw [Int32.lt_iff_toInt_lt] at hy
    rw [Int32.le_iff_toInt_le] at h
    omega
  unfold f_X12_accepted
  rw [if_neg (h1 _ (by decide)), if_neg (h1 _ (by decide)), if_neg (h1 _ (by decide)), if_neg (h1 _ (by decide)), if_neg (h1 _ (by decide))]
theorem pr_ok {σ : gM} {x : Int32} (h : 0 ≤ x) : f_X12_present σ x = some (.inl x) := by
  unfold f_X12_present
  have h1 : x ≠ -1 := by
    intro e
    subst e
    exact absurd h (by decide)
  rw [if_neg h1, ac_ok h]; rfl
theorem nI_ge0 {j : Nat} (h : j ≤ 4096) : (0 : Int32) ≤ nI j := by
  rw [show (0 : Int32) = nI 0 from rfl, nI_leq (by omega) h]; omega
theorem q_sackOf {σ : gM} {a : Nat → Nat} (R : nowR σ a) (lo : Int64) (dd : UInt64) (a1 a2 a3 : Int32) : tOk σ (f_T_18 σ lo dd a1 a2 a3) := by
  have hN : a 36 ≤ 12 := R.2.2.1
  unfold f_T_18 f_L_sackOf f_X12_sackOf f_X13_sackOf
  by_cases h : vp_in a1 (a 36)
  · obtain ⟨j, hj, rfl⟩ := vp_ex h
    obtain ⟨-, -, -, p1, -⟩ := R.1.2.2.2.1 j hj
    obtain ⟨-, -, -, -, q5, q6⟩ := R.2.2.2.2.2.2.1 j hj
    have r1 := R.2.1 (76 + j) (by omega) (by omega) (by omega) (by omega)
    have r2 := R.2.1 (88 + j) (by omega) (by omega) (by omega) (by omega)
    rw [(ps_ok R hj).1, bt_l, f_X8_whereIs, nI_gi (by omega) (by omega), g_nIc (by omega), show σ 11 j = _ from p1, bd_s]
    by_cases h1 : a (76 + j) = 1
    · refine ⟨mset σ 219 12 0, (nI (a (88 + j))).toInt64, dd, ?_, eqv_m eqv.rf irr_t _⟩
      rw [h1, show wh 1 (a (88 + j)) = nI (a (88 + j)) from rfl, show f_X12_isIndex σ (nI (a (88 + j))) 3 = _ from ix_ok (N := 3) (by omega) (by omega), bd_s, if_neg (by decide), pr_ok (nI_ge0 (j := a (88 + j)) (by omega)), bt_l, bt_l, bd4_s, (ps_ok R hj).2, bd_s, if_neg (by decide), show (76 : Int32) + nI j = nI (76 + j) from nI_al (k := 76) (by omega), show (88 : Int32) + nI j = nI (88 + j) from nI_al (k := 88) (by omega), nI_gi (by omega) (by omega), g_nIc (by omega), r1, h1, if_pos (show nI 1 = (1 : Int32) from rfl), nI_gi (by omega) (by omega), g_nIc (by omega), r2, f_X13_done, nm_s, bd2_s, bd2_s, f_X13_thrown, mset_same, bd_s, if_pos rfl, if_pos rfl, lg_s, if_pos rfl]
    · have hx : ¬ vp_in (wh (a (76 + j)) (a (88 + j))) 3 := by
        unfold wh
        by_cases h0 : a (76 + j) = 0
        · rw [if_pos h0]; unfold vp_in; decide
        · rw [if_neg h0, if_neg h1]; unfold vp_in; decide
      refine ⟨mset σ 219 12 2, lo, dd, ?_, eqv_m eqv.rf irr_t _⟩
      rw [show f_X12_isIndex σ _ 3 = _ from ix_no (N := 3) hx (by omega), bd_s, if_pos rfl, pr_no, bt_r, bt_r, if_neg (by decide), if_pos rfl, bd4_s, (ps_ok R hj).2, bd_s, if_neg (by decide), show (76 : Int32) + nI j = nI (76 + j) from nI_al (k := 76) (by omega), nI_gi (by omega) (by omega), g_nIc (by omega), r1, if_neg (by rw [nI_1', nI_inj (by omega) (by omega)]; exact h1), f_X13_fails, nm_s, bd2_s, bd2_s, f_X13_thrown, mset_same, bd_s, if_pos rfl, if_neg (by decide)]
  · refine ⟨mset σ 219 12 1, lo, dd, ?_, eqv_m eqv.rf irr_t _⟩
    rw [(ps_no R h).1, bt_r, bt_r, if_pos rfl, bd4_s, (ps_no R h).2, bd_s, if_pos rfl, f_X13_fails, nm_s, bd2_s, bd2_s, f_X13_thrown, mset_same, bd_s, if_pos rfl, if_neg (by decide)]
