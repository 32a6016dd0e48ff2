def sfB (a : Nat → Nat) (j : Nat) : Bool := decide (a (52 + j) = 0) || decide (bst a (a (52 + j)) (a 37) ≠ 0)
theorem e_isSafe {σ : gM} {a : Nat → Nat} (R : nowR σ a) {j : Nat} (hj : j < a 36) : f_X3_isSafe σ (nI j) = some (if sfB a j = true then 1 else 0) := by
  have hN : a 36 ≤ 12 := R.2.2.1
  have hM : a 37 ≤ 8 := R.2.2.2.1
  obtain ⟨-, p1, -⟩ := R.1.2.2.2.1 j hj
  obtain ⟨-, -, q3, -⟩ := R.2.2.2.2.2.2.1 j hj
  have hle := bst_le a (a (52 + j)) (a 37)
  unfold f_X3_isSafe f_X8_hazardOf
  rw [nI_gi (by omega) (by omega), g_nIc (by omega), show σ 9 j = _ from p1, bd_s, show (0 : Int32) = nI 0 from rfl]
  simp (disch := omega) only [nI_inj]
  by_cases h0 : a (52 + j) = 0
  · rw [if_pos h0, if_pos (by unfold sfB; simp [h0])]
  · rw [if_neg h0, e_best R q3, bd_s]
    simp (disch := omega) only [oI_eq]
    by_cases h1 : bst a (a (52 + j)) (a 37) = 0
    · rw [if_pos h1, if_neg (by unfold sfB; simp [h0, h1])]
    · rw [if_neg h1, if_pos (by unfold sfB; simp [h1])]
theorem e_isHandled {σ : gM} {r : Nat → Int32} {a : Nat → Nat} (hr : rowR (σ 220) a) (hv : vdR r a) {j : Nat} (hj : j < a 36) : f_X13_isHandled σ (nI j) = some (if sfB a j = true then 1 else 0) := by
  have hN : a 36 ≤ 12 := hv.1
  have hM : a 37 ≤ 8 := hv.2.1
  obtain ⟨-, -, q3, -⟩ := hv.2.2.2.2.1 j hj
  have hle := bst_le a (a (52 + j)) (a 37)
  unfold f_X13_isHandled
  rw [show (52 : Int32) + nI j = nI (52 + j) from nI_al (k := 52) (by omega), nI_gi (by omega) (by omega), g_nIc (by omega), hr (52 + j) (by omega) (by omega) (by omega) (by omega), nI_gi (by omega) (by omega), show (0 : Int32) = nI 0 from rfl]
  simp (disch := omega) only [nI_inj]
  by_cases h0 : a (52 + j) = 0
  · rw [if_pos h0, if_pos (by unfold sfB; simp [h0])]
  · rw [if_neg h0, e_gloveOf hr hv q3, bd_s]
    simp (disch := omega) only [oI_eq]
    by_cases h1 : bst a (a (52 + j)) (a 37) = 0
    · rw [if_pos h1, if_neg (by unfold sfB; simp [h0, h1])]
    · rw [if_neg h1, if_pos (by unfold sfB; simp [h1])]
theorem row_m {σ : gM} {a : Nat → Nat} (h : rowR (σ 220) a) (x : Int32) : rowR (mset σ 219 12 x 220) a := by
  intro j h1 h2 h3 h4
  rw [mset_ne1 σ x (by decide)]
  exact h j h1 h2 h3 h4
theorem q_canHandle {σ : gM} {a : Nat → Nat} (R : nowR σ a) (lo : Int64) (dd : UInt64) (a1 a2 a3 : Int32) : tOk σ (f_T_26 σ lo dd a1 a2 a3) := by
  unfold f_T_26 f_L_canHandle f_X12_canHandle f_X13_canHandle
  by_cases h : vp_in a1 (a 36)
  · obtain ⟨j, hj, rfl⟩ := vp_ex h
    rw [(ps_ok R hj).1, bt_l, e_isSafe R hj, bd_s]
    by_cases hs : sfB a j = true
    · refine ⟨mset σ 219 12 0, 1, dd, ?_, eqv_m eqv.rf irr_t _⟩
      rw [if_pos hs, gn_s (by decide), bt_l, if_neg (by decide), bd4_s, (ps_ok R hj).2, bd_s, if_neg (by decide), nm_s, mset_same, if_pos rfl, e_isHandled (row_m R.2.1 0) R.2.2 hj, if_pos hs, bd_s, if_neg (by decide), bd2_s, f_X13_thrown, mset_same, bd_s, if_pos rfl, if_pos rfl, if_neg (by decide), lg_s, if_pos rfl]
    · refine ⟨mset σ 219 12 0, 0, dd, ?_, eqv_m eqv.rf irr_t _⟩
      rw [if_neg hs, gn_s (by decide), bt_l, if_pos rfl, bd4_s, (ps_ok R hj).2, bd_s, if_neg (by decide), nm_s, mset_same, if_pos rfl, e_isHandled (row_m R.2.1 0) R.2.2 hj, if_neg hs, bd_s, if_pos rfl, bd2_s, f_X13_thrown, mset_same, bd_s, if_pos rfl, if_pos rfl, if_pos rfl, lg_s, if_pos rfl]
  · refine ⟨mset σ 219 12 1, lo, dd, ?_, eqv_m eqv.rf irr_t _⟩
    rw [(ps_no R h).1, bt_r, bt_r, if_pos rfl, bd4_s, (ps_no R h).2, bd_s, if_pos rfl, nm_s, mset_same, if_neg (by decide), bd2_s, f_X13_thrown, mset_same, bd_s, if_pos rfl, if_neg (by decide)]
theorem q_gloveFor {σ : gM} {a : Nat → Nat} (R : nowR σ a) (lo : Int64) (dd : UInt64) (a1 a2 a3 : Int32) : tOk σ (f_T_25 σ lo dd a1 a2 a3) := by
  have hN : a 36 ≤ 12 := R.2.2.1
  have hM : a 37 ≤ 8 := R.2.2.2.1
  unfold f_T_25 f_L_gloveFor f_X12_gloveFor f_X13_gloveFor
  by_cases h : vp_in a1 (a 36)
  · obtain ⟨j, hj, rfl⟩ := vp_ex h
    obtain ⟨-, p1, -⟩ := R.1.2.2.2.1 j hj
    obtain ⟨-, -, q3, -⟩ := R.2.2.2.2.2.2.1 j hj
    have r1 := R.2.1 (52 + j) (by omega) (by omega) (by omega) (by omega)
    have hle := bst_le a (a (52 + j)) (a 37)
    rw [(ps_ok R hj).1, bt_l, f_X8_hazardOf, nI_gi (by omega) (by omega), g_nIc (by omega), show σ 9 j = _ from p1, bd_s]
    by_cases h0 : a (52 + j) = 0
    · refine ⟨mset σ 219 12 2, lo, dd, ?_, eqv_m eqv.rf irr_t _⟩
      rw [h0, if_pos (show nI 0 = (0 : Int32) from rfl), show f_X12_accepted σ (-5) = some (.inr 3) from by unfold f_X12_accepted; rw [if_neg (by decide), if_pos rfl], bt_r, bt_r, if_neg (by decide), if_pos rfl, bd4_s, (ps_ok R hj).2, bd_s, if_neg (by decide), show (52 : Int32) + nI j = nI (52 + j) from nI_al (k := 52) (by omega), nI_gi (by omega) (by omega), g_nIc (by omega), r1, h0, if_pos (show nI 0 = (0 : Int32) from rfl), f_X13_fails, nm_s, bd2_s, bd2_s, f_X13_thrown, mset_same, bd_s, if_pos rfl, if_neg (by decide)]
    · have hz : ¬ nI (a (52 + j)) = (0 : Int32) := by
        rw [show (0 : Int32) = nI 0 from rfl, nI_inj (by omega) (by omega)]; exact h0
      by_cases h1 : bst a (a (52 + j)) (a 37) = 0
      · refine ⟨mset σ 219 12 3, lo, dd, ?_, eqv_m eqv.rf irr_t _⟩
        rw [if_neg hz, e_best R q3, bd_s, h1, show oI 0 = (-1 : Int32) from rfl, pr_no, bt_r, bt_r, if_neg (by decide), if_neg (by decide), if_pos rfl, bd4_s, (ps_ok R hj).2, bd_s, if_neg (by decide), show (52 : Int32) + nI j = nI (52 + j) from nI_al (k := 52) (by omega), nI_gi (by omega) (by omega), g_nIc (by omega), r1, if_neg hz, nI_gi (by omega) (by omega), e_gloveOf R.2.1 R.2.2 q3, bd_s, h1, if_pos (show oI 0 = (-1 : Int32) from rfl), f_X13_fails, nm_s, bd2_s, bd2_s, f_X13_thrown, mset_same, bd_s, if_pos rfl, if_neg (by decide)]
      · have e : oI (bst a (a (52 + j)) (a 37)) = nI (bst a (a (52 + j)) (a 37) - 1) := if_neg h1
        have hn : ¬ oI (bst a (a (52 + j)) (a 37)) = -1 := by rw [oI_eq (by omega)]; exact h1
        refine ⟨mset σ 219 12 0, (oI (bst a (a (52 + j)) (a 37))).toInt64, dd, ?_, eqv_m eqv.rf irr_t _⟩
        rw [if_neg hz, e_best R q3, bd_s, pr_ok (by rw [e]; exact nI_ge0 (by omega)), bt_l, bt_l, bd4_s, (ps_ok R hj).2, bd_s, if_neg (by decide), show (52 : Int32) + nI j = nI (52 + j) from nI_al (k := 52) (by omega), nI_gi (by omega) (by omega), g_nIc (by omega), r1, if_neg hz, nI_gi (by omega) (by omega), e_gloveOf R.2.1 R.2.2 q3, bd_s, if_neg hn, f_X13_done, nm_s, bd2_s, bd2_s, f_X13_thrown, mset_same, bd_s, if_pos rfl, if_pos rfl, lg_s, if_pos rfl]
  · refine ⟨mset σ 219 12 1, lo, dd, ?_, eqv_m eqv.rf irr_t _⟩
    rw [(ps_no R h).1, bt_r, bt_r, if_pos rfl, bd4_s, (ps_no R h).2, bd_s, if_pos rfl, f_X13_fails, nm_s, bd2_s, bd2_s, f_X13_thrown, mset_same, bd_s, if_pos rfl, if_neg (by decide)]
/-! floats of small numbers are numbers -/
def flB (s n : Nat) : Bool := decide (FP.ddiv (FP.i2d (nI s)) (FP.i2d (nI n)) &&& 0x7fffffffffffffff ≤ 0x7ff0000000000000) && decide (Op.cmpValue (FP.dcmp (FP.ddiv (FP.i2d (nI s)) (FP.i2d (nI n))) (FP.ddiv (FP.i2d (nI s)) (FP.i2d (nI n)))) .l = 0)
theorem fl_all : ((List.range 37).all fun s => (List.range 12).all fun n => flB s (n + 1)) = true := by decide +kernel
theorem fl_ok {s n : Nat} (hs : s ≤ 36) (h1 : 1 ≤ n) (hn : n ≤ 12) : flB s n = true := by
  have h2 := List.all_eq_true.mp fl_all s (List.mem_range.mpr (by omega))
  have h3 := List.all_eq_true.mp h2 (n - 1) (List.mem_range.mpr (by omega))
  rw [show n - 1 + 1 = n by omega] at h3
  exact h3
def ffB (s n : Nat) : Bool := decide (FP.fdiv (FP.i2f (nI s)) (FP.i2f (nI n)) &&& 0x7fffffff ≤ 0x7f800000) && (decide (FP.f2d (FP.fdiv (FP.i2f (nI s)) (FP.i2f (nI n))) &&& 0x7fffffffffffffff ≤ 0x7ff0000000000000) && decide (Op.cmpValue (FP.dcmp (FP.f2d (FP.fdiv (FP.i2f (nI s)) (FP.i2f (nI n)))) (FP.f2d (FP.fdiv (FP.i2f (nI s)) (FP.i2f (nI n))))) .l = 0))
theorem ff_all : ((List.range 13).all fun s => (List.range 12).all fun n => ffB s (n + 1)) = true := by decide +kernel
theorem ff_ok {s n : Nat} (hs : s ≤ 12) (h1 : 1 ≤ n) (hn : n ≤ 12) : ffB s n = true := by
  have h2 := List.all_eq_true.mp ff_all s (List.mem_range.mpr (by omega))
  have h3 := List.all_eq_true.mp h2 (n - 1) (List.mem_range.mpr (by omega))
  rw [show n - 1 + 1 = n by omega] at h3
  exact h3
