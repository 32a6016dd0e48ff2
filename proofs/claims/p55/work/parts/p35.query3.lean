def sfB (a : Nat → Nat) (j : Nat) : Bool := decide (a (52 + j) = 0) || decide (bst a (a (52 + j)) (a 37) ≠ 0)
theorem e_isSafe {σ : gM} {e : Nat → Int32} {a : Nat → Nat} (R : nowR σ e a) {j : Nat} (hj : j < a 36) : f_X3_isSafe σ (nI j) = some (if sfB a j = true then 1 else 0) := by
  have hN : a 36 ≤ 12 := R.2.2.1
  have hM : a 37 ≤ 8 := R.2.2.2.1
  obtain ⟨-, p1, -⟩ := R.1.2.2.2.1 j hj
  obtain ⟨-, -, q3, -⟩ := R.2.2.2.2.2.2.1 j hj
  have hle := bst_le a (a (52 + j)) (a 37)
  unfold f_X3_isSafe f_X8_hazardOf
  rw [nI_gi (by omega) (by omega), g_nIc (by omega), show σ 9 j = _ from p1, bd_s, show (0 : Int32) = nI 0 from rfl]
  simp (disch := omega) only [nI_inj]
  by_cases h0 : a (52 + j) = 0
  · rw [if_pos h0, if_pos (by unfold sfB; simp [h0])]
  · rw [if_neg h0, e_best R q3, bd_s]
    simp (disch := omega) only [oI_eq]
    by_cases h1 : bst a (a (52 + j)) (a 37) = 0
    · rw [if_pos h1, if_neg (by unfold sfB; simp [h0, h1])]
    · rw [if_neg h1, if_pos (by unfold sfB; simp [h1])]
/-! floats of small numbers are numbers -/
def flB (s n : Nat) : Bool := decide (FP.ddiv (FP.i2d (nI s)) (FP.i2d (nI n)) &&& 0x7fffffffffffffff ≤ 0x7ff0000000000000) && decide (Op.cmpValue (FP.dcmp (FP.ddiv (FP.i2d (nI s)) (FP.i2d (nI n))) (FP.ddiv (FP.i2d (nI s)) (FP.i2d (nI n)))) .l = 0)
theorem fl_all : ((List.range 37).all fun s => (List.range 12).all fun n => flB s (n + 1)) = true := by decide +kernel
theorem fl_ok {s n : Nat} (hs : s ≤ 36) (h1 : 1 ≤ n) (hn : n ≤ 12) : flB s n = true := by
  have h2 := List.all_eq_true.mp fl_all s (List.mem_range.mpr (by omega))
  have h3 := List.all_eq_true.mp h2 (n - 1) (List.mem_range.mpr (by omega))
  rw [show n - 1 + 1 = n by omega] at h3
  exact h3
def ffB (s n : Nat) : Bool := decide (FP.fdiv (FP.i2f (nI s)) (FP.i2f (nI n)) &&& 0x7fffffff ≤ 0x7f800000) && (decide (FP.f2d (FP.fdiv (FP.i2f (nI s)) (FP.i2f (nI n))) &&& 0x7fffffffffffffff ≤ 0x7ff0000000000000) && decide (Op.cmpValue (FP.dcmp (FP.f2d (FP.fdiv (FP.i2f (nI s)) (FP.i2f (nI n)))) (FP.f2d (FP.fdiv (FP.i2f (nI s)) (FP.i2f (nI n))))) .l = 0))
theorem ff_all : ((List.range 13).all fun s => (List.range 12).all fun n => ffB s (n + 1)) = true := by decide +kernel
theorem ff_ok {s n : Nat} (hs : s ≤ 12) (h1 : 1 ≤ n) (hn : n ≤ 12) : ffB s n = true := by
  have h2 := List.all_eq_true.mp ff_all s (List.mem_range.mpr (by omega))
  have h3 := List.all_eq_true.mp h2 (n - 1) (List.mem_range.mpr (by omega))
  rw [show n - 1 + 1 = n by omega] at h3
  exact h3

theorem q_canHandle {σ : gM} {e : Nat → Int32} {a : Nat → Nat} (R : nowR σ e a) {j : Nat} (hj : j < a 36) : f_X12_canHandle σ (nI j) = some (.inl (if sfB a j = true then 1 else 0)) := by
  unfold f_X12_canHandle
  rw [ps_ok R hj, bt_l, e_isSafe R hj, bd_s]
  by_cases hs : sfB a j = true
  · rw [if_pos hs, gn_s (by decide)]
  · rw [if_neg hs, gn_s (by decide)]
theorem q_gloveFor0 {σ : gM} {e : Nat → Int32} {a : Nat → Nat} (R : nowR σ e a) {j : Nat} (hj : j < a 36) (h0 : a (52 + j) = 0) : f_X12_gloveFor σ (nI j) = some (.inr 3) := by
  have hN : a 36 ≤ 12 := R.2.2.1
  obtain ⟨-, p1, -⟩ := R.1.2.2.2.1 j hj
  unfold f_X12_gloveFor
  rw [ps_ok R hj, bt_l, f_X8_hazardOf, nI_gi (by omega) (by omega), g_nIc (by omega), show σ 9 j = _ from p1, bd_s, h0, if_pos (show nI 0 = (0 : Int32) from rfl), show f_X12_accepted σ (-5) = some (.inr 3) from by unfold f_X12_accepted; rw [if_neg (by decide), if_pos rfl], bt_r]
theorem q_gloveFor {σ : gM} {e : Nat → Int32} {a : Nat → Nat} (R : nowR σ e a) {j g : Nat} (hj : j < a 36) (h0 : ¬ a (52 + j) = 0) (hg : bst a (a (52 + j)) (a 37) = g + 1) : f_X12_gloveFor σ (nI j) = some (.inl (nI g)) := by
  have hN : a 36 ≤ 12 := R.2.2.1
  have hM : a 37 ≤ 8 := R.2.2.2.1
  obtain ⟨-, p1, -⟩ := R.1.2.2.2.1 j hj
  obtain ⟨-, -, q3, -⟩ := R.2.2.2.2.2.2.1 j hj
  have hle := bst_le a (a (52 + j)) (a 37)
  have hz : ¬ nI (a (52 + j)) = (0 : Int32) := by
    rw [show (0 : Int32) = nI 0 from rfl, nI_inj (by omega) (by omega)]; exact h0
  unfold f_X12_gloveFor
  rw [ps_ok R hj, bt_l, f_X8_hazardOf, nI_gi (by omega) (by omega), g_nIc (by omega), show σ 9 j = _ from p1, bd_s, if_neg hz, e_best R q3, bd_s, hg, show oI (g + 1) = nI g from if_neg (by omega), pr_ok (nI_ge0 (by omega)), bt_l]
