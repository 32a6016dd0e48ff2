theorem e_sumH {σ : gM} {e : Nat → Int32} {a : Nat → Nat} (R : nowR σ e a) : f_X8_sumOfHazards_L4 σ gFU 0 0 = some (nI (sm (fun p => a (52 + p)) (a 36))) ∧ sm (fun p => a (52 + p)) (a 36) ≤ 36 := by
  obtain ⟨⟨-, -, hn, hp, -⟩, -, ⟨v1, -, -, -, v5, -⟩⟩ := R
  have hb : sm (fun p => a (52 + p)) (a 36) ≤ 36 := Nat.le_trans (sm_le (B := 3) (fun i hi => (v5 i hi).2.2.1)) (by omega)
  refine ⟨loop_sum (F := fun n i v => f_X8_sumOfHazards_L4 σ n v i) (fin := fun v => v) (by omega) (by omega) (fun n i v hi => ?_) (fun n v => ?_), hb⟩
  · obtain ⟨p1, p2, p3, p4, p5⟩ := hp i hi
    show f_X8_sumOfHazards_L4 σ (n + 1) v (nI i) = f_X8_sumOfHazards_L4 σ n (v + nI (a (52 + i))) (nI (i + 1))
    rw [f_X8_sumOfHazards_L4, show σ 7 5 = nI (a 36) from hn]
    simp (disch := omega) only [nI_leq, if_neg, nI_gi, g_nIc, nm_s, nI_s]
    rw [show σ 9 i = _ from p2]
  · show f_X8_sumOfHazards_L4 σ (n + 1) v (nI (a 36)) = _
    rw [f_X8_sumOfHazards_L4, show σ 7 5 = nI (a 36) from hn, if_pos (by rw [nI_leq (by omega) (by omega)]; omega)]
theorem gnd_s {α : Type} {x : UInt64} {A : Option α} (h : x &&& 0x7fffffffffffffff ≤ 0x7ff0000000000000) : gnd x A = A := if_pos h
theorem gnf_s {α : Type} {x : UInt32} {A : Option α} (h : x &&& 0x7fffffff ≤ 0x7f800000) : gnf x A = A := if_pos h
/-! what the depot and the reference note besides the state -/
theorem q_meanHazard {σ : gM} {e : Nat → Int32} {a : Nat → Nat} (R : nowR σ e a) (h0 : ¬ a 36 = 0) : f_X12_meanHazard σ = some (.inl (FP.ddiv (FP.i2d (nI (sm (fun p => a (52 + p)) (a 36)))) (FP.i2d (nI (a 36))))) := by
  have hN : a 36 ≤ 12 := R.2.2.1
  have h1 : σ 7 5 = nI (a 36) := R.1.2.2.1
  obtain ⟨hs, hb⟩ := e_sumH R
  generalize hS : sm (fun p => a (52 + p)) (a 36) = S at hs hb
  unfold f_X12_meanHazard f_X8_size f_X8_sumOfHazards
  have hz : ¬ nI (a 36) = (0 : Int32) := by
    rw [show (0 : Int32) = nI 0 from rfl, nI_inj (by omega) (by omega)]; exact h0
  have hf := fl_ok hb (show 1 ≤ a 36 by omega) hN
  unfold flB at hf
  rw [Bool.and_eq_true, decide_eq_true_eq, decide_eq_true_eq] at hf
  rw [bd_s, h1, if_neg hz, hs, bd_s, bd_s, gnd_s hf.1]
theorem q_deliveredShare {σ : gM} {e : Nat → Int32} {a : Nat → Nat} (R : nowR σ e a) (h0 : ¬ a 36 = 0) : f_X12_deliveredShare σ = some (.inl (FP.fdiv (FP.i2f (nI (sm (fun p => if a (76 + p) = 2 then 1 else 0) (a 36)))) (FP.i2f (nI (a 36))))) := by
  have hN : a 36 ≤ 12 := R.2.2.1
  have h1 : σ 7 5 = nI (a 36) := R.1.2.2.1
  have hs := e_delivered R
  have hb : sm (fun p => if a (76 + p) = 2 then 1 else 0) (a 36) ≤ 12 := Nat.le_trans (sm_le (B := 1) (fun i hi => by split <;> omega)) (by omega)
  generalize hS : sm (fun p => if a (76 + p) = 2 then 1 else 0) (a 36) = S at hs hb
  unfold f_X12_deliveredShare f_X8_size
  have hz : ¬ nI (a 36) = (0 : Int32) := by
    rw [show (0 : Int32) = nI 0 from rfl, nI_inj (by omega) (by omega)]; exact h0
  have hf := ff_ok hb (show 1 ≤ a 36 by omega) hN
  unfold ffB at hf
  rw [Bool.and_eq_true, Bool.and_eq_true, decide_eq_true_eq, decide_eq_true_eq, decide_eq_true_eq] at hf
  rw [bd_s, h1, if_neg hz, hs, bd_s, gnf_s hf.1]
theorem q_outputChar {σ : gM} {o j : Nat} (ho : o ≤ 100) (h1 : σ 217 1 = nI o) (hj : j < o) (h2 : vp_nar .char (σ 218 j) = σ 218 j) : f_X12_outputChar σ (nI j) = some (.inl (σ 218 j)) := by
  unfold f_X12_outputChar f_X10_size
  rw [bd_s, h1, rq_ok hj (by omega), bt_l, f_X10_at, nI_gi (by omega) (by omega), g_nIc (by omega), gn_s h2, bd_s, gn_s h2]
theorem q_error {σ : gM} {x : Int32} (h : σ 0 7 = x) (hx : 0 ≤ x) : f_X12_errorPosition σ = some (.inl x) := by
  unfold f_X12_errorPosition
  rw [h, pr_ok hx, bt_l]
theorem q_failed {σ : gM} {x : Int32} (h : σ 0 8 = x) (hx : 0 ≤ x) : f_X12_failedCommand σ = some (.inl x) := by
  unfold f_X12_failedCommand
  rw [h, pr_ok hx, bt_l]
