theorem e_sumH {σ : gM} {a : Nat → Nat} (R : nowR σ a) : f_X8_sumOfHazards_L4 σ gFU 0 0 = some (nI (sm (fun p => a (52 + p)) (a 36))) ∧ sm (fun p => a (52 + p)) (a 36) ≤ 36 := by
  obtain ⟨⟨-, -, hn, hp, -⟩, -, ⟨v1, -, -, -, v5, -⟩⟩ := R
  have hb : sm (fun p => a (52 + p)) (a 36) ≤ 36 := Nat.le_trans (sm_le (B := 3) (fun i hi => (v5 i hi).2.2.1)) (by omega)
  refine ⟨loop_sum (F := fun n i v => f_X8_sumOfHazards_L4 σ n v i) (fin := fun v => v) (by omega) (by omega) (fun n i v hi => ?_) (fun n v => ?_), hb⟩
  · obtain ⟨p1, p2, p3, p4, p5⟩ := hp i hi
    show f_X8_sumOfHazards_L4 σ (n + 1) v (nI i) = f_X8_sumOfHazards_L4 σ n (v + nI (a (52 + i))) (nI (i + 1))
    rw [f_X8_sumOfHazards_L4, show σ 7 5 = nI (a 36) from hn]
    simp (disch := omega) only [nI_leq, if_neg, nI_gi, g_nIc, nm_s, nI_s]
    rw [show σ 9 i = _ from p2]
  · show f_X8_sumOfHazards_L4 σ (n + 1) v (nI (a 36)) = _
    rw [f_X8_sumOfHazards_L4, show σ 7 5 = nI (a 36) from hn, if_pos (by rw [nI_leq (by omega) (by omega)]; omega)]
theorem e_sumM {σ : gM} {a : Nat → Nat} (R : nowR σ a) : f_X13_meanHazard_L4 σ gFU 0 0 = some (nI (sm (fun p => a (52 + p)) (a 36))) := by
  obtain ⟨-, hr, ⟨v1, -, -, -, v5, -⟩⟩ := R
  have hb : sm (fun p => a (52 + p)) (a 36) ≤ 36 := Nat.le_trans (sm_le (B := 3) (fun i hi => (v5 i hi).2.2.1)) (by omega)
  refine loop_sum (F := fun n i v => f_X13_meanHazard_L4 σ n v i) (fin := fun v => v) (by omega) (by omega) (fun n i v hi => ?_) (fun n v => ?_)
  · show f_X13_meanHazard_L4 σ (n + 1) v (nI i) = f_X13_meanHazard_L4 σ n (v + nI (a (52 + i))) (nI (i + 1))
    rw [f_X13_meanHazard_L4, hr 36 (by omega) (by omega) (by omega) (by omega), show (52 : Int32) + nI i = nI (52 + i) from nI_al (k := 52) (by omega)]
    simp (disch := omega) only [nI_leq, if_neg, nI_gi, g_nIc, nm_s, nI_s]
    rw [hr (52 + i) (by omega) (by omega) (by omega) (by omega)]
  · show f_X13_meanHazard_L4 σ (n + 1) v (nI (a 36)) = _
    rw [f_X13_meanHazard_L4, hr 36 (by omega) (by omega) (by omega) (by omega), if_pos (by rw [nI_leq (by omega) (by omega)]; omega)]
theorem gnd_s {α : Type} {x : UInt64} {A : Option α} (h : x &&& 0x7fffffffffffffff ≤ 0x7ff0000000000000) : gnd x A = A := if_pos h
theorem gnf_s {α : Type} {x : UInt32} {A : Option α} (h : x &&& 0x7fffffff ≤ 0x7f800000) : gnf x A = A := if_pos h
theorem gnn64_s {α : Type} {x : UInt64} {A : Option α} (h : x &&& 0x7fffffffffffffff ≤ 0x7ff0000000000000) : gnn64 x A = A := if_pos h
theorem q_meanHazard {σ : gM} {a : Nat → Nat} (R : nowR σ a) (lo : Int64) (dd : UInt64) (a1 a2 a3 : Int32) : tOk σ (f_T_39 σ lo dd a1 a2 a3) := by
  have hN : a 36 ≤ 12 := R.2.2.1
  have h1 : σ 7 5 = nI (a 36) := R.1.2.2.1
  have h2 : σ 220 36 = nI (a 36) := R.2.1 36 (by omega) (by omega) (by omega) (by omega)
  obtain ⟨hs, hb⟩ := e_sumH R
  have hm := e_sumM R
  generalize hS : sm (fun p => a (52 + p)) (a 36) = S at hs hb hm
  unfold f_T_39 f_L_meanHazard f_X12_meanHazard f_X13_meanHazard f_X8_size f_X8_sumOfHazards
  rw [bd_s, h1]
  by_cases h0 : a 36 = 0
  · refine ⟨mset σ 219 12 1, lo, dd, ?_, eqv_m eqv.rf irr_t _⟩
    rw [h0, if_pos (show nI 0 = (0 : Int32) from rfl), bt_r, if_pos rfl, bd4_s, hm, bd_s, h2, h0, if_pos (show nI 0 = (0 : Int32) from rfl), nm_s, mset_same, if_neg (by decide), bd2_s, f_X13_thrown, mset_same, bd_s, if_pos rfl, if_neg (by decide)]
  · have hz : ¬ nI (a 36) = (0 : Int32) := by
      rw [show (0 : Int32) = nI 0 from rfl, nI_inj (by omega) (by omega)]; exact h0
    have hf := fl_ok hb (show 1 ≤ a 36 by omega) hN
    unfold flB at hf
    rw [Bool.and_eq_true, decide_eq_true_eq, decide_eq_true_eq] at hf
    refine ⟨mset σ 219 12 0, lo, FP.ddiv (FP.i2d (nI S)) (FP.i2d (nI (a 36))), ?_, eqv_m eqv.rf irr_t _⟩
    · rw [if_neg hz, hs, bd_s, bd_s, gnd_s hf.1, bt_l, bd4_s, hm, bd_s, h2, if_neg hz, nm_s, mset_same, if_pos rfl, mset_ne1 σ _ (by decide), h2, gnd_s hf.1, bd2_s, f_X13_thrown, mset_same, bd_s, if_pos rfl, if_pos rfl, if_pos hf.2]
theorem q_deliveredShare {σ : gM} {a : Nat → Nat} (R : nowR σ a) (lo : Int64) (dd : UInt64) (a1 a2 a3 : Int32) : tOk σ (f_T_40 σ lo dd a1 a2 a3) := by
  have hN : a 36 ≤ 12 := R.2.2.1
  have h1 : σ 7 5 = nI (a 36) := R.1.2.2.1
  have h2 : σ 220 36 = nI (a 36) := R.2.1 36 (by omega) (by omega) (by omega) (by omega)
  have hs := e_delivered R
  have hm : ∀ x, f_X13_inState (mset σ 219 12 x) 2 = _ := fun x => e_inState (s := 2) (row_m R.2.1 x) R.2.2 (by omega)
  have hb : sm (fun p => if a (76 + p) = 2 then 1 else 0) (a 36) ≤ 12 := Nat.le_trans (sm_le (B := 1) (fun i hi => by split <;> omega)) (by omega)
  generalize hS : sm (fun p => if a (76 + p) = 2 then 1 else 0) (a 36) = S at hs hb hm
  unfold f_T_40 f_L_deliveredShare f_X12_deliveredShare f_X13_deliveredShare f_X8_size
  rw [bd_s, h1]
  by_cases h0 : a 36 = 0
  · refine ⟨mset σ 219 12 1, lo, dd, ?_, eqv_m eqv.rf irr_t _⟩
    rw [h0, if_pos (show nI 0 = (0 : Int32) from rfl), bt_r, if_pos rfl, bd4_s, h2, h0, if_pos (show nI 0 = (0 : Int32) from rfl), nm_s, mset_same, if_neg (by decide), bd2_s, f_X13_thrown, mset_same, bd_s, if_pos rfl, if_neg (by decide)]
  · have hz : ¬ nI (a 36) = (0 : Int32) := by
      rw [show (0 : Int32) = nI 0 from rfl, nI_inj (by omega) (by omega)]; exact h0
    have hf := ff_ok hb (show 1 ≤ a 36 by omega) hN
    unfold ffB at hf
    rw [Bool.and_eq_true, Bool.and_eq_true, decide_eq_true_eq, decide_eq_true_eq, decide_eq_true_eq] at hf
    obtain ⟨f1, f2, f3⟩ := hf
    refine ⟨mset σ 219 12 0, lo, FP.f2d (FP.fdiv (FP.i2f (nI S)) (FP.i2f (nI (a 36)))), ?_, eqv_m eqv.rf irr_t _⟩
    rw [if_neg hz, hs, bd_s, gnf_s f1, bt_l, gnn64_s f2, bd4_s, h2, if_neg hz, nm_s, mset_same, if_pos rfl, hm, bd_s, mset_ne1 σ _ (by decide), h2, gnf_s f1, bd2_s, f_X13_thrown, mset_same, bd_s, if_pos rfl, if_pos rfl, gnn64_s f2, if_pos f3]
/-! what the depot and the reference note besides the state -/
def notR (σ : gM) : Prop := (σ 0 7 = σ 219 8 ∧ (σ 0 7 = -1 ∨ 0 ≤ σ 0 7)) ∧ (σ 0 8 = σ 219 9 ∧ (σ 0 8 = -1 ∨ 0 ≤ σ 0 8)) ∧
  (∃ t, t ≤ 60 ∧ σ 204 2 = nI t ∧ σ 219 7 = nI t ∧ ∀ j, j < t → σ 205 j = σ 224 j ∧ vp_nar .char (σ 205 j) = σ 205 j) ∧
  (∃ o, o ≤ 100 ∧ σ 217 1 = nI o ∧ σ 219 11 = nI o ∧ ∀ j, j < o → σ 218 j = σ 225 j ∧ vp_nar .char (σ 218 j) = σ 218 j)
theorem q_errorPosition {σ : gM} (N : notR σ) (lo : Int64) (dd : UInt64) (a1 a2 a3 : Int32) : tOk σ (f_T_44 σ lo dd a1 a2 a3) := by
  obtain ⟨⟨e, h⟩, -⟩ := N
  unfold f_T_44 f_L_errorPosition f_X12_errorPosition f_X13_errorPosition
  rcases h with h | h
  · refine ⟨mset σ 219 12 1, lo, dd, ?_, eqv_m eqv.rf irr_t _⟩
    rw [h, pr_no, bt_r, bt_r, if_pos rfl, bd4_s, ← e, h, if_pos rfl, f_X13_fails, nm_s, bd2_s, bd2_s, f_X13_thrown, mset_same, bd_s, if_pos rfl, if_neg (by decide)]
  · have hn : ¬ σ 0 7 = -1 := fun q => by rw [q] at h; exact absurd h (by decide)
    refine ⟨mset σ 219 12 0, (σ 0 7).toInt64, dd, ?_, eqv_m eqv.rf irr_t _⟩
    rw [pr_ok h, bt_l, bt_l, bd4_s, ← e, if_neg hn, f_X13_done, nm_s, bd2_s, bd2_s, f_X13_thrown, mset_same, bd_s, if_pos rfl, if_pos rfl, lg_s, if_pos rfl]
theorem q_failedCommand {σ : gM} (N : notR σ) (lo : Int64) (dd : UInt64) (a1 a2 a3 : Int32) : tOk σ (f_T_45 σ lo dd a1 a2 a3) := by
  obtain ⟨-, ⟨e, h⟩, -⟩ := N
  unfold f_T_45 f_L_failedCommand f_X12_failedCommand f_X13_failedCommand
  rcases h with h | h
  · refine ⟨mset σ 219 12 1, lo, dd, ?_, eqv_m eqv.rf irr_t _⟩
    rw [h, pr_no, bt_r, bt_r, if_pos rfl, bd4_s, ← e, h, if_pos rfl, f_X13_fails, nm_s, bd2_s, bd2_s, f_X13_thrown, mset_same, bd_s, if_pos rfl, if_neg (by decide)]
  · have hn : ¬ σ 0 8 = -1 := fun q => by rw [q] at h; exact absurd h (by decide)
    refine ⟨mset σ 219 12 0, (σ 0 8).toInt64, dd, ?_, eqv_m eqv.rf irr_t _⟩
    rw [pr_ok h, bt_l, bt_l, bd4_s, ← e, if_neg hn, f_X13_done, nm_s, bd2_s, bd2_s, f_X13_thrown, mset_same, bd_s, if_pos rfl, if_pos rfl, lg_s, if_pos rfl]
theorem q_outputChar {σ : gM} (N : notR σ) (lo : Int64) (dd : UInt64) (a1 a2 a3 : Int32) : tOk σ (f_T_47 σ lo dd a1 a2 a3) := by
  obtain ⟨-, -, -, ⟨o, ho, o1, o2, o3⟩⟩ := N
  unfold f_T_47 f_L_outputChar f_X12_outputChar f_X13_outputChar f_X10_size
  by_cases h : vp_in a1 o
  · obtain ⟨j, hj, rfl⟩ := vp_ex h
    obtain ⟨c1, c2⟩ := o3 j hj
    have c3 : vp_nar .char (σ 225 j) = σ 225 j := by rw [← c1]; exact c2
    refine ⟨mset σ 219 12 0, (σ 218 j).toInt64, dd, ?_, eqv_m eqv.rf irr_t _⟩
    rw [bd_s, o1, rq_ok hj (by omega), bt_l, f_X10_at, nI_gi (by omega) (by omega), g_nIc (by omega), gn_s c2, bd_s, gn_s c2, bt_l, bd4_s, o2, in_ok hj (by omega), bd_s, if_neg (by decide), nm_s, mset_same, if_pos rfl, nI_gi (by omega) (by omega), mset_ne1 σ _ (by decide), gn_s c3, bd2_s, f_X13_thrown, mset_same, bd_s, if_pos rfl, if_pos rfl, c1, lg_s, if_pos rfl]
  · refine ⟨mset σ 219 12 1, lo, dd, ?_, eqv_m eqv.rf irr_t _⟩
    rw [bd_s, o1, rq_no h (by omega), bt_r, bt_r, if_pos rfl, bd4_s, o2, in_no h (by omega), bd_s, if_pos rfl, nm_s, mset_same, if_neg (by decide), bd2_s, f_X13_thrown, mset_same, bd_s, if_pos rfl, if_neg (by decide)]
