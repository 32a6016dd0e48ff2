theorem e_countAt {σ : gM} {e : Nat → Int32} {a : Nat → Nat} (R : nowR σ e a) {w : Int32} {P : Nat → Prop} [DecidablePred P] (hP : ∀ p, p < a 36 → (wh (a (76 + p)) (a (88 + p)) = w) = P p) : f_X8_countAt σ w = some (nI (sm (fun p => if P p then 1 else 0) (a 36))) := by
  obtain ⟨⟨-, -, hn, hp, -⟩, -, ⟨v1, -, -, -, v5, -⟩⟩ := R
  unfold f_X8_countAt
  rw [show f_X8_countAt_L4 w σ gFU 0 0 = some (nI (sm (fun p => if P p then 1 else 0) (a 36))) from
    loop_sum (F := fun n i v => f_X8_countAt_L4 w σ n v i) (fin := fun v => v) (by omega) (Nat.le_trans (sm_le (B := 1) (fun i hi => ?_)) (by omega)) (fun n i v hi => ?_) (fun n v => ?_)]
  · rfl
  · split <;> omega
  · obtain ⟨p1, p2, p3, p4, p5⟩ := hp i hi
    rw [f_X8_countAt_L4, show σ 7 5 = nI (a 36) from hn]
    simp (disch := omega) only [nI_leq, if_neg, nI_gi, g_nIc, nm_s, nI_s]
    rw [show σ 11 i = _ from p4]
    simp only [hP i hi]
    by_cases hc : P i
    · rw [if_pos hc, if_pos hc]; rfl
    · rw [if_neg hc, if_neg hc, nI_add0]
  · rw [f_X8_countAt_L4, show σ 7 5 = nI (a 36) from hn, if_pos (by rw [nI_leq (by omega) (by omega)]; omega)]
theorem e_waiting {σ : gM} {e : Nat → Int32} {a : Nat → Nat} (R : nowR σ e a) : f_X8_countAt σ (-1) = some (nI (sm (fun p => if a (76 + p) = 0 then 1 else 0) (a 36))) :=
  e_countAt R (fun p hp => wh_in (R.2.2.2.2.2.2.1 p hp).2.2.2.2.2)
theorem e_delivered {σ : gM} {e : Nat → Int32} {a : Nat → Nat} (R : nowR σ e a) : f_X8_countAt σ (-2) = some (nI (sm (fun p => if a (76 + p) = 2 then 1 else 0) (a 36))) :=
  e_countAt R (fun p hp => wh_out (R.2.2.2.2.2.2.1 p hp).2.2.2.2.2 (R.2.2.2.2.2.2.1 p hp).2.2.2.2.1)
theorem pr_no (σ : gM) : f_X12_present σ (-1) = some (.inr 4) := by
  unfold f_X12_present
  rw [if_pos rfl]
  unfold f_X12_accepted
  rw [if_pos rfl]; rfl
theorem ac_ok {σ : gM} {x : Int32} (h : 0 ≤ x) : f_X12_accepted σ x = some (.inl x) := by
  have h1 : ∀ y : Int32, y < 0 → x ≠ y := by
    intro y hy e
    subst e
    rw [Int32.lt_iff_toInt_lt] at hy
    rw [Int32.le_iff_toInt_le] at h
    omega
  unfold f_X12_accepted
  rw [if_neg (h1 _ (by decide)), if_neg (h1 _ (by decide)), if_neg (h1 _ (by decide)), if_neg (h1 _ (by decide)), if_neg (h1 _ (by decide))]
theorem pr_ok {σ : gM} {x : Int32} (h : 0 ≤ x) : f_X12_present σ x = some (.inl x) := by
  unfold f_X12_present
  have h1 : x ≠ -1 := by
    intro e
    subst e
    exact absurd h (by decide)
  rw [if_neg h1, ac_ok h]; rfl
theorem nI_ge0 {j : Nat} (h : j ≤ 4096) : (0 : Int32) ≤ nI j := by
  rw [show (0 : Int32) = nI 0 from rfl, nI_leq (by omega) h]; omega
theorem q_waitingCount {σ : gM} {e : Nat → Int32} {a : Nat → Nat} (R : nowR σ e a) : f_X12_waitingCount σ = some (nI (sm (fun p => if a (76 + p) = 0 then 1 else 0) (a 36))) := by
  unfold f_X12_waitingCount
  rw [e_waiting R, bd_s]
theorem q_deliveredCount {σ : gM} {e : Nat → Int32} {a : Nat → Nat} (R : nowR σ e a) : f_X12_deliveredCount σ = some (nI (sm (fun p => if a (76 + p) = 2 then 1 else 0) (a 36))) := by
  unfold f_X12_deliveredCount
  rw [e_delivered R, bd_s]
/-- a parcel's state as a letter -/
def stL (s : Nat) : Int32 := if s = 0 then 119 else if s = 1 then 115 else 100
theorem q_state {σ : gM} {e : Nat → Int32} {a : Nat → Nat} (R : nowR σ e a) {j : Nat} (hj : j < a 36) : f_X12_state σ (nI j) = some (.inl (stL (a (76 + j)))) := by
  have hN : a 36 ≤ 12 := R.2.2.1
  obtain ⟨-, -, -, p1, -⟩ := R.1.2.2.2.1 j hj
  obtain ⟨-, -, -, -, q5, q6⟩ := R.2.2.2.2.2.2.1 j hj
  have e0 := wh_in (s := a (76 + j)) q6
  have e2 := wh_out (s := a (76 + j)) q6 q5
  unfold f_X12_state
  rw [ps_ok R hj, bt_l, f_X8_stateOf, nI_gi (by omega) (by omega), g_nIc (by omega), show σ 11 j = _ from p1, nI_gi (by omega) (by omega)]
  simp only [e0, e2]
  have h3 : a (76 + j) = 0 ∨ a (76 + j) = 1 ∨ a (76 + j) = 2 := by omega
  rcases h3 with h3 | h3 | h3
  · rw [if_pos h3, bd_s, gn_s (by decide), h3]; rfl
  · rw [if_neg (by omega), if_neg (by omega), bd_s, gn_s (by decide), h3]; rfl
  · rw [if_neg (by omega), if_pos h3, bd_s, gn_s (by decide), h3]; rfl
theorem q_sackOf {σ : gM} {e : Nat → Int32} {a : Nat → Nat} (R : nowR σ e a) {j : Nat} (hj : j < a 36) (h1 : a (76 + j) = 1) : f_X12_sackOf σ (nI j) = some (.inl (nI (a (88 + j)))) := by
  have hN : a 36 ≤ 12 := R.2.2.1
  obtain ⟨-, -, -, p1, -⟩ := R.1.2.2.2.1 j hj
  obtain ⟨-, -, -, -, q5, q6⟩ := R.2.2.2.2.2.2.1 j hj
  unfold f_X12_sackOf
  rw [ps_ok R hj, bt_l, f_X8_whereIs, nI_gi (by omega) (by omega), g_nIc (by omega), show σ 11 j = _ from p1, bd_s, h1, show wh 1 (a (88 + j)) = nI (a (88 + j)) from rfl, show f_X12_isIndex σ (nI (a (88 + j))) 3 = _ from ix_ok (N := 3) (by omega) (by omega), bd_s, if_neg (by decide), pr_ok (nI_ge0 (j := a (88 + j)) (by omega)), bt_l]
