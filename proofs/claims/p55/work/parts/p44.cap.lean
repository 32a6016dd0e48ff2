theorem d_weightAt {σ : gM} {e : Nat → Int32} {a : Nat → Nat} (B : blkR σ 0 e a) (V : vdR e a) {w : Nat} (hw : w ≤ 2) : f_X8_weightAt σ (nI w) = some (nI (loadN a w)) := by
  obtain ⟨-, -, hn, hp, -⟩ := B
  obtain ⟨v1, -, -, -, v5, -⟩ := V
  unfold f_X8_weightAt
  rw [show f_X8_weightAt_L4 (nI w) σ gFU 0 0 = some (nI (loadN a w)) from
    loop_sum (F := fun n i v => f_X8_weightAt_L4 (nI w) σ n v i) (fin := fun v => v) (by omega) (Nat.le_trans (sm_le (B := 20) (fun i hi => ?_)) (by omega)) (fun n i v hi => ?_) (fun n v => ?_)]
  · rfl
  · have := v5 i hi
    split <;> omega
  · obtain ⟨p1, p2, p3, p4, p5⟩ := hp i hi
    obtain ⟨q1, q2, q3, q4, q5, q6⟩ := v5 i hi
    rw [f_X8_weightAt_L4, show σ 7 5 = nI (a 36) from hn]
    simp (disch := omega) only [nI_leq, if_neg, nI_gi, g_nIc, nm_s, nI_s]
    rw [show σ 11 i = _ from p4, show σ 8 i = _ from p1]
    simp only [wh_eq q6 hw]
    by_cases hc : a (76 + i) = 1 ∧ a (88 + i) = w
    · rw [if_pos hc, if_pos hc]
    · rw [if_neg hc, if_neg hc, nI_add0]
  · rw [f_X8_weightAt_L4, show σ 7 5 = nI (a 36) from hn, if_pos (by rw [nI_leq (by omega) (by omega)]; omega)]
def pt (a : Nat → Nat) (j x : Nat) : Nat → Nat := fun i => if i = j then x else a i
theorem pt_s {a : Nat → Nat} {j x : Nat} : pt a j x j = x := if_pos rfl
theorem pt_n {a : Nat → Nat} {j x i : Nat} (h : i ≠ j) : pt a j x i = a i := if_neg h
theorem thr {τ : gM} {i q : Nat} {x : Int32} (h : ¬ (i = 219 ∧ q = 12)) : mset τ 219 12 x i q = τ i q := by
  by_cases h9 : i = 219
  · subst h9; exact mset_ne2 _ _ (fun e => h ⟨rfl, e⟩)
  · exact mset_ne1 _ _ h9
