theorem fnd_or {β : Type} {P : Nat → Bool} {hit : Nat → β} {miss : β} : ∀ k i, fnd P hit miss i k = miss ∨ ∃ j, j < i + k ∧ fnd P hit miss i k = hit j
  | 0, _ => Or.inl rfl
  | k + 1, i => by
    unfold fnd
    by_cases h : P i = true
    · rw [if_pos h]; exact Or.inr ⟨i, by omega, rfl⟩
    · rw [if_neg h]
      rcases fnd_or (P := P) (hit := hit) (miss := miss) k (i + 1) with h2 | ⟨j, h2, h3⟩
      · exact Or.inl h2
      · exact Or.inr ⟨j, by omega, h3⟩
theorem gs2_l {α β γ : Type} (a : α) (k1 : α → Option γ) (k2 : β → Option γ) : gs2 (some (.inl a)) k1 k2 = k1 a := rfl
theorem gs2_r {α β γ : Type} (b : β) (k1 : α → Option γ) (k2 : β → Option γ) : gs2 (some (.inr b)) k1 k2 = k2 b := rfl
theorem q_heaviest {σ : gM} {a : Nat → Nat} (R : nowR σ a) (lo : Int64) (dd : UInt64) (a1 a2 a3 : Int32) : tOk σ (f_T_38 σ lo dd a1 a2 a3) := by
  have hN : a 36 ≤ 12 := R.2.2.1
  obtain ⟨h1, h2⟩ := e_atRank R a1
  unfold f_T_38 f_L_heaviest f_X12_heaviest f_X13_heaviest f_X8_atRank
  rw [h1]
  rcases fnd_or (P := hvB a a1) (hit := fun j => (.inl (nI j) : Int32 ⊕ Unit)) (miss := .inr ()) (a 36) 0 with h | ⟨j, hj, h⟩
  · have e : hvR a a1 = .inr () := h
    refine ⟨mset σ 219 12 1, lo, dd, ?_, eqv_m eqv.rf irr_t _⟩
    rw [e, gs2_r, bd_s, pr_no, bt_r, bt_r, if_pos rfl, bd4_s, h2, e, gs2_r, f_X13_fails, nm_s, bd2_s, bd2_s, f_X13_thrown, mset_same, bd_s, if_pos rfl, if_neg (by decide)]
  · have e : hvR a a1 = .inl (nI j) := h
    refine ⟨mset σ 219 12 0, (nI j).toInt64, dd, ?_, eqv_m eqv.rf irr_t _⟩
    rw [e, gs2_l, bd_s, pr_ok (nI_ge0 (j := j) (by omega)), bt_l, bt_l, bd4_s, h2, e, gs2_l, f_X13_done, nm_s, bd2_s, bd2_s, f_X13_thrown, mset_same, bd_s, if_pos rfl, if_pos rfl, lg_s, if_pos rfl]
theorem k_T_38 : turnOk f_T_38 := turn_q (fun σ a R lo dd a1 a2 a3 => q_heaviest R lo dd a1 a2 a3)
