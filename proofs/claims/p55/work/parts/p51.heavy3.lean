theorem fnd_or {β : Type} {P : Nat → Bool} {hit : Nat → β} {miss : β} : ∀ k i, fnd P hit miss i k = miss ∨ ∃ j, j < i + k ∧ fnd P hit miss i k = hit j
  | 0, _ => Or.inl rfl
  | k + 1, i => by
    unfold fnd
    by_cases h : P i = true
    · rw [if_pos h]; exact Or.inr ⟨i, by omega, rfl⟩
    · rw [if_neg h]
      rcases fnd_or (P := P) (hit := hit) (miss := miss) k (i + 1) with h2 | ⟨j, h2, h3⟩
      · exact Or.inl h2
      · exact Or.inr ⟨j, by omega, h3⟩
theorem gs2_l {α β γ : Type} (a : α) (k1 : α → Option γ) (k2 : β → Option γ) : gs2 (some (.inl a)) k1 k2 = k1 a := rfl
theorem gs2_r {α β γ : Type} (b : β) (k1 : α → Option γ) (k2 : β → Option γ) : gs2 (some (.inr b)) k1 k2 = k2 b := rfl
