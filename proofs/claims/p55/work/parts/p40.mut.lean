/-! a change that is recorded -/
def shR (σ : gM) (n : Nat) : gM := rset σ 222 (fun q => if q < n then σ 222 (q + 134) else σ 222 q)
theorem shR_0 {σ : gM} : shR σ 0 = σ := by
  funext i q
  unfold shR
  by_cases hi : i = 222
  · subst hi
    rw [rset_eq, if_neg (by omega)]
  · rw [rset_ne _ _ hi]
theorem shR_s {σ : gM} {n : Nat} : mset (shR σ n) 222 n (shR σ n 222 (n + 134)) = shR σ (n + 1) := by
  funext i q
  by_cases hi : i = 222
  · subst hi
    by_cases hq : q = n
    · subst hq
      rw [mset_same]
      unfold shR
      rw [rset_eq, rset_eq, if_neg (by omega), if_pos (by omega)]
    · rw [mset_ne2 _ _ hq]
      unfold shR
      rw [rset_eq, rset_eq]
      by_cases h : q < n
      · rw [if_pos h, if_pos (by omega)]
      · rw [if_neg h, if_neg (by omega)]
  · rw [mset_ne1 _ _ hi]
    unfold shR
    rw [rset_ne _ _ hi, rset_ne _ _ hi]
theorem e_keep {σ : gM} {c nx : Nat} (hc : c ≤ 8) (hx : nx ≤ 8) (h1 : σ 199 1 = nI nx) (h2 : σ 199 2 = nI c) : f_X7_keep σ = some (mset (mset σ 199 1 (nI ((nx + 1) % 9))) 199 2 (nI (min (c + 1) 8))) := by
  have e1 : (nI nx + 1) - (nI nx + 1) / 9 * 9 = nI ((nx + 1) % 9) := by
    rcases (show nx = 0 ∨ nx = 1 ∨ nx = 2 ∨ nx = 3 ∨ nx = 4 ∨ nx = 5 ∨ nx = 6 ∨ nx = 7 ∨ nx = 8 by omega) with rfl | rfl | rfl | rfl | rfl | rfl | rfl | rfl | rfl <;> decide
  have e2 : (if 8 < (nI c + 1) then 8 else (nI c + 1)) = nI (min (c + 1) 8) := by
    rcases (show c = 0 ∨ c = 1 ∨ c = 2 ∨ c = 3 ∨ c = 4 ∨ c = 5 ∨ c = 6 ∨ c = 7 ∨ c = 8 by omega) with rfl | rfl | rfl | rfl | rfl | rfl | rfl | rfl | rfl <;> decide
  unfold f_X7_keep
  rw [nm_s, nm_s, h1, e1, mset_ne2 _ _ (by decide), h2, e2]
