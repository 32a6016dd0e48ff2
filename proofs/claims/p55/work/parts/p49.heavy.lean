def fnd {β : Type} (P : Nat → Bool) (hit : Nat → β) (miss : β) : Nat → Nat → β
  | _, 0 => miss
  | i, k + 1 => if P i = true then hit i else fnd P hit miss (i + 1) k
theorem loop_find {β : Type} {F : Nat → Int32 → Option β} {N : Nat} {P : Nat → Bool} {hit : Nat → β} {miss : β} (hN : N < 4000) (hs : ∀ n i, i < N → F (n + 1) (nI i) = if P i = true then some (hit i) else F n (nI (i + 1))) (he : ∀ n, F (n + 1) (nI N) = some miss) : F gFU 0 = some (fnd P hit miss 0 N) := by
  have key : ∀ k i n, i + k = N → k < n → F n (nI i) = some (fnd P hit miss i k) := by
    intro k
    induction k with
    | zero =>
      intro i n hi hn
      obtain ⟨m, rfl⟩ : ∃ m, n = m + 1 := ⟨n - 1, by omega⟩
      have hi : i = N := by omega
      subst hi
      exact he m
    | succ k ih =>
      intro i n hi hn
      obtain ⟨m, rfl⟩ : ∃ m, n = m + 1 := ⟨n - 1, by omega⟩
      rw [hs m i (by omega), fnd]
      by_cases h : P i = true
      · rw [if_pos h, if_pos h]
      · rw [if_neg h, if_neg h]
        exact ih (i + 1) m (by omega) (by omega)
  exact key N 0 gFU (by omega) (by rw [gFU_eq]; omega)
def ahB (a : Nat → Nat) (o p : Nat) : Bool := decide (a (40 + p) < a (40 + o)) || (decide (a (40 + o) = a (40 + p)) && (decide (a (52 + p) < a (52 + o)) || (decide (a (52 + o) = a (52 + p)) && decide (o < p))))
theorem ahB_eq (a : Nat → Nat) (o p : Nat) : (ahB a o p = true) = (a (40 + p) < a (40 + o) ∨ (a (40 + o) = a (40 + p) ∧ (a (52 + p) < a (52 + o) ∨ (a (52 + o) = a (52 + p) ∧ o < p)))) := by
  unfold ahB; simp
theorem e_before {σ : gM} {e : Nat → Int32} {a : Nat → Nat} (R : nowR σ e a) {o p : Nat} (ho : o < a 36) (hp : p < a 36) : f_X8_comesBefore σ (nI o) (nI p) = some (if ahB a o p = true then 1 else 0) := by
  have hN : a 36 ≤ 12 := R.2.2.1
  obtain ⟨p1, p2, -⟩ := R.1.2.2.2.1 o ho
  obtain ⟨p3, p4, -⟩ := R.1.2.2.2.1 p hp
  obtain ⟨q1, q2, q3, -⟩ := R.2.2.2.2.2.2.1 o ho
  obtain ⟨q4, q5, q6, -⟩ := R.2.2.2.2.2.2.1 p hp
  unfold f_X8_comesBefore
  simp (disch := omega) only [nI_gi, g_nIc]
  rw [show σ 8 o = _ from p1, show σ 9 o = _ from p2, show σ 8 p = _ from p3, show σ 9 p = _ from p4]
  simp (disch := omega) only [nI_inj, nI_leq]
  simp only [ahB_eq]
  by_cases h1 : a (40 + o) = a (40 + p)
  · by_cases h2 : a (52 + o) = a (52 + p)
    · by_cases h3 : p ≤ o
      · rw [if_pos h1, if_pos h2, if_pos h3, if_neg (by omega)]
      · rw [if_pos h1, if_pos h2, if_neg h3, if_pos (by omega)]
    · by_cases h3 : a (52 + o) ≤ a (52 + p)
      · rw [if_pos h1, if_neg h2, if_pos h3, if_neg (by omega)]
      · rw [if_pos h1, if_neg h2, if_neg h3, if_pos (by omega)]
  · by_cases h3 : a (40 + o) ≤ a (40 + p)
    · rw [if_neg h1, if_pos h3, if_neg (by omega)]
    · rw [if_neg h1, if_neg h3, if_pos (by omega)]
def rkN (a : Nat → Nat) (p : Nat) : Nat := sm (fun o => if a (76 + o) = 2 then 0 else if ahB a o p = true then 1 else 0) (a 36)
theorem e_rankOf {σ : gM} {e : Nat → Int32} {a : Nat → Nat} (R : nowR σ e a) {p : Nat} (hp : p < a 36) : f_X8_rankOf σ (nI p) = some (nI (rkN a p)) := by
  have hN : a 36 ≤ 12 := R.2.2.1
  have hn : σ 7 5 = nI (a 36) := R.1.2.2.1
  unfold f_X8_rankOf
  rw [show f_X8_rankOf_L4 (nI p) σ gFU 0 0 = some (nI (rkN a p)) from
    loop_sum (F := fun n i v => f_X8_rankOf_L4 (nI p) σ n v i) (fin := fun v => v) (by omega) (Nat.le_trans (sm_le (B := 1) (fun i hi => by split <;> (try split) <;> omega)) (by omega)) (fun n i v hi => ?_) (fun n v => ?_)]
  · rfl
  · obtain ⟨-, -, -, p4, -⟩ := R.1.2.2.2.1 i hi
    obtain ⟨-, -, -, -, q5, q6⟩ := R.2.2.2.2.2.2.1 i hi
    show f_X8_rankOf_L4 (nI p) σ (n + 1) v (nI i) = f_X8_rankOf_L4 (nI p) σ n (v + nI (if a (76 + i) = 2 then 0 else if ahB a i p = true then 1 else 0)) (nI (i + 1))
    rw [f_X8_rankOf_L4, hn]
    simp (disch := omega) only [nI_leq, if_neg, nI_gi, g_nIc, nm_s, nI_s]
    rw [show σ 11 i = _ from p4, e_before R hi hp, bd_s]
    simp only [wh_out q6 q5]
    by_cases h1 : a (76 + i) = 2
    · rw [if_pos h1, if_pos h1, nI_add0]
    · rw [if_neg h1, if_neg h1]
      by_cases h2 : ahB a i p = true
      · rw [if_pos h2, if_pos h2, if_neg (by decide)]; rfl
      · rw [if_neg h2, if_neg h2, if_pos rfl, nI_add0]
  · show f_X8_rankOf_L4 (nI p) σ (n + 1) v (nI (a 36)) = _
    rw [f_X8_rankOf_L4, hn, if_pos (by rw [nI_leq (by omega) (by omega)]; omega)]

