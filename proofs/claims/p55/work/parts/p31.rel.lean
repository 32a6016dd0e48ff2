/-! what a block of the depot and a row of the reference stand for: numbers a 0 .. a 133 -/
def wh (s k : Nat) : Int32 := if s = 0 then -1 else if s = 1 then nI k else -2
def roadsN (a : Nat → Nat) : Nat := sm (fun i => sm (fun j => if 0 < a (6 * i + j) then 1 else 0) i) 6
def loadN (a : Nat → Nat) (w : Nat) : Nat := sm (fun p => if a (76 + p) = 1 ∧ a (88 + p) = w then a (40 + p) else 0) (a 36)
/-- the depot's block -/
def blkR (σ : gM) (k : Nat) (r : Nat → Int32) (a : Nat → Nat) : Prop :=
  (∀ i, i < 36 → σ (1 + 18 * k + 2) i = nI (a i)) ∧ σ (1 + 18 * k + 1) 4 = nI (roadsN a) ∧ σ (1 + 18 * k + 6) 5 = nI (a 36) ∧
  (∀ p, p < a 36 → σ (1 + 18 * k + 7) p = nI (a (40 + p)) ∧ σ (1 + 18 * k + 8) p = nI (a (52 + p)) ∧ σ (1 + 18 * k + 9) p = nI (a (64 + p)) ∧ σ (1 + 18 * k + 10) p = wh (a (76 + p)) (a (88 + p)) ∧ σ (1 + 18 * k + 11) p = r (100 + p)) ∧
  σ (1 + 18 * k + 12) 2 = nI (a 37) ∧ σ (1 + 18 * k + 12) 3 = r 39 ∧ (∀ i, i < a 37 → σ (1 + 18 * k + 13) i = nI (a (112 + i)) ∧ σ (1 + 18 * k + 14) i = nI (3 - a (120 + i))) ∧
  σ (1 + 18 * k + 15) 2 = r 38 ∧ (∀ i, i < 3 → σ (1 + 18 * k + 16) i = nI (a (128 + i)) ∧ σ (1 + 18 * k + 17) i = nI (a (131 + i)))
def vdR (r : Nat → Int32) (a : Nat → Nat) : Prop :=
  a 36 ≤ 12 ∧ a 37 ≤ 8 ∧ (∀ i j, i < 6 → j < 6 → a (6 * i + j) ≤ 20 ∧ a (6 * i + j) = a (6 * j + i)) ∧ (∀ i, i < 6 → a (6 * i + i) = 0) ∧
  (∀ p, p < a 36 → 1 ≤ a (40 + p) ∧ a (40 + p) ≤ 20 ∧ a (52 + p) ≤ 3 ∧ a (64 + p) ≤ 5 ∧ a (76 + p) ≤ 2 ∧ a (88 + p) ≤ 2) ∧
  (∀ p, a 36 ≤ p → p < 12 → (a (76 + p) = 0 ∧ a (88 + p) ≤ 2) ∧ r (100 + p) = 0) ∧ (∀ i, i < a 37 → 1 ≤ a (112 + i) ∧ a (112 + i) ≤ 3 ∧ a (120 + i) ≤ 2) ∧
  (∀ i, i < 3 → a (128 + i) ≤ 5 ∧ 1 ≤ a (131 + i) ∧ a (131 + i) ≤ 60 ∧ loadN a i ≤ a (131 + i))
def nowR (σ : gM) (e : Nat → Int32) (a : Nat → Nat) : Prop := blkR σ 0 e a ∧ True ∧ vdR e a
theorem wh_eq {s k w : Nat} (hk : k ≤ 2) (hw : w ≤ 2) : (wh s k = nI w) = (s = 1 ∧ k = w) := by
  unfold wh
  by_cases h0 : s = 0
  · subst h0
    refine propext ⟨fun h => ?_, fun h => by omega⟩
    have h2 := congrArg Int32.toInt h
    rw [if_pos rfl, g_nIt (by omega)] at h2
    have : ((-1 : Int32)).toInt = -1 := by decide
    omega
  · by_cases h1 : s = 1
    · subst h1
      rw [if_neg h0, if_pos rfl, nI_inj (by omega) (by omega)]
      simp
    · rw [if_neg h0, if_neg h1]
      refine propext ⟨fun h => ?_, fun h => by omega⟩
      have h2 := congrArg Int32.toInt h
      rw [g_nIt (by omega)] at h2
      have : ((-2 : Int32)).toInt = -2 := by decide
      omega
theorem wh_in {s k : Nat} (hk : k ≤ 2) : (wh s k = -1) = (s = 0) := by
  unfold wh
  by_cases h0 : s = 0
  · simp [h0]
  · by_cases h1 : s = 1
    · rw [if_neg h0, if_pos h1]
      refine propext ⟨fun h => ?_, fun h => absurd h h0⟩
      have h2 := congrArg Int32.toInt h
      rw [g_nIt (by omega)] at h2
      have : ((-1 : Int32)).toInt = -1 := by decide
      omega
    · rw [if_neg h0, if_neg h1]
      exact propext ⟨fun h => absurd h (by decide), fun h => absurd h h0⟩
theorem wh_out {s k : Nat} (hk : k ≤ 2) (hs : s ≤ 2) : (wh s k = -2) = (s = 2) := by
  unfold wh
  by_cases h0 : s = 0
  · rw [if_pos h0]
    exact propext ⟨fun h => absurd h (by decide), fun h => by omega⟩
  · by_cases h1 : s = 1
    · rw [if_neg h0, if_pos h1]
      refine propext ⟨fun h => ?_, fun h => by omega⟩
      have h2 := congrArg Int32.toInt h
      rw [g_nIt (by omega)] at h2
      have : ((-2 : Int32)).toInt = -2 := by decide
      omega
    · rw [if_neg h0, if_neg h1]
      exact propext ⟨fun _ => by omega, fun _ => rfl⟩
theorem e_weightAt {σ : gM} {e : Nat → Int32} {a : Nat → Nat} (R : nowR σ e a) {w : Nat} (hw : w ≤ 2) : f_X8_weightAt σ (nI w) = some (nI (loadN a w)) := by
  obtain ⟨⟨-, -, hn, hp, -⟩, -, ⟨v1, -, -, -, v5, -⟩⟩ := R
  unfold f_X8_weightAt
  rw [show f_X8_weightAt_L4 (nI w) σ gFU 0 0 = some (nI (loadN a w)) from
    loop_sum (F := fun n i v => f_X8_weightAt_L4 (nI w) σ n v i) (fin := fun v => v) (by omega) (Nat.le_trans (sm_le (B := 20) (fun i hi => ?_)) (by omega)) (fun n i v hi => ?_) (fun n v => ?_)]
  · rfl
  · have := v5 i hi
    split <;> omega
  · obtain ⟨p1, p2, p3, p4, p5⟩ := hp i hi
    obtain ⟨q1, q2, q3, q4, q5, q6⟩ := v5 i hi
    rw [f_X8_weightAt_L4, show σ 7 5 = nI (a 36) from hn]
    simp (disch := omega) only [nI_leq, if_neg, nI_gi, g_nIc, nm_s, nI_s]
    rw [show σ 11 i = _ from p4, show σ 8 i = _ from p1]
    simp only [wh_eq q6 hw]
    by_cases hc : a (76 + i) = 1 ∧ a (88 + i) = w
    · rw [if_pos hc, if_pos hc]
    · rw [if_neg hc, if_neg hc, nI_add0]
  · rw [f_X8_weightAt_L4, show σ 7 5 = nI (a 36) from hn, if_pos (by rw [nI_leq (by omega) (by omega)]; omega)]
