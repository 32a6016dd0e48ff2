/-! a glove is bought -/
def byA (a : Nat → Nat) (g : Nat) : Nat → Nat := pt (pt (pt a (112 + a 37) g) (120 + a 37) 0) 37 (a 37 + 1)
theorem by_ok {e : Nat → Int32} {a : Nat → Nat} (V : vdR e a) {g : Nat} (w1 : 1 ≤ g) (w2 : g ≤ 3) (h : a 37 < 8) : okD (fun τ => f_X3_addGlove τ (nI g)) e a (nI (a 37)) e (byA a g) ∧ vdR e (byA a g) := by
  have x1 : ∀ τ, f_X12_isWithin τ (nI g) 1 3 = some 1 := fun τ => wi_ok (lo := 1) (hi := 3) w1 w2 (by omega)
  have ha : ∀ j, j ≠ 112 + a 37 → j ≠ 120 + a 37 → j ≠ 37 → pt (pt (pt a (112 + a 37) g) (120 + a 37) 0) 37 (a 37 + 1) j = a j := fun j j1 j2 j3 => (pt_n j3).trans ((pt_n j2).trans (pt_n j1))
  have e1 : pt (pt (pt a (112 + a 37) g) (120 + a 37) 0) 37 (a 37 + 1) 37 = a 37 + 1 := pt_s
  have e2 : pt (pt (pt a (112 + a 37) g) (120 + a 37) 0) 37 (a 37 + 1) (120 + a 37) = 0 := (pt_n (by omega)).trans pt_s
  have e3 : pt (pt (pt a (112 + a 37) g) (120 + a 37) 0) 37 (a 37 + 1) (112 + a 37) = g := (pt_n (by omega)).trans ((pt_n (by omega)).trans pt_s)
  unfold byA
  refine ⟨fun τ B => ?_, ?_⟩
  · have b13 : τ 13 2 = nI (a 37) := B.2.2.2.2.1
    have b133 : τ 13 3 = e 39 := B.2.2.2.2.2.1
    have b7 : ∀ i, i < a 37 → τ 14 i = nI (a (112 + i)) ∧ τ 15 i = nI (3 - a (120 + i)) := B.2.2.2.2.2.2.1
    refine ⟨mset (mset (mset τ 14 (a 37) (nI g)) 15 (a 37) 3) 13 2 (nI (a 37 + 1)), ?_, fun i hi => funext fun q => ?_, ?_⟩
    · show f_X3_addGlove τ (nI g) = _
      unfold f_X3_addGlove
      rw [x1 _, bd_s, if_neg (by decide), f_X6_isFull, b13, if_pos (by rw [show (8 : Int32) = nI 8 from rfl, nI_ltq (by omega) (by omega)]; exact h), bd_s, if_pos rfl, f_X6_add]
      simp (disch := omega) only [nI_gi, g_nIc, nm_s, mset_ne1, b13, nI_s]
      rw [bd2_s]
    · simp (disch := omega) only [mset_ne1]
    · refine blk_glo B V.1 (fun i i1 i2 i3 => funext fun q => ?_) (fun j hj => ha j (by omega) (by omega) (by omega)) (fun _ _ => rfl) ?_ ?_ (fun i hi => ?_)
      · rw [mset_ne1 _ _ i1, mset_ne1 _ _ i3, mset_ne1 _ _ i2]
      · rw [mset_same, e1]
      · rw [mset_ne2 _ _ (by decide), mset_ne1 _ _ (by decide), mset_ne1 _ _ (by decide), b133]
      · rw [e1] at hi
        by_cases hc : i = a 37
        · subst hc
          rw [e2, e3, mset_ne1 _ _ (by decide), mset_ne1 _ _ (by decide), mset_same, mset_ne1 _ _ (by decide), mset_same]
          exact ⟨rfl, rfl⟩
        · rw [ha (112 + i) (by omega) (by omega) (by omega), ha (120 + i) (by omega) (by omega) (by omega), mset_ne1 _ _ (by decide), mset_ne1 _ _ (by decide), mset_ne2 _ _ hc, mset_ne1 _ _ (by decide), mset_ne2 _ _ hc, mset_ne1 _ _ (by decide)]
          exact b7 i (by omega)
  · obtain ⟨v1, v2, v3, v4, v5, v6, v7, v8⟩ := V
    refine ⟨by rw [ha 36 (by omega) (by omega) (by omega)]; exact v1, by rw [e1]; omega, fun p q hp hq => ?_, fun p hp => ?_, fun q hq => ?_, fun q q1 q2 => ?_, fun i hi => ?_, fun p hp => ?_⟩
    · rw [ha (6 * p + q) (by omega) (by omega) (by omega), ha (6 * q + p) (by omega) (by omega) (by omega)]; exact v3 p q hp hq
    · rw [ha (6 * p + p) (by omega) (by omega) (by omega)]; exact v4 p hp
    · rw [ha 36 (by omega) (by omega) (by omega)] at hq
      rw [ha (40 + q) (by omega) (by omega) (by omega), ha (52 + q) (by omega) (by omega) (by omega), ha (64 + q) (by omega) (by omega) (by omega), ha (76 + q) (by omega) (by omega) (by omega), ha (88 + q) (by omega) (by omega) (by omega)]; exact v5 q hq
    · rw [ha 36 (by omega) (by omega) (by omega)] at q1
      rw [ha (76 + q) (by omega) (by omega) (by omega), ha (88 + q) (by omega) (by omega) (by omega)]; exact v6 q q1 q2
    · rw [e1] at hi
      by_cases hc : i = a 37
      · subst hc; rw [e2, e3]; omega
      · rw [ha (112 + i) (by omega) (by omega) (by omega), ha (120 + i) (by omega) (by omega) (by omega)]; exact v7 i (by omega)
    · rw [ha (128 + p) (by omega) (by omega) (by omega), ha (131 + p) (by omega) (by omega) (by omega), loadN_congr (b := a) (ha 36 (by omega) (by omega) (by omega)) (fun q hq => ⟨ha _ (by omega) (by omega) (by omega), ha _ (by omega) (by omega) (by omega), ha _ (by omega) (by omega) (by omega)⟩) p]; exact v8 p hp
theorem by_no1 {e : Nat → Int32} {a : Nat → Nat} {a1 : Int32} (hw : ∀ τ, f_X12_isWithin τ a1 1 3 = some 0) : noD (fun τ => f_X3_addGlove τ a1) e a 1 := by
  refine noD_i (fun τ B => ?_)
  show f_X3_addGlove τ a1 = _
  unfold f_X3_addGlove
  rw [hw τ, bd_s, if_pos rfl]; rfl
theorem by_chg (a1 : Int32) : chgD (fun τ => f_X3_addGlove τ a1) := by
  intro e a V
  have h8 : a 37 ≤ 8 := V.2.1
  rcases wi_no (x := a1) (lo := 1) (hi := 3) (by omega) (by omega) with ⟨g, w1, w2, rfl⟩ | hw
  · have x1 : ∀ τ, f_X12_isWithin τ (nI g) 1 3 = some 1 := fun τ => wi_ok (lo := 1) (hi := 3) w1 w2 (by omega)
    by_cases h : a 37 < 8
    · exact Or.inl ⟨nI (a 37), e, byA a g, nI_ge0 (by omega), (by_ok V w1 w2 h).1, (by_ok V w1 w2 h).2, gP_of (fun j hj => (pt_n (by omega)).trans ((pt_n (by omega)).trans (pt_n (by omega))))⟩
    · refine Or.inr ⟨2, by omega, noD_i (fun τ B => ?_)⟩
      have b13 : τ 13 2 = nI (a 37) := B.2.2.2.2.1
      show f_X3_addGlove τ (nI g) = _
      unfold f_X3_addGlove
      rw [x1 _, bd_s, if_neg (by decide), f_X6_isFull, b13, if_neg (by rw [show (8 : Int32) = nI 8 from rfl, nI_ltq (by omega) (by omega)]; exact h), bd_s, if_neg (by decide)]; rfl
  · exact Or.inr ⟨1, by omega, by_no1 hw⟩
