/-! the glove and the safety, from a block alone -/
theorem d_pref {σ : gM} {e : Nat → Int32} {a : Nat → Nat} (B : blkR σ 0 e a) (V : vdR e a) {n m : Nat} (hn : n < a 37) (hm : m < a 37) : f_X6_isPreferred σ (nI n) (nI m) = some (if betB a n m = true then 1 else 0) := by
  have hN : a 37 ≤ 8 := V.2.1
  obtain ⟨p1, p2⟩ := B.2.2.2.2.2.2.1 n hn
  obtain ⟨p3, p4⟩ := B.2.2.2.2.2.2.1 m hm
  obtain ⟨q1, q2, q3⟩ := V.2.2.2.2.2.2.1 n hn
  obtain ⟨q4, q5, q6⟩ := V.2.2.2.2.2.2.1 m hm
  unfold f_X6_isPreferred
  simp (disch := omega) only [nI_gi, g_nIc]
  rw [show σ 14 n = _ from p1, show σ 15 n = _ from p2, show σ 14 m = _ from p3, show σ 15 m = _ from p4]
  simp (disch := omega) only [nI_inj, nI_leq]
  have hb : (betB a n m = true) = (a (112 + n) < a (112 + m) ∨ (a (112 + n) = a (112 + m) ∧ a (120 + m) < a (120 + n))) := by
    unfold betB; simp
  simp only [hb]
  by_cases h1 : a (112 + n) = a (112 + m)
  · by_cases h2 : a (120 + m) < a (120 + n)
    · rw [if_pos h1, if_neg (by omega), if_pos (by omega)]
    · rw [if_pos h1, if_pos (by omega), if_neg (by omega)]
  · by_cases h2 : a (112 + m) ≤ a (112 + n)
    · rw [if_neg h1, if_pos h2, if_neg (by omega)]
    · rw [if_neg h1, if_neg h2, if_pos (by omega)]
theorem d_best {σ : gM} {e : Nat → Int32} {a : Nat → Nat} (B : blkR σ 0 e a) (V : vdR e a) {h : Nat} (hh : h ≤ 3) : f_X6_bestAgainst σ (nI h) = some (oI (bst a h (a 37))) := by
  have hN : a 37 ≤ 8 := V.2.1
  have hn : σ 13 2 = nI (a 37) := B.2.2.2.2.1
  unfold f_X6_bestAgainst
  rw [show f_X6_bestAgainst_L4 (nI h) σ gFU (-1) 0 = some (oI (bst a h (a 37))) from
    loop_val (F := fun n i v => f_X6_bestAgainst_L4 (nI h) σ n v i) (N := a 37) (val := fun i => oI (bst a h i)) (by omega) (fun n i hi => ?_) (fun n => ?_)]
  · rfl
  · obtain ⟨p1, p2⟩ := B.2.2.2.2.2.2.1 i hi
    obtain ⟨q1, q2, q3⟩ := V.2.2.2.2.2.2.1 i hi
    have hle := bst_le a h i
    show f_X6_bestAgainst_L4 (nI h) σ (n + 1) (oI (bst a h i)) (nI i) = f_X6_bestAgainst_L4 (nI h) σ n (oI (bst a h (i + 1))) (nI (i + 1))
    rw [f_X6_bestAgainst_L4, hn]
    simp (disch := omega) only [nI_leq, if_neg, nI_gi, g_nIc, nm_s, nI_s]
    rw [show σ 14 i = _ from p1]
    simp (disch := omega) only [nI_ltq, oI_eq]
    show _ = f_X6_bestAgainst_L4 (nI h) σ n (oI (if a (112 + i) < h then bst a h i else if bst a h i = 0 then i + 1 else if betB a i (bst a h i - 1) = true then i + 1 else bst a h i)) (nI (i + 1))
    by_cases h1 : a (112 + i) < h
    · rw [if_pos h1, if_pos h1]
    · rw [if_neg h1, if_neg h1]
      by_cases h2 : bst a h i = 0
      · rw [if_pos h2, if_pos h2]; rfl
      · rw [if_neg h2, if_neg h2]
        have eo : oI (bst a h i) = nI (bst a h i - 1) := if_neg h2
        rw [eo, d_pref B V hi (show bst a h i - 1 < a 37 by omega), bd_s]
        by_cases h3 : betB a i (bst a h i - 1) = true
        · rw [if_pos h3, if_pos h3, if_neg (by decide)]; rfl
        · rw [if_neg h3, if_neg h3, if_pos rfl, eo]
  · show f_X6_bestAgainst_L4 (nI h) σ (n + 1) (oI (bst a h (a 37))) (nI (a 37)) = _
    rw [f_X6_bestAgainst_L4, hn, if_pos (by rw [nI_leq (by omega) (by omega)]; omega)]
theorem d_isSafe {σ : gM} {e : Nat → Int32} {a : Nat → Nat} (B : blkR σ 0 e a) (V : vdR e a) {j : Nat} (hj : j < a 36) : f_X3_isSafe σ (nI j) = some (if sfB a j = true then 1 else 0) := by
  have hN : a 36 ≤ 12 := V.1
  have hM : a 37 ≤ 8 := V.2.1
  obtain ⟨-, p1, -⟩ := B.2.2.2.1 j hj
  obtain ⟨-, -, q3, -⟩ := V.2.2.2.2.1 j hj
  have hle := bst_le a (a (52 + j)) (a 37)
  unfold f_X3_isSafe f_X8_hazardOf
  rw [nI_gi (by omega) (by omega), g_nIc (by omega), show σ 9 j = _ from p1, bd_s, show (0 : Int32) = nI 0 from rfl]
  simp (disch := omega) only [nI_inj]
  by_cases h0 : a (52 + j) = 0
  · rw [if_pos h0, if_pos (by unfold sfB; simp [h0])]
  · rw [if_neg h0, d_best B V q3, bd_s]
    simp (disch := omega) only [oI_eq]
    by_cases h1 : bst a (a (52 + j)) (a 37) = 0
    · rw [if_pos h1, if_neg (by unfold sfB; simp [h0, h1])]
    · rw [if_neg h1, if_pos (by unfold sfB; simp [h1])]

