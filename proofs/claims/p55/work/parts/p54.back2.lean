theorem cb_ok {e : Nat → Int32} {a : Nat → Nat} (V : vdR e a) {p : Nat} (hp : p < a 36) (hs : a (76 + p) = 2) : okD (fun τ => f_X3_takeBack τ (nI p)) e a (nI (hzN a p)) (bkE e p) (bkA a p) := by
  have h36 : a 36 ≤ 12 := V.1
  obtain ⟨w1, w2, w3, w4, w5, w6⟩ := V.2.2.2.2.1 p hp
  have hz : nI (hzN a p) = (if 3 ≤ a (52 + p) then nI (a (52 + p)) else nI (a (52 + p) + 1)) := by unfold hzN; split <;> rfl
  intro τ B
  obtain ⟨p1, p2, p3, p4, p5⟩ := B.2.2.2.1 p hp
  have p2' : τ 9 p = nI (a (52 + p)) := p2
  have p4' : τ 11 p = wh (a (76 + p)) (a (88 + p)) := p4
  have p5' : τ 12 p = e (100 + p) := p5
  refine ⟨mset (mset (mset τ 11 p (-1)) 12 p (e (100 + p) + 1)) 9 p (nI (hzN a p)), ?_, fun i hi => ?_, ?_⟩
  · show f_X3_takeBack τ (nI p) = _
    unfold f_X3_takeBack
    rw [d_size B, bd_s, ix_ok hp (by omega), bd_s, if_neg (by decide), f_X8_whereIs, nI_gi (by omega) (by omega), g_nIc (by omega), p4', bd_s, if_pos (by rw [wh_out w6 w5]; exact hs), f_X8_returnToDepot]
    simp (disch := omega) only [nI_gi, g_nIc, nm_s, mset_ne1, mset_same]
    rw [p2', p5', show (3 : Int32) = nI 3 from rfl, hz]
    simp (disch := omega) only [nI_leq]
    by_cases h3 : 3 ≤ a (52 + p)
    · rw [if_pos h3, if_pos h3, bd2_s]
      have e9 : mset (mset (mset τ 11 p (-1)) 12 p (e (100 + p) + 1)) 9 p (nI (a (52 + p))) = mset (mset τ 11 p (-1)) 12 p (e (100 + p) + 1) := by
        funext i q
        by_cases hi : i = 9
        · subst hi
          by_cases hq : q = p
          · subst hq; rw [mset_same, mset_ne1 _ _ (by decide), mset_ne1 _ _ (by decide), p2']
          · rw [mset_ne2 _ _ hq]
        · rw [mset_ne1 _ _ hi]
      rw [e9]
    · rw [if_neg h3, if_neg h3, nI_s (by omega), bd2_s]
  · funext q
    rw [mset_ne1 _ _ (by omega), mset_ne1 _ _ (by omega), mset_ne1 _ _ (by omega)]
  · have n36 : bkA a p 36 = a 36 := bkA_n (by omega) (by omega)
    refine blk_par B (fun i hi => funext fun q => ?_) ?_ (fun j hj => bkA_n (by omega) (by omega)) ⟨pe_n (by omega), pe_n (by omega)⟩ V.2.1 (fun q hq => ?_)
    · rw [mset_ne1 _ _ (by omega), mset_ne1 _ _ (by omega), mset_ne1 _ _ (by omega)]
    · rw [n36, mset_ne1 _ _ (by decide), mset_ne1 _ _ (by decide), mset_ne1 _ _ (by decide)]; exact B.2.2.1
    · rw [n36] at hq
      obtain ⟨q1, q2, q3, q4, q5⟩ := B.2.2.2.1 q hq
      have q2' : τ 9 q = nI (a (52 + q)) := q2
      have q4' : τ 11 q = wh (a (76 + q)) (a (88 + q)) := q4
      have q5' : τ 12 q = e (100 + q) := q5
      rw [bkA_n (j := 40 + q) (by omega) (by omega), bkA_n (j := 64 + q) (by omega) (by omega), bkA_n (j := 88 + q) (by omega) (by omega)]
      refine ⟨?_, ?_, ?_, ?_, ?_⟩
      · rw [mset_ne1 _ _ (by decide), mset_ne1 _ _ (by decide), mset_ne1 _ _ (by decide)]; exact q1
      · by_cases hq2 : q = p
        · subst hq2; rw [mset_same, bkA_2]
        · rw [mset_ne2 _ _ hq2, mset_ne1 _ _ (by decide), mset_ne1 _ _ (by decide), bkA_n (by omega) (by omega), q2']
      · rw [mset_ne1 _ _ (by decide), mset_ne1 _ _ (by decide), mset_ne1 _ _ (by decide)]; exact q3
      · rw [mset_ne1 _ _ (by decide), mset_ne1 _ _ (by decide)]
        by_cases hq2 : q = p
        · subst hq2; rw [mset_same, bkA_1]; rfl
        · rw [mset_ne2 _ _ hq2, bkA_n (by omega) (by omega), q4']
      · rw [mset_ne1 _ _ (by decide)]
        unfold bkE
        by_cases hq2 : q = p
        · subst hq2; rw [mset_same, pe_s]
        · rw [mset_ne2 _ _ hq2, mset_ne1 _ _ (by decide), pe_n (by omega), q5']
theorem cb_no2 {e : Nat → Int32} {a : Nat → Nat} (V : vdR e a) {p : Nat} (hp : p < a 36) (hs : ¬ a (76 + p) = 2) : noD (fun τ => f_X3_takeBack τ (nI p)) e a 2 := by
  have h36 : a 36 ≤ 12 := V.1
  obtain ⟨w1, w2, w3, w4, w5, w6⟩ := V.2.2.2.2.1 p hp
  refine noD_i (fun τ B => ?_)
  have p4' : τ 11 p = wh (a (76 + p)) (a (88 + p)) := (B.2.2.2.1 p hp).2.2.2.1
  show f_X3_takeBack τ (nI p) = _
  unfold f_X3_takeBack
  rw [d_size B, bd_s, ix_ok hp (by omega), bd_s, if_neg (by decide), f_X8_whereIs, nI_gi (by omega) (by omega), g_nIc (by omega), p4', bd_s, if_neg (by rw [wh_out w6 w5]; exact hs)]; rfl
theorem cb_chg (a1 : Int32) : chgD (fun τ => f_X3_takeBack τ a1) := by
  intro e a V
  have h36 : a 36 ≤ 12 := V.1
  by_cases h : vp_in a1 (a 36)
  · obtain ⟨p, hp, rfl⟩ := vp_ex h
    obtain ⟨w1, w2, w3, w4, w5, w6⟩ := V.2.2.2.2.1 p hp
    by_cases hs : a (76 + p) = 2
    · exact Or.inl ⟨nI (hzN a p), bkE e p, bkA a p, nI_ge0 (by unfold hzN; split <;> omega), cb_ok V hp hs, back_V V hp hs, gP_of (fun j hj => bkA_n (by omega) (by omega))⟩
    · exact Or.inr ⟨2, by omega, cb_no2 V hp hs⟩
  · refine Or.inr ⟨0, by omega, noD_i (fun τ B => ?_)⟩
    show f_X3_takeBack τ a1 = _
    unfold f_X3_takeBack
    rw [d_size B, bd_s, ix_no h (by omega), bd_s, if_pos rfl]; rfl
