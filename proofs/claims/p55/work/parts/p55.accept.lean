/-! a parcel is accepted -/
def acA (a : Nat → Nat) (w h d : Nat) : Nat → Nat := pt (pt (pt (pt a (40 + a 36) w) (52 + a 36) h) (64 + a 36) d) 36 (a 36 + 1)
theorem acA_n {a : Nat → Nat} {w h d j : Nat} (h1 : j ≠ 40 + a 36) (h2 : j ≠ 52 + a 36) (h3 : j ≠ 64 + a 36) (h4 : j ≠ 36) : acA a w h d j = a j := (pt_n h4).trans ((pt_n h3).trans ((pt_n h2).trans (pt_n h1)))
theorem acA_36 {a : Nat → Nat} {w h d : Nat} : acA a w h d 36 = a 36 + 1 := pt_s
theorem acA_40 {a : Nat → Nat} {w h d : Nat} : acA a w h d (40 + a 36) = w := (pt_n (by omega)).trans ((pt_n (by omega)).trans ((pt_n (by omega)).trans pt_s))
theorem acA_52 {a : Nat → Nat} {w h d : Nat} : acA a w h d (52 + a 36) = h := (pt_n (by omega)).trans ((pt_n (by omega)).trans pt_s)
theorem acA_64 {a : Nat → Nat} {w h d : Nat} : acA a w h d (64 + a 36) = d := (pt_n (by omega)).trans pt_s
theorem ac_V {e : Nat → Int32} {a : Nat → Nat} (V : vdR e a) (h12 : a 36 < 12) {w h d : Nat} (hw : 1 ≤ w ∧ w ≤ 20) (hh : h ≤ 3) (hd : d ≤ 5) : vdR e (acA a w h d) := by
  obtain ⟨v1, v2, v3, v4, v5, v6, v7, v8⟩ := V
  have n37 : acA a w h d 37 = a 37 := acA_n (by omega) (by omega) (by omega) (by omega)
  refine ⟨by rw [acA_36]; omega, by omega, fun i j hi hj => ?_, fun i hi => ?_, fun q hq => ?_, fun q q1 q2 => ?_, fun i hi => ?_, fun i hi => ?_⟩
  · rw [acA_n (by omega) (by omega) (by omega) (by omega), acA_n (by omega) (by omega) (by omega) (by omega)]; exact v3 i j hi hj
  · rw [acA_n (by omega) (by omega) (by omega) (by omega)]; exact v4 i hi
  · rw [acA_36] at hq
    rw [acA_n (j := 76 + q) (by omega) (by omega) (by omega) (by omega), acA_n (j := 88 + q) (by omega) (by omega) (by omega) (by omega)]
    by_cases h : q = a 36
    · subst h
      rw [acA_40, acA_52, acA_64]
      have := (v6 (a 36) (Nat.le_refl _) h12).1
      omega
    · rw [acA_n (j := 40 + q) (by omega) (by omega) (by omega) (by omega), acA_n (j := 52 + q) (by omega) (by omega) (by omega) (by omega), acA_n (j := 64 + q) (by omega) (by omega) (by omega) (by omega)]; exact v5 q (by omega)
  · rw [acA_36] at q1
    rw [acA_n (j := 76 + q) (by omega) (by omega) (by omega) (by omega), acA_n (j := 88 + q) (by omega) (by omega) (by omega) (by omega)]; exact v6 q (by omega) q2
  · rw [n37] at hi
    rw [acA_n (by omega) (by omega) (by omega) (by omega), acA_n (by omega) (by omega) (by omega) (by omega)]; exact v7 i hi
  · rw [acA_n (j := 128 + i) (by omega) (by omega) (by omega) (by omega), acA_n (j := 131 + i) (by omega) (by omega) (by omega) (by omega)]
    obtain ⟨w1, w2, w3, w4⟩ := v8 i hi
    refine ⟨w1, w2, w3, ?_⟩
    have e : loadN (acA a w h d) i = loadN a i := by
      unfold loadN
      rw [acA_36]
      show sm _ (a 36) + (if acA a w h d (76 + a 36) = 1 ∧ acA a w h d (88 + a 36) = i then acA a w h d (40 + a 36) else 0) = _
      have h0 := (v6 (a 36) (Nat.le_refl _) h12).1.1
      rw [acA_n (j := 76 + a 36) (by omega) (by omega) (by omega) (by omega), h0, if_neg (by omega), Nat.add_zero]
      refine sm_congr (fun q hq => ?_)
      rw [acA_n (j := 40 + q) (by omega) (by omega) (by omega) (by omega), acA_n (j := 88 + q) (by omega) (by omega) (by omega) (by omega), acA_n (j := 76 + q) (by omega) (by omega) (by omega) (by omega)]
    rw [e]; exact w4
theorem ac_ok2 {e : Nat → Int32} {a : Nat → Nat} (V : vdR e a) {w z d : Nat} (w1 : 1 ≤ w) (w2 : w ≤ 20) (z2 : z ≤ 3) (hd : d < 6) (h12 : a 36 < 12) : okD (fun τ => f_X3_addParcel τ (nI w) (nI z) (nI d)) e a (nI (a 36)) e (acA a w z d) ∧ vdR e (acA a w z d) := by
  have h36 : a 36 ≤ 12 := V.1
  have x1 : ∀ τ, f_X12_isIndex τ (nI d) 6 = some 1 := fun τ => ix_ok (N := 6) hd (by omega)
  have x2 : ∀ τ, f_X12_isWithin τ (nI w) 1 20 = some 1 := fun τ => wi_ok (lo := 1) (hi := 20) w1 w2 (by omega)
  have x3 : ∀ τ, f_X12_isWithin τ (nI z) 0 3 = some 1 := fun τ => wi_ok (lo := 0) (hi := 3) (by omega) z2 (by omega)
  have h6 := (V.2.2.2.2.2.1 (a 36) (Nat.le_refl _) h12)
  refine ⟨fun τ B => ?_, ac_V V h12 ⟨w1, w2⟩ z2 (by omega)⟩
  have b3 : τ 7 5 = nI (a 36) := B.2.2.1
  refine ⟨mset (mset (mset (mset (mset (mset τ 8 (a 36) (nI w)) 9 (a 36) (nI z)) 10 (a 36) (nI d)) 11 (a 36) (-1)) 12 (a 36) 0) 7 5 (nI (a 36 + 1)), ?_, fun i hi => ?_, ?_⟩
  · show f_X3_addParcel τ (nI w) (nI z) (nI d) = _
    unfold f_X3_addParcel
    rw [x1, bd_s, if_neg (by decide), (x2 _), bd_s, if_neg (by decide), (x3 _), bd_s, if_neg (by decide), f_X8_isFull, b3, if_pos (by rw [show (12 : Int32) = nI 12 from rfl, nI_ltq (by omega) (by omega)]; omega), bd_s, if_pos rfl, f_X8_add]
    simp (disch := omega) only [nI_gi, g_nIc, nm_s, mset_ne1, b3, nI_s]
    rw [bd2_s]
  · funext q
    simp (disch := omega) only [mset_ne1]
  · refine blk_par B (fun i hi => funext fun q => ?_) ?_ (fun j hj => acA_n (by omega) (by omega) (by omega) (by omega)) ⟨rfl, rfl⟩ V.2.1 (fun q hq => ?_)
    · simp (disch := omega) only [mset_ne1]
    · rw [acA_36, mset_same]
    · rw [acA_36] at hq
      rw [acA_n (j := 76 + q) (by omega) (by omega) (by omega) (by omega), acA_n (j := 88 + q) (by omega) (by omega) (by omega) (by omega)]
      by_cases hqn : q = a 36
      · subst hqn
        rw [acA_40, acA_52, acA_64, h6.1.1, h6.2]
        refine ⟨?_, ?_, ?_, ?_, ?_⟩ <;> simp (disch := omega) only [mset_ne1, mset_same]
        rfl
      · rw [acA_n (j := 40 + q) (by omega) (by omega) (by omega) (by omega), acA_n (j := 52 + q) (by omega) (by omega) (by omega) (by omega), acA_n (j := 64 + q) (by omega) (by omega) (by omega) (by omega)]
        obtain ⟨q1, q2, q3, q4, q5⟩ := B.2.2.2.1 q (by omega)
        refine ⟨?_, ?_, ?_, ?_, ?_⟩ <;> simp (disch := omega) only [mset_ne1, mset_ne2]
        · exact q1
        · exact q2
        · exact q3
        · exact q4
        · exact q5
theorem ac_chg (a1 a2 a3 : Int32) : chgD (fun τ => f_X3_addParcel τ a1 a2 a3) := by
  intro e a V
  have h36 : a 36 ≤ 12 := V.1
  by_cases h : vp_in a3 6
  · obtain ⟨d, hd, rfl⟩ := vp_ex h
    have x1 : ∀ τ, f_X12_isIndex τ (nI d) 6 = some 1 := fun τ => ix_ok (N := 6) hd (by omega)
    rcases wi_no (x := a1) (lo := 1) (hi := 20) (by omega) (by omega) with ⟨w, w1, w2, rfl⟩ | hw
    · have x2 : ∀ τ, f_X12_isWithin τ (nI w) 1 20 = some 1 := fun τ => wi_ok (lo := 1) (hi := 20) w1 w2 (by omega)
      rcases wi_no (x := a2) (lo := 0) (hi := 3) (by omega) (by omega) with ⟨z, z1, z2, rfl⟩ | hz
      · have x3 : ∀ τ, f_X12_isWithin τ (nI z) 0 3 = some 1 := fun τ => wi_ok (lo := 0) (hi := 3) z1 z2 (by omega)
        by_cases h12 : a 36 < 12
        · exact Or.inl ⟨nI (a 36), e, acA a w z d, nI_ge0 (by omega), (ac_ok2 V w1 w2 z2 hd h12).1, (ac_ok2 V w1 w2 z2 hd h12).2, gP_of (fun j hj => acA_n (by omega) (by omega) (by omega) (by omega))⟩
        · refine Or.inr ⟨2, by omega, noD_i (fun τ B => ?_)⟩
          have b3 : τ 7 5 = nI (a 36) := B.2.2.1
          show f_X3_addParcel τ (nI w) (nI z) (nI d) = _
          unfold f_X3_addParcel
          rw [x1, bd_s, if_neg (by decide), x2, bd_s, if_neg (by decide), x3, bd_s, if_neg (by decide), f_X8_isFull, b3, if_neg (by rw [show (12 : Int32) = nI 12 from rfl, nI_ltq (by omega) (by omega)]; omega), bd_s, if_neg (by decide)]; rfl
      · refine Or.inr ⟨1, by omega, noD_i (fun τ B => ?_)⟩
        show f_X3_addParcel τ (nI w) a2 (nI d) = _
        unfold f_X3_addParcel
        rw [x1, bd_s, if_neg (by decide), x2, bd_s, if_neg (by decide), show f_X12_isWithin τ a2 0 3 = _ from hz τ, bd_s, if_pos rfl]; rfl
    · refine Or.inr ⟨1, by omega, noD_i (fun τ B => ?_)⟩
      show f_X3_addParcel τ a1 a2 (nI d) = _
      unfold f_X3_addParcel
      rw [x1, bd_s, if_neg (by decide), show f_X12_isWithin τ a1 1 20 = _ from hw τ, bd_s, if_pos rfl]; rfl
  · refine Or.inr ⟨0, by omega, noD_i (fun τ B => ?_)⟩
    show f_X3_addParcel τ a1 a2 a3 = _
    unfold f_X3_addParcel
    rw [show f_X12_isIndex τ a3 6 = _ from ix_no (N := 6) h (by omega), bd_s, if_pos rfl]; rfl
