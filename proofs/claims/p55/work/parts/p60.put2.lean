theorem putN {a a2 : Nat → Nat} {p k : Nat} (hp : p < a 36) (h36 : a2 36 = a 36) (ha : ∀ j, j ≠ 76 + p → j ≠ 88 + p → (j < 37 ∨ (37 < j ∧ j < 112) ∨ 128 ≤ j) → a2 j = a j) (h0 : a (76 + p) = 0) (h1 : a2 (76 + p) = 1) (h2 : a2 (88 + p) = k) (h12 : a 36 ≤ 12) : loadN a2 k = loadN a k + a (40 + p) ∧ ∀ i, i ≠ k → loadN a2 i = loadN a i := by
  refine ⟨?_, fun i hi => ?_⟩
  · unfold loadN
    rw [h36]
    refine sm_add (k := p) hp (fun q hq hqp => ?_) ?_
    · rw [ha (76 + q) (by omega) (by omega) (by omega), ha (88 + q) (by omega) (by omega) (by omega), ha (40 + q) (by omega) (by omega) (by omega)]
    · show (if a2 (76 + p) = 1 ∧ a2 (88 + p) = k then a2 (40 + p) else 0) = (if a (76 + p) = 1 ∧ a (88 + p) = k then a (40 + p) else 0) + a (40 + p)
      rw [h1, h2, if_pos ⟨rfl, rfl⟩, h0, if_neg (by omega), ha (40 + p) (by omega) (by omega) (by omega), Nat.zero_add]
  · unfold loadN
    rw [h36]
    refine sm_congr (fun q hq => ?_)
    by_cases h : q = p
    · subst h
      rw [h1, h2, h0, if_neg (by omega), if_neg (by omega)]
    · rw [ha (76 + q) (by omega) (by omega) (by omega), ha (88 + q) (by omega) (by omega) (by omega), ha (40 + q) (by omega) (by omega) (by omega)]
theorem pu_D {e : Nat → Int32} {a : Nat → Nat} (V : vdR e a) {p k : Nat} (hp : p < a 36) (hk : k < 3) : ∀ τ, blkR τ 0 e a → f_X3_putIn τ (nI p) (nI k) = if wh (a (76 + p)) (a (88 + p)) = -1 then (if nI (a (40 + p)) ≤ nI (a (131 + k) - loadN a k) then bd (f_X3_isSafe τ (nI p)) fun r18 => if r18 = 0 then some ((-6), τ) else bd (f_X6_useAgainst τ (nI (a (52 + p)))) fun σ23 => bd (f_X8_move σ23 (nI p) (nI k)) fun σ25 => bd (f_X8_weightAt σ25 (nI k)) fun r27 => some (r27, σ25) else some ((-5), τ)) else some ((-4), τ) := by
  have h12 : a 36 ≤ 12 := V.1
  obtain ⟨c1, c2, c3, c4⟩ := V.2.2.2.2.2.2.2 k hk
  intro τ B
  have p4 : τ 11 p = wh (a (76 + p)) (a (88 + p)) := (B.2.2.2.1 p hp).2.2.2.1
  have p1 : τ 8 p = nI (a (40 + p)) := (B.2.2.2.1 p hp).1
  have p2 : τ 9 p = nI (a (52 + p)) := (B.2.2.2.1 p hp).2.1
  have c : τ 18 k = nI (a (131 + k)) := (B.2.2.2.2.2.2.2.2 k hk).2
  unfold f_X3_putIn f_X3_roomIn
  rw [d_size B, bd_s, ix_ok hp (by omega), bd_s, if_neg (by decide), show f_X12_isIndex τ (nI k) 3 = _ from ix_ok (N := 3) hk (by omega), bd_s, if_neg (by decide), f_X8_whereIs, nI_gi (by omega) (by omega), g_nIc (by omega), p4, bd_s, f_X8_hazardOf, nI_gi (by omega) (by omega), g_nIc (by omega), p2, f_X8_weightOf, nI_gi (by omega) (by omega), g_nIc (by omega), p1, f_X11_capacityOf, nI_gi (by omega) (by omega), g_nIc (by omega), c, d_weightAt B V (by omega)]
  simp only [bd_s]
  rw [nI_subn c4 (by omega)]
def puA (a : Nat → Nat) (p k : Nat) : Nat → Nat := pt (pt (hdA a p) (76 + p) 1) (88 + p) k
theorem pu_ok {e : Nat → Int32} {a : Nat → Nat} (V : vdR e a) {p k : Nat} (hp : p < a 36) (hk : k < 3) (hs : a (76 + p) = 0) (hc : loadN a k + a (40 + p) ≤ a (131 + k)) (hf : sfB a p = true) : okD (fun τ => f_X3_putIn τ (nI p) (nI k)) e a (nI (loadN a k + a (40 + p))) (hdE e a p) (puA a p k) ∧ vdR (hdE e a p) (puA a p k) := by
  have h12 : a 36 ≤ 12 := V.1
  obtain ⟨w1, w2, w3, w4, w5, w6⟩ := V.2.2.2.2.1 p hp
  obtain ⟨c1, c2, c3, c4⟩ := V.2.2.2.2.2.2.2 k hk
  have hw : wh (a (76 + p)) (a (88 + p)) = -1 := by rw [wh_in w6]; exact hs
  have eD := pu_D V hp hk
  unfold puA
  obtain ⟨dU, V0, ha0, he0⟩ := hand_d V hp hf
  generalize hdE e a p = e0 at dU V0 he0 ⊢
  generalize hdA a p = a0 at dU V0 ha0 ⊢
  have n36 : a0 36 = a 36 := ha0 36 (by omega)
  have hpt : ∀ j, j ≠ 76 + p → j ≠ 88 + p → pt (pt a0 (76 + p) 1) (88 + p) k j = a0 j := fun j j1 j2 => (pt_n j2).trans (pt_n j1)
  have e76 : pt (pt a0 (76 + p) 1) (88 + p) k (76 + p) = 1 := (pt_n (by omega)).trans pt_s
  have e88 : pt (pt a0 (76 + p) 1) (88 + p) k (88 + p) = k := pt_s
  obtain ⟨l1, l2⟩ := putN (a2 := pt (pt a0 (76 + p) 1) (88 + p) k) (a := a) (k := k) hp (by rw [hpt 36 (by omega) (by omega), n36]) (fun j j1 j2 j3 => by rw [hpt j j1 j2, ha0 j j3]) hs e76 e88 h12
  have V2 : vdR e0 (pt (pt a0 (76 + p) 1) (88 + p) k) := by
    refine mv_V V0 (by omega) hpt (by rw [e76]; omega) (by rw [e88]; omega) (fun i hi => ?_)
    rw [ha0 (131 + i) (by omega)]
    by_cases hik : i = k
    · subst hik; rw [l1]; exact hc
    · rw [l2 i hik]; exact (V.2.2.2.2.2.2.2 i hi).2.2.2
  refine ⟨fun τ B => ?_, V2⟩
  obtain ⟨τ', u1, u2, u3⟩ := dU τ B
  have B2 : blkR (mset τ' 11 p (nI k)) 0 e0 (pt (pt a0 (76 + p) 1) (88 + p) k) := mv_B u3 V0.2.1 V0.1 (by omega) hpt (by rw [e76, e88]; rfl)
  refine ⟨mset τ' 11 p (nI k), ?_, fun i hi => ?_, B2⟩
  · show f_X3_putIn τ (nI p) (nI k) = _
    rw [eD τ B, if_pos hw, if_pos (by rw [nI_leq (by omega) (by omega)]; omega), d_isSafe B V hp, if_pos hf, bd_s, if_neg (by decide), u1, bd_s, f_X8_move, nI_gi (by omega) (by omega), g_nIc (by omega), nm_s, bd_s, d_weightAt B2 V2 (by omega), bd_s, l1]
  · funext q
    rw [mset_ne1 _ _ (by omega), u2 i (by omega) (by omega) (by omega)]
theorem pu_no4 {e : Nat → Int32} {a : Nat → Nat} (V : vdR e a) {p k : Nat} (hp : p < a 36) (hk : k < 3) (hs : a (76 + p) = 0) (hc : loadN a k + a (40 + p) ≤ a (131 + k)) (hf : ¬ sfB a p = true) : noD (fun τ => f_X3_putIn τ (nI p) (nI k)) e a 4 := by
  obtain ⟨w1, w2, w3, w4, w5, w6⟩ := V.2.2.2.2.1 p hp
  obtain ⟨c1, c2, c3, c4⟩ := V.2.2.2.2.2.2.2 k hk
  have hw : wh (a (76 + p)) (a (88 + p)) = -1 := by rw [wh_in w6]; exact hs
  have eD := pu_D V hp hk
  refine noD_i (fun τ B => ?_)
  show f_X3_putIn τ (nI p) (nI k) = _
  rw [eD τ B, if_pos hw, if_pos (by rw [nI_leq (by omega) (by omega)]; omega), d_isSafe B V hp, if_neg hf, bd_s, if_pos rfl]; rfl
theorem pu_no3 {e : Nat → Int32} {a : Nat → Nat} (V : vdR e a) {p k : Nat} (hp : p < a 36) (hk : k < 3) (hs : a (76 + p) = 0) (hc : ¬ loadN a k + a (40 + p) ≤ a (131 + k)) : noD (fun τ => f_X3_putIn τ (nI p) (nI k)) e a 3 := by
  obtain ⟨w1, w2, w3, w4, w5, w6⟩ := V.2.2.2.2.1 p hp
  obtain ⟨c1, c2, c3, c4⟩ := V.2.2.2.2.2.2.2 k hk
  have hw : wh (a (76 + p)) (a (88 + p)) = -1 := by rw [wh_in w6]; exact hs
  have eD := pu_D V hp hk
  refine noD_i (fun τ B => ?_)
  show f_X3_putIn τ (nI p) (nI k) = _
  rw [eD τ B, if_pos hw, if_neg (by rw [nI_leq (by omega) (by omega)]; omega)]; rfl
theorem pu_no0 {e : Nat → Int32} {a : Nat → Nat} (V : vdR e a) {a1 a2 : Int32} (h : ¬ vp_in a1 (a 36)) : noD (fun τ => f_X3_putIn τ a1 a2) e a 0 := by
  have h12 : a 36 ≤ 12 := V.1
  refine noD_i (fun τ B => ?_)
  show f_X3_putIn τ a1 a2 = _
  unfold f_X3_putIn
  rw [d_size B, bd_s, ix_no h (by omega), bd_s, if_pos rfl]; rfl
theorem pu_chg (a1 a2 : Int32) : chgD (fun τ => f_X3_putIn τ a1 a2) := by
  intro e a V
  have h12 : a 36 ≤ 12 := V.1
  by_cases h : vp_in a1 (a 36)
  · obtain ⟨p, hp, rfl⟩ := vp_ex h
    obtain ⟨w1, w2, w3, w4, w5, w6⟩ := V.2.2.2.2.1 p hp
    by_cases hk3 : vp_in a2 3
    · obtain ⟨k, hk, rfl⟩ := vp_ex hk3
      obtain ⟨c1, c2, c3, c4⟩ := V.2.2.2.2.2.2.2 k hk
      by_cases hs : a (76 + p) = 0
      · by_cases hc : loadN a k + a (40 + p) ≤ a (131 + k)
        · by_cases hf : sfB a p = true
          · exact Or.inl ⟨_, _, _, nI_ge0 (by omega), (pu_ok V hp hk hs hc hf).1, (pu_ok V hp hk hs hc hf).2, gP_of (fun j hj => (pt_n (by omega)).trans ((pt_n (by omega)).trans ((hand_d V hp hf).2.2.1 j (by omega))))⟩
          · exact Or.inr ⟨4, by omega, pu_no4 V hp hk hs hc hf⟩
        · exact Or.inr ⟨3, by omega, pu_no3 V hp hk hs hc⟩
      · have eD := pu_D V hp hk
        refine Or.inr ⟨2, by omega, noD_i (fun τ B => ?_)⟩
        show f_X3_putIn τ (nI p) (nI k) = _
        rw [eD τ B, if_neg (by rw [wh_in w6]; exact hs)]; rfl
    · refine Or.inr ⟨0, by omega, noD_i (fun τ B => ?_)⟩
      show f_X3_putIn τ (nI p) a2 = _
      unfold f_X3_putIn
      rw [d_size B, bd_s, ix_ok hp (by omega), bd_s, if_neg (by decide), show f_X12_isIndex τ a2 3 = _ from ix_no (N := 3) hk3 (by omega), bd_s, if_pos rfl]; rfl
  · exact Or.inr ⟨0, by omega, pu_no0 V h⟩
