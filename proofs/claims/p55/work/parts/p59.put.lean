/-! a parcel goes into a sack or out of it -/
theorem sm_add {f g : Nat → Nat} {k d : Nat} : ∀ {n : Nat}, k < n → (∀ i, i < n → i ≠ k → f i = g i) → f k = g k + d → sm f n = sm g n + d
  | 0, h, _, _ => absurd h (Nat.not_lt_zero k)
  | n + 1, h, hf, hk => by
    show sm f n + f n = sm g n + g n + d
    by_cases hn : n = k
    · subst hn
      rw [hk, sm_congr (fun i hi => hf i (by omega) (by omega))]
      omega
    · rw [sm_add (n := n) (k := k) (by omega) (fun i hi => hf i (by omega)) hk, hf n (by omega) hn]
      omega
theorem sm_mon {f g : Nat → Nat} : ∀ {n : Nat}, (∀ i, i < n → f i ≤ g i) → sm f n ≤ sm g n
  | 0, _ => Nat.le_refl _
  | n + 1, h => Nat.add_le_add (sm_mon (fun i hi => h i (by omega))) (h n (by omega))
theorem nI_subn {p q : Nat} (h : q ≤ p) (hp : p ≤ 4096) : nI p - nI q = nI (p - q) := by
  apply g_toInt_inj
  rw [g_nIsub hp (by omega), g_nIt (by omega)]
  omega
theorem mv_V {e : Nat → Int32} {a a2 : Nat → Nat} (V : vdR e a) {p : Nat} (hp : p < a 36) (ha : ∀ j, j ≠ 76 + p → j ≠ 88 + p → a2 j = a j) (h1 : a2 (76 + p) ≤ 2) (h2 : a2 (88 + p) ≤ 2) (hl : ∀ i, i < 3 → loadN a2 i ≤ a (131 + i)) : vdR e a2 := by
  obtain ⟨v1, v2, v3, v4, v5, v6, v7, v8⟩ := V
  refine ⟨by rw [ha 36 (by omega) (by omega)]; exact v1, by rw [ha 37 (by omega) (by omega)]; exact v2, fun i j hi hj => ?_, fun i hi => ?_, fun q hq => ?_, fun q q1 q2 => ?_, fun i hi => ?_, fun i hi => ?_⟩
  · rw [ha (6 * i + j) (by omega) (by omega), ha (6 * j + i) (by omega) (by omega)]; exact v3 i j hi hj
  · rw [ha _ (by omega) (by omega)]; exact v4 i hi
  · rw [ha 36 (by omega) (by omega)] at hq
    rw [ha (40 + q) (by omega) (by omega), ha (52 + q) (by omega) (by omega), ha (64 + q) (by omega) (by omega)]
    obtain ⟨w1, w2, w3, w4, w5, w6⟩ := v5 q hq
    by_cases h : q = p
    · subst h; exact ⟨w1, w2, w3, w4, h1, h2⟩
    · rw [ha (76 + q) (by omega) (by omega), ha (88 + q) (by omega) (by omega)]; exact ⟨w1, w2, w3, w4, w5, w6⟩
  · rw [ha 36 (by omega) (by omega)] at q1
    rw [ha (76 + q) (by omega) (by omega), ha (88 + q) (by omega) (by omega)]; exact v6 q q1 q2
  · rw [ha 37 (by omega) (by omega)] at hi
    rw [ha (112 + i) (by omega) (by omega), ha (120 + i) (by omega) (by omega)]; exact v7 i hi
  · rw [ha (128 + i) (by omega) (by omega), ha (131 + i) (by omega) (by omega)]
    exact ⟨(v8 i hi).1, (v8 i hi).2.1, (v8 i hi).2.2.1, hl i hi⟩
theorem mv_B {τ : gM} {e : Nat → Int32} {a a2 : Nat → Nat} (B : blkR τ 0 e a) (hM : a 37 ≤ 8) (h36 : a 36 ≤ 12) {p : Nat} (hp : p < 12) (ha : ∀ j, j ≠ 76 + p → j ≠ 88 + p → a2 j = a j) {w : Int32} (hw : w = wh (a2 (76 + p)) (a2 (88 + p))) : blkR (mset τ 11 p w) 0 e a2 := by
  refine blk_par B (fun i hi => funext fun q => mset_ne1 _ _ (by omega)) ?_ (fun j hj => ha j (by omega) (by omega)) ⟨rfl, rfl⟩ hM (fun q hq => ?_)
  · rw [mset_ne1 _ _ (by decide), ha 36 (by omega) (by omega)]; exact B.2.2.1
  · rw [ha 36 (by omega) (by omega)] at hq
    obtain ⟨p1, p2, p3, p4, p5⟩ := B.2.2.2.1 q hq
    rw [ha (40 + q) (by omega) (by omega), ha (52 + q) (by omega) (by omega), ha (64 + q) (by omega) (by omega)]
    refine ⟨?_, ?_, ?_, ?_, ?_⟩
    · rw [mset_ne1 _ _ (by decide)]; exact p1
    · rw [mset_ne1 _ _ (by decide)]; exact p2
    · rw [mset_ne1 _ _ (by decide)]; exact p3
    · by_cases h : q = p
      · subst h; rw [mset_same, hw]
      · rw [mset_ne2 _ _ h, ha (76 + q) (by omega) (by omega), ha (88 + q) (by omega) (by omega)]; exact p4
    · rw [mset_ne1 _ _ (by decide)]; exact p5
theorem takeN {a a2 : Nat → Nat} {p : Nat} (hp : p < 12) (h36 : a2 36 = a 36) (ha : ∀ j, j ≠ 76 + p → (j < 37 ∨ (37 < j ∧ j < 112) ∨ 128 ≤ j) → a2 j = a j) (h1 : a2 (76 + p) = 0) (h12 : a 36 ≤ 12) (i : Nat) : loadN a2 i ≤ loadN a i := by
  unfold loadN
  rw [h36]
  refine sm_mon (fun q hq => ?_)
  by_cases h : q = p
  · subst h
    rw [h1, if_neg (by omega)]; exact Nat.zero_le _
  · rw [ha (76 + q) (by omega) (by omega), ha (88 + q) (by omega) (by omega), ha (40 + q) (by omega) (by omega)]; exact Nat.le_refl _
/-- what handling a parcel does to the gloves -/
def hdE (e : Nat → Int32) (a : Nat → Nat) (p : Nat) : Nat → Int32 := if a (52 + p) = 0 then e else usE e a (bst a (a (52 + p)) (a 37) - 1)
def hdA (a : Nat → Nat) (p : Nat) : Nat → Nat := if a (52 + p) = 0 then a else usA a (bst a (a (52 + p)) (a 37) - 1)
theorem hand_d {e : Nat → Int32} {a : Nat → Nat} (V : vdR e a) {p : Nat} (hp : p < a 36) (hs : sfB a p = true) :
    (∀ τ, blkR τ 0 e a → ∃ τ' : gM, f_X6_useAgainst τ (nI (a (52 + p))) = some τ' ∧ (∀ i, i ≠ 13 → i ≠ 14 → i ≠ 15 → τ' i = τ i) ∧ blkR τ' 0 (hdE e a p) (hdA a p)) ∧
    vdR (hdE e a p) (hdA a p) ∧ (∀ j, j < 37 ∨ (37 < j ∧ j < 112) ∨ 128 ≤ j → hdA a p j = a j) ∧ ∀ j, j ≠ 39 → hdE e a p j = e j := by
  have h12 : a 36 ≤ 12 := V.1
  obtain ⟨-, -, q3, -⟩ := V.2.2.2.2.1 p hp
  by_cases h0 : a (52 + p) = 0
  · have hE : hdE e a p = e := if_pos h0
    have hA : hdA a p = a := if_pos h0
    rw [hE, hA]
    refine ⟨fun τ B => ⟨τ, ?_, fun _ _ _ _ => rfl, B⟩, V, fun _ _ => rfl, fun _ _ => rfl⟩
    unfold f_X6_useAgainst
    rw [h0, if_pos (show nI 0 = (0 : Int32) from rfl)]
  · have hb : bst a (a (52 + p)) (a 37) ≠ 0 := by
      unfold sfB at hs
      simp [h0] at hs
      exact hs
    have hle := bst_le a (a (52 + p)) (a 37)
    have hg : bst a (a (52 + p)) (a 37) = (bst a (a (52 + p)) (a 37) - 1) + 1 := (Nat.succ_pred_eq_of_ne_zero hb).symm
    have hE : hdE e a p = usE e a (bst a (a (52 + p)) (a 37) - 1) := if_neg h0
    have hA : hdA a p = usA a (bst a (a (52 + p)) (a 37) - 1) := if_neg h0
    have h8 : a 37 ≤ 8 := V.2.1
    rw [hE, hA]
    generalize bst a (a (52 + p)) (a 37) - 1 = g at hg ⊢
    exact ⟨fun τ B => d_use B V (by omega) q3 hg, us_V V (by omega), fun j hj => usA_n (by omega) hj, fun j hj => usE_n hj⟩
theorem to_D {e : Nat → Int32} {a : Nat → Nat} (V : vdR e a) {p : Nat} (hp : p < a 36) : ∀ τ, blkR τ 0 e a → f_X3_pullOut τ (nI p) = bd (f_X12_isIndex τ (wh (a (76 + p)) (a (88 + p))) 3) fun r9 => if r9 = 0 then some ((-4), τ) else bd (f_X3_isSafe τ (nI p)) fun r12 => if r12 = 0 then some ((-6), τ) else bd (f_X6_useAgainst τ (nI (a (52 + p)))) fun σ17 => bd (f_X8_move σ17 (nI p) (-1)) fun σ19 => some (wh (a (76 + p)) (a (88 + p)), σ19) := by
  have h12 : a 36 ≤ 12 := V.1
  intro τ B
  have p4 : τ 11 p = wh (a (76 + p)) (a (88 + p)) := (B.2.2.2.1 p hp).2.2.2.1
  have p2 : τ 9 p = nI (a (52 + p)) := (B.2.2.2.1 p hp).2.1
  unfold f_X3_pullOut
  rw [d_size B, bd_s, ix_ok hp (by omega), bd_s, if_neg (by decide), f_X8_whereIs, nI_gi (by omega) (by omega), g_nIc (by omega), p4, bd_s, f_X8_hazardOf, nI_gi (by omega) (by omega), g_nIc (by omega), p2]
  simp only [bd_s]
theorem to_ok {e : Nat → Int32} {a : Nat → Nat} (V : vdR e a) {p : Nat} (hp : p < a 36) (hs : a (76 + p) = 1) (hf : sfB a p = true) : okD (fun τ => f_X3_pullOut τ (nI p)) e a (nI (a (88 + p))) (hdE e a p) (pt (hdA a p) (76 + p) 0) ∧ vdR (hdE e a p) (pt (hdA a p) (76 + p) 0) := by
  have h12 : a 36 ≤ 12 := V.1
  obtain ⟨w1, w2, w3, w4, w5, w6⟩ := V.2.2.2.2.1 p hp
  obtain ⟨dU, V0, ha0, he0⟩ := hand_d V hp hf
  have eD := to_D V hp
  generalize hdE e a p = e0 at dU V0 he0 ⊢
  generalize hdA a p = a0 at dU V0 ha0 ⊢
  have n36 : a0 36 = a 36 := ha0 36 (by omega)
  have hpt : ∀ j, j ≠ 76 + p → j ≠ 88 + p → pt a0 (76 + p) 0 j = a0 j := fun j j1 j2 => pt_n j1
  have V2 : vdR e0 (pt a0 (76 + p) 0) := by
    refine mv_V V0 (by omega) hpt (by rw [pt_s]; omega) (by rw [pt_n (by omega), ha0 _ (by omega)]; exact w6) (fun i hi => ?_)
    refine Nat.le_trans (takeN (a := a0) (p := p) (by omega) (pt_n (by omega)) (fun j j1 j2 => pt_n j1) pt_s (by omega) i) (V0.2.2.2.2.2.2.2 i hi).2.2.2
  refine ⟨fun τ B => ?_, V2⟩
  obtain ⟨τ', u1, u2, u3⟩ := dU τ B
  refine ⟨mset τ' 11 p (-1), ?_, fun i hi => ?_, ?_⟩
  · show f_X3_pullOut τ (nI p) = _
    rw [eD τ B, hs, show wh 1 (a (88 + p)) = nI (a (88 + p)) from rfl, show f_X12_isIndex τ (nI (a (88 + p))) 3 = _ from ix_ok (N := 3) (by omega) (by omega), bd_s, if_neg (by decide), d_isSafe B V hp, if_pos hf, bd_s, if_neg (by decide), u1, bd_s, f_X8_move, nI_gi (by omega) (by omega), g_nIc (by omega), nm_s, bd_s]
  · funext q
    rw [mset_ne1 _ _ (by omega), u2 i (by omega) (by omega) (by omega)]
  · exact mv_B u3 V0.2.1 V0.1 (by omega) hpt (by rw [pt_s]; rfl)
theorem to_no2 {e : Nat → Int32} {a : Nat → Nat} (V : vdR e a) {p : Nat} (hp : p < a 36) (hs : ¬ a (76 + p) = 1) : noD (fun τ => f_X3_pullOut τ (nI p)) e a 2 := by
  have eD := to_D V hp
  refine noD_i (fun τ B => ?_)
  have hx : ¬ vp_in (wh (a (76 + p)) (a (88 + p))) 3 := by
    unfold wh
    by_cases h0 : a (76 + p) = 0
    · rw [if_pos h0]; unfold vp_in; decide
    · rw [if_neg h0, if_neg hs]; unfold vp_in; decide
  show f_X3_pullOut τ (nI p) = _
  rw [eD τ B, show f_X12_isIndex τ _ 3 = _ from ix_no (N := 3) hx (by omega), bd_s, if_pos rfl]; rfl
theorem to_chg (a1 : Int32) : chgD (fun τ => f_X3_pullOut τ a1) := by
  intro e a V
  have h12 : a 36 ≤ 12 := V.1
  by_cases h : vp_in a1 (a 36)
  · obtain ⟨p, hp, rfl⟩ := vp_ex h
    obtain ⟨w1, w2, w3, w4, w5, w6⟩ := V.2.2.2.2.1 p hp
    by_cases hs : a (76 + p) = 1
    · by_cases hf : sfB a p = true
      · exact Or.inl ⟨_, _, _, nI_ge0 (by omega), (to_ok V hp hs hf).1, (to_ok V hp hs hf).2, gP_of (fun j hj => (pt_n (by omega)).trans ((hand_d V hp hf).2.2.1 j (by omega)))⟩
      · have eD := to_D V hp
        refine Or.inr ⟨4, by omega, noD_i (fun τ B => ?_)⟩
        show f_X3_pullOut τ (nI p) = _
        rw [eD τ B, hs, show wh 1 (a (88 + p)) = nI (a (88 + p)) from rfl, show f_X12_isIndex τ (nI (a (88 + p))) 3 = _ from ix_ok (N := 3) (by omega) (by omega), bd_s, if_neg (by decide), d_isSafe B V hp, if_neg hf, bd_s, if_pos rfl]; rfl
    · exact Or.inr ⟨2, by omega, to_no2 V hp hs⟩
  · refine Or.inr ⟨0, by omega, noD_i (fun τ B => ?_)⟩
    show f_X3_pullOut τ a1 = _
    unfold f_X3_pullOut
    rw [d_size B, bd_s, ix_no h (by omega), bd_s, if_pos rfl]; rfl
