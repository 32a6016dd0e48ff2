/-! a glove is used, and goes when it is used up -/
theorem nI_p {m : Nat} (h : m + 1 ≤ 4096) : nI (m + 1) - 1 = nI m := by
  rw [← nI_s h]
  exact Int32.add_sub_cancel _ _
def shA (a : Nat → Nat) (g m : Nat) : Nat → Nat := fun j => if (112 + g ≤ j ∧ j < 112 + m) ∨ (120 + g ≤ j ∧ j < 120 + m) then a (j + 1) else a j
theorem shA_n {a : Nat → Nat} {g m j : Nat} (h : ¬ ((112 + g ≤ j ∧ j < 112 + m) ∨ (120 + g ≤ j ∧ j < 120 + m))) : shA a g m j = a j := if_neg h
theorem shA_i {a : Nat → Nat} {g m j : Nat} (h : (112 + g ≤ j ∧ j < 112 + m) ∨ (120 + g ≤ j ∧ j < 120 + m)) : shA a g m j = a (j + 1) := if_pos h
theorem shA_s {a : Nat → Nat} {g i : Nat} (h1 : g ≤ i) (h2 : i ≤ 6) : pt (pt (shA a g i) (112 + i) (a (112 + i + 1))) (120 + i) (a (120 + i + 1)) = shA a g (i + 1) := by
  funext j
  by_cases e2 : j = 120 + i
  · subst e2
    rw [pt_s, shA_i (by omega)]
  · rw [pt_n e2]
    by_cases e1 : j = 112 + i
    · subst e1
      rw [pt_s, shA_i (by omega)]
    · rw [pt_n e1]
      by_cases h : (112 + g ≤ j ∧ j < 112 + i) ∨ (120 + g ≤ j ∧ j < 120 + i)
      · rw [shA_i h, shA_i (by omega)]
      · rw [shA_n h, shA_n (by omega)]
theorem shA_0 {a : Nat → Nat} {g : Nat} : shA a g g = a := funext fun j => shA_n (by omega)
theorem d_shift {σ0 : gM} {g N : Nat} (hN : N ≤ 7) (h13 : σ0 13 2 = nI N) : ∀ (k i n : Nat) (σ : gM), i + k = N → k < n → g ≤ i → (∀ j, j ≠ 14 → j ≠ 15 → σ j = σ0 j) → (∀ p, σ 14 p = if g ≤ p ∧ p < i then σ0 14 (p + 1) else σ0 14 p) → (∀ p, σ 15 p = if g ≤ p ∧ p < i then σ0 15 (p + 1) else σ0 15 p) →
    ∃ σ' : gM, f_X6_remove_L12 n (nI i) σ = some σ' ∧ (∀ j, j ≠ 14 → j ≠ 15 → σ' j = σ0 j) ∧ (∀ p, σ' 14 p = if g ≤ p ∧ p < N then σ0 14 (p + 1) else σ0 14 p) ∧ (∀ p, σ' 15 p = if g ≤ p ∧ p < N then σ0 15 (p + 1) else σ0 15 p) := by
  intro k
  induction k with
  | zero =>
    intro i n σ hi hn hg ho h14 h15
    obtain ⟨m, rfl⟩ : ∃ m, n = m + 1 := ⟨n - 1, by omega⟩
    have : i = N := by omega
    subst this
    exact ⟨σ, by rw [f_X6_remove_L12, ho 13 (by decide) (by decide), h13, if_pos (by rw [nI_leq (by omega) (by omega)]; omega)], ho, h14, h15⟩
  | succ k ih =>
    intro i n σ hi hn hg ho h14 h15
    obtain ⟨m, rfl⟩ : ∃ m, n = m + 1 := ⟨n - 1, by omega⟩
    have r1 : σ 14 (i + 1) = σ0 14 (i + 1) := by rw [h14, if_neg (by omega)]
    have r2 : σ 15 (i + 1) = σ0 15 (i + 1) := by rw [h15, if_neg (by omega)]
    obtain ⟨σ', e1, e2, e3, e4⟩ := ih (i + 1) m (mset (mset σ 14 i (σ0 14 (i + 1))) 15 i (σ0 15 (i + 1))) (by omega) (by omega) (by omega) (fun j j1 j2 => funext fun q => by rw [mset_ne1 _ _ j2, mset_ne1 _ _ j1, ho j j1 j2]) (fun p => by
      rw [mset_ne1 _ _ (by decide)]
      by_cases hp : p = i
      · subst hp; rw [mset_same, if_pos (by omega)]
      · rw [mset_ne2 _ _ hp, h14]
        by_cases hc : g ≤ p ∧ p < i
        · rw [if_pos hc, if_pos (by omega)]
        · rw [if_neg hc, if_neg (by omega)]) (fun p => by
      by_cases hp : p = i
      · subst hp; rw [mset_same, if_pos (by omega)]
      · rw [mset_ne2 _ _ hp, mset_ne1 _ _ (by decide), h15]
        by_cases hc : g ≤ p ∧ p < i
        · rw [if_pos hc, if_pos (by omega)]
        · rw [if_neg hc, if_neg (by omega)])
    refine ⟨σ', ?_, e2, e3, e4⟩
    rw [← e1, f_X6_remove_L12, ho 13 (by decide) (by decide), h13, if_neg (by rw [nI_leq (by omega) (by omega)]; omega), nI_s (by omega)]
    simp (disch := omega) only [nI_gi, g_nIc, nm_s, mset_ne1, r1, r2]
def usA (a : Nat → Nat) (g : Nat) : Nat → Nat := if a (120 + g) + 1 = 3 then pt (shA (pt a (120 + g) (a (120 + g) + 1)) g 7) 37 (a 37 - 1) else pt a (120 + g) (a (120 + g) + 1)
def usE (e : Nat → Int32) (a : Nat → Nat) (g : Nat) : Nat → Int32 := if a (120 + g) + 1 = 3 then pe e 39 (e 39 + 1) else e
theorem usA_n {a : Nat → Nat} {g j : Nat} (hg : g < 8) (h : j < 37 ∨ (37 < j ∧ j < 112) ∨ 128 ≤ j) : usA a g j = a j := by
  unfold usA
  by_cases h3 : a (120 + g) + 1 = 3
  · rw [if_pos h3, pt_n (by omega), shA_n (by omega), pt_n (by omega)]
  · rw [if_neg h3, pt_n (by omega)]
theorem usE_n {e : Nat → Int32} {a : Nat → Nat} {g j : Nat} (h : j ≠ 39) : usE e a g j = e j := by
  unfold usE
  split
  · exact pe_n h
  · rfl
/-- what is left after a use-up -/
theorem usA_r {a : Nat → Nat} {g : Nat} (h3 : a (120 + g) + 1 = 3) : usA a g 37 = a 37 - 1 ∧ ∀ p, p < 7 → (p < g → usA a g (112 + p) = a (112 + p) ∧ usA a g (120 + p) = a (120 + p)) ∧ (g ≤ p → usA a g (112 + p) = a (112 + p + 1) ∧ usA a g (120 + p) = a (120 + p + 1)) := by
  have hu : usA a g = pt (shA (pt a (120 + g) (a (120 + g) + 1)) g 7) 37 (a 37 - 1) := if_pos h3
  rw [hu]
  refine ⟨pt_s, fun p hp => ⟨fun h => ⟨?_, ?_⟩, fun h => ⟨?_, ?_⟩⟩⟩
  · rw [pt_n (by omega), shA_n (by omega), pt_n (by omega)]
  · rw [pt_n (by omega), shA_n (by omega), pt_n (by omega)]
  · rw [pt_n (by omega), shA_i (by omega), pt_n (by omega)]
  · rw [pt_n (by omega), shA_i (by omega), pt_n (by omega)]
theorem us_V {e : Nat → Int32} {a : Nat → Nat} (V : vdR e a) {g : Nat} (hg : g < a 37) : vdR (usE e a g) (usA a g) := by
  obtain ⟨v1, v2, v3, v4, v5, v6, v7, v8⟩ := V
  have ha : ∀ j, (j < 37 ∨ (37 < j ∧ j < 112) ∨ 128 ≤ j) → usA a g j = a j := fun j hj => usA_n (by omega) hj
  have h37 : usA a g 37 ≤ 8 ∧ ∀ i, i < usA a g 37 → 1 ≤ usA a g (112 + i) ∧ usA a g (112 + i) ≤ 3 ∧ usA a g (120 + i) ≤ 2 := by
    by_cases h3 : a (120 + g) + 1 = 3
    · obtain ⟨r1, r2⟩ := usA_r h3
      rw [r1]
      refine ⟨by omega, fun i hi => ?_⟩
      obtain ⟨r3, r4⟩ := r2 i (by omega)
      by_cases h : i < g
      · rw [(r3 h).1, (r3 h).2]; exact v7 i (by omega)
      · rw [(r4 (by omega)).1, (r4 (by omega)).2]; exact v7 (i + 1) (by omega)
    · have hu : usA a g = pt a (120 + g) (a (120 + g) + 1) := if_neg h3
      rw [hu, pt_n (by omega)]
      refine ⟨v2, fun i hi => ?_⟩
      rw [pt_n (j := 120 + g) (i := 112 + i) (by omega)]
      obtain ⟨q1, q2, q3⟩ := v7 i hi
      by_cases h : i = g
      · subst h; rw [pt_s]; omega
      · rw [pt_n (by omega)]; exact ⟨q1, q2, q3⟩
  refine ⟨by rw [ha 36 (by omega)]; exact v1, h37.1, fun p q hp hq => ?_, fun p hp => ?_, fun q hq => ?_, fun q q1 q2 => ?_, h37.2, fun p hp => ?_⟩
  · rw [ha (6 * p + q) (by omega), ha (6 * q + p) (by omega)]; exact v3 p q hp hq
  · rw [ha (6 * p + p) (by omega)]; exact v4 p hp
  · rw [ha 36 (by omega)] at hq
    rw [ha (40 + q) (by omega), ha (52 + q) (by omega), ha (64 + q) (by omega), ha (76 + q) (by omega), ha (88 + q) (by omega)]; exact v5 q hq
  · rw [ha 36 (by omega)] at q1
    rw [ha (76 + q) (by omega), ha (88 + q) (by omega), usE_n (by omega)]; exact v6 q q1 q2
  · rw [ha (128 + p) (by omega), ha (131 + p) (by omega), loadN_congr (b := a) (ha 36 (by omega)) (fun q hq => ⟨ha _ (by omega), ha _ (by omega), ha _ (by omega)⟩) p]; exact v8 p hp
/-- the gloves of a block are changed, nothing else -/
theorem blk_glo {τ τ2 : gM} {e e2 : Nat → Int32} {a a2 : Nat → Nat} (B : blkR τ 0 e a) (h36 : a 36 ≤ 12) (h : ∀ i, i ≠ 13 → i ≠ 14 → i ≠ 15 → τ2 i = τ i) (ha : ∀ j, j < 37 ∨ (37 < j ∧ j < 112) ∨ 128 ≤ j → a2 j = a j) (he : ∀ j, j ≠ 39 → e2 j = e j)
    (h1 : τ2 13 2 = nI (a2 37)) (h2 : τ2 13 3 = e2 39) (h3 : ∀ i, i < a2 37 → τ2 14 i = nI (a2 (112 + i)) ∧ τ2 15 i = nI (3 - a2 (120 + i))) : blkR τ2 0 e2 a2 := by
  obtain ⟨b1, b2, b3, b4, b5, b6, b7, b8, b9⟩ := B
  refine ⟨fun i hi => ?_, ?_, ?_, fun p hp => ?_, h1, h2, h3, ?_, fun i hi => ?_⟩
  · rw [ha i (by omega), h _ (by omega) (by omega) (by omega)]; exact b1 i hi
  · rw [roadsN_congr (b := a) (fun j hj => ha j (by omega)), h _ (by omega) (by omega) (by omega)]; exact b2
  · rw [ha 36 (by omega), h _ (by omega) (by omega) (by omega)]; exact b3
  · rw [ha 36 (by omega)] at hp
    rw [ha (40 + p) (by omega), ha (52 + p) (by omega), ha (64 + p) (by omega), ha (76 + p) (by omega), ha (88 + p) (by omega), he _ (by omega), h (1 + 18 * 0 + 7) (by omega) (by omega) (by omega), h (1 + 18 * 0 + 8) (by omega) (by omega) (by omega), h (1 + 18 * 0 + 9) (by omega) (by omega) (by omega), h (1 + 18 * 0 + 10) (by omega) (by omega) (by omega), h (1 + 18 * 0 + 11) (by omega) (by omega) (by omega)]; exact b4 p hp
  · rw [he _ (by omega), h _ (by omega) (by omega) (by omega)]; exact b8
  · rw [ha (128 + i) (by omega), ha (131 + i) (by omega), h (1 + 18 * 0 + 16) (by omega) (by omega) (by omega), h (1 + 18 * 0 + 17) (by omega) (by omega) (by omega)]; exact b9 i hi
theorem nI_nz {h : Nat} (h1 : 1 ≤ h) (h2 : h ≤ 4096) : ¬ nI h = 0 := by
  rw [show (0 : Int32) = nI 0 from rfl, nI_inj h2 (by omega)]; omega
theorem d_use {τ : gM} {e : Nat → Int32} {a : Nat → Nat} (B : blkR τ 0 e a) (V : vdR e a) {h g : Nat} (h1 : 1 ≤ h) (h2 : h ≤ 3) (hb : bst a h (a 37) = g + 1) : ∃ τ' : gM, f_X6_useAgainst τ (nI h) = some τ' ∧ (∀ i, i ≠ 13 → i ≠ 14 → i ≠ 15 → τ' i = τ i) ∧ blkR τ' 0 (usE e a g) (usA a g) := by
  have hle := bst_le a h (a 37)
  have hg : g < a 37 := by omega
  have h8 : a 37 ≤ 8 := V.2.1
  have b13 : τ 13 2 = nI (a 37) := B.2.2.2.2.1
  have b133 : τ 13 3 = e 39 := B.2.2.2.2.2.1
  have b7 : ∀ i, i < a 37 → τ 14 i = nI (a (112 + i)) ∧ τ 15 i = nI (3 - a (120 + i)) := B.2.2.2.2.2.2.1
  have ho : ¬ oI (g + 1) = -1 := by rw [oI_eq (by omega)]; omega
  have eo : oI (g + 1) = nI g := if_neg (Nat.succ_ne_zero g)
  rw [eo] at ho
  obtain ⟨-, -, hu⟩ := V.2.2.2.2.2.2.1 g hg
  have e15 : τ 15 g - 1 = nI (3 - (a (120 + g) + 1)) := by
    rw [(b7 g hg).2]
    rcases (show a (120 + g) = 0 ∨ a (120 + g) = 1 ∨ a (120 + g) = 2 by omega) with q | q | q <;> rw [q] <;> rfl
  unfold f_X6_useAgainst
  rw [if_neg (nI_nz h1 (by omega)), d_best B V h2, hb, bd_s, eo, if_neg ho]
  simp (disch := omega) only [nI_gi, g_nIc, nm_s, mset_same]
  rw [e15, show (0 : Int32) = nI 0 from rfl]
  simp (disch := omega) only [nI_inj]
  by_cases h3 : a (120 + g) + 1 = 3
  · rw [if_pos (by omega), f_X6_remove, nm_s]
    obtain ⟨N, hN⟩ : ∃ N, a 37 = N + 1 := ⟨a 37 - 1, by omega⟩
    have eN : (mset τ 15 g (nI (3 - (a (120 + g) + 1)))) 13 2 - 1 = nI N := by
      rw [mset_ne1 _ _ (by decide), b13, hN, nI_p (by omega)]
    rw [eN]
    obtain ⟨σ', e1, e2, e3, e4⟩ := d_shift (σ0 := mset (mset τ 15 g (nI (3 - (a (120 + g) + 1)))) 13 2 (nI N)) (g := g) (N := N) (by omega) (mset_same _ _ _ _) (N - g) g gFU _ (by omega) (by rw [gFU_eq]; omega) (Nat.le_refl _) (fun _ _ _ => rfl) (fun p => by rw [if_neg (by omega)]) (fun p => by rw [if_neg (by omega)])
    rw [e1, bd_s, bd_s]
    have s13 : σ' 13 3 = e 39 := by rw [e2 13 (by decide) (by decide), mset_ne2 _ _ (by decide), mset_ne1 _ _ (by decide), b133]
    refine ⟨_, rfl, fun i i1 i2 i3 => funext fun q => ?_, ?_⟩
    · rw [mset_ne1 _ _ i1, e2 i i2 i3, mset_ne1 _ _ i1, mset_ne1 _ _ i3]
    · obtain ⟨r1, r2⟩ := usA_r h3
      refine blk_glo B V.1 (fun i i1 i2 i3 => funext fun q => ?_) (fun j hj => usA_n (by omega) hj) (fun j hj => usE_n hj) ?_ ?_ (fun i hi => ?_)
      · rw [mset_ne1 _ _ i1, e2 i i2 i3, mset_ne1 _ _ i1, mset_ne1 _ _ i3]
      · rw [mset_ne2 _ _ (by decide), e2 13 (by decide) (by decide), mset_same, r1, hN]; rfl
      · rw [mset_same, s13, show usE e a g = pe e 39 (e 39 + 1) from if_pos h3, pe_s]
      · rw [r1] at hi
        obtain ⟨r3, r4⟩ := r2 i (by omega)
        rw [mset_ne1 _ _ (by decide), mset_ne1 _ _ (by decide), e3, e4]
        by_cases hc : i < g
        · rw [(r3 hc).1, (r3 hc).2, if_neg (by omega), if_neg (by omega), mset_ne1 _ _ (by decide), mset_ne1 _ _ (by decide), mset_ne1 _ _ (by decide), mset_ne2 _ _ (by omega)]
          exact b7 i (by omega)
        · rw [(r4 (by omega)).1, (r4 (by omega)).2, if_pos (by omega), if_pos (by omega), mset_ne1 _ _ (by decide), mset_ne1 _ _ (by decide), mset_ne1 _ _ (by decide), mset_ne2 _ _ (by omega)]
          exact b7 (i + 1) (by omega)
  · rw [if_neg (by omega)]
    have hu2 : usA a g = pt a (120 + g) (a (120 + g) + 1) := if_neg h3
    refine ⟨_, rfl, fun i i1 i2 i3 => funext fun q => mset_ne1 _ _ i3, ?_⟩
    refine blk_glo B V.1 (fun i i1 i2 i3 => funext fun q => mset_ne1 _ _ i3) (fun j hj => usA_n (by omega) hj) (fun j hj => usE_n hj) ?_ ?_ (fun i hi => ?_)
    · rw [mset_ne1 _ _ (by decide), b13, hu2, pt_n (by omega)]
    · rw [mset_ne1 _ _ (by decide), b133, show usE e a g = e from if_neg h3]
    · rw [hu2] at hi ⊢
      rw [pt_n (by omega)] at hi
      rw [mset_ne1 _ _ (by decide), pt_n (i := 112 + i) (by omega)]
      refine ⟨(b7 i hi).1, ?_⟩
      by_cases hc : i = g
      · subst hc; rw [mset_same, pt_s]
      · rw [mset_ne2 _ _ hc, pt_n (by omega)]; exact (b7 i hi).2
