/-! all distances at once -/
def oF (x : Nat) : Int32 := if x = 4000 then -1 else nI x
theorem oF_eq {x : Nat} (h : x ≤ 4096) : (oF x = -1) = (x = 4000) := by
  unfold oF
  by_cases h0 : x = 4000
  · simp [h0]
  · rw [if_neg h0]
    refine propext ⟨fun e => ?_, fun e => absurd e h0⟩
    have h2 := congrArg Int32.toInt e
    rw [g_nIt h] at h2
    have : ((-1 : Int32)).toInt = -1 := by decide
    omega
theorem oF_n {x : Nat} (h : x ≠ 4000) : oF x = nI x := if_neg h
theorem r_length {τ : gM} {a : Nat → Nat} (hR : rdsR τ a) {i j : Nat} (hi : i < 6) (hj : j < 6) : f_X9_lengthBetween τ (nI i) (nI j) = some (if a (6 * i + j) = 0 then -1 else nI (a (6 * i + j))) := by
  obtain ⟨r1, r2, r3⟩ := hR
  have b := r2 i j hi hj
  unfold f_X9_lengthBetween f_X9_joins
  rw [ix36 hi hj, nI_gi (by omega) (by omega), g_nIc (by omega), r1 _ (by omega), show (0 : Int32) = nI 0 from rfl]
  simp (disch := omega) only [nI_leq]
  by_cases h : a (6 * i + j) = 0
  · rw [if_pos h, if_pos (by omega), bd_s, if_pos rfl]
  · rw [if_neg h, if_neg (by omega), bd_s, if_neg (by decide), nI_gi (by omega) (by omega)]
def flR (z : gM) (D : Nat → Nat → Nat) : Prop := ∀ i j, i < 6 → j < 6 → z 6 (6 * i + j) = oF (D i j)
def D0 (a : Nat → Nat) (i j : Nat) : Nat := if i = j then 0 else if a (6 * i + j) = 0 then 4000 else a (6 * i + j)
def shD (D : Nat → Nat → Nat) (k i j : Nat) : Nat := if D i k = 4000 then D i j else if D k j = 4000 then D i j else if D i j ≤ D i k + D k j then D i j else D i k + D k j
theorem shD_p {D : Nat → Nat → Nat} {k i j : Nat} (h : D i j ≤ 4000) : shD D k i j ≤ D i j ∧ shD D k i j ≤ D i k + D k j ∧ (shD D k i j = D i j ∨ (D i k ≠ 4000 ∧ D k j ≠ 4000 ∧ shD D k i j = D i k + D k j)) := by
  unfold shD
  by_cases h1 : D i k = 4000
  · rw [if_pos h1]; omega
  · rw [if_neg h1]
    by_cases h2 : D k j = 4000
    · rw [if_pos h2]; omega
    · rw [if_neg h2]
      by_cases h3 : D i j ≤ D i k + D k j
      · rw [if_pos h3]; omega
      · rw [if_neg h3]; omega
def b4 (n x : Nat) : Prop := x = 4000 ∨ x ≤ n
theorem e_shorten {z : gM} {x y w : Nat} {i k j : Nat} (hi : i < 6) (hk : k < 6) (hj : j < 6) (h1 : z 6 (6 * i + k) = oF x) (h2 : z 6 (6 * k + j) = oF y) (h3 : z 6 (6 * i + j) = oF w) (b1 : b4 1280 x) (b2 : b4 1280 y) (b3 : b4 1280 w) : f_X9_shortenBy z (nI i) (nI k) (nI j) = some z ∧ (if x = 4000 then w else if y = 4000 then w else if w ≤ x + y then w else x + y) = w ∨ f_X9_shortenBy z (nI i) (nI k) (nI j) = some (mset z 6 (6 * i + j) (nI (x + y))) ∧ x + y ≤ 2560 ∧ (if x = 4000 then w else if y = 4000 then w else if w ≤ x + y then w else x + y) = x + y := by
  unfold b4 at b1 b2 b3
  unfold f_X9_shortenBy
  rw [ix36 hi hk, ix36 hk hj, ix36 hi hj]
  simp (disch := omega) only [nI_gi, g_nIc, nm_s]
  rw [h1, h2, h3]
  simp (disch := omega) only [oF_eq]
  by_cases c1 : x = 4000
  · exact Or.inl ⟨by rw [if_pos c1], if_pos c1⟩
  · rw [if_neg c1, if_neg c1]
    by_cases c2 : y = 4000
    · exact Or.inl ⟨by rw [if_pos c2], if_pos c2⟩
    · rw [if_neg c2, if_neg c2, oF_n c1, oF_n c2, nI_al (by omega)]
      by_cases c3 : w = 4000
      · refine Or.inr ⟨by rw [if_pos c3], by omega, if_neg (by omega)⟩
      · rw [if_neg c3, oF_n c3]
        simp (disch := omega) only [nI_leq]
        by_cases c4 : w ≤ x + y
        · exact Or.inl ⟨by rw [if_pos c4], if_pos c4⟩
        · exact Or.inr ⟨by rw [if_neg c4], by omega, if_neg c4⟩
theorem sh_ik {D : Nat → Nat → Nat} {k i : Nat} (h0 : D k k = 0) : shD D k i k = D i k := by
  unfold shD
  by_cases h1 : D i k = 4000
  · rw [if_pos h1]
  · rw [if_neg h1, h0, if_neg (by omega), if_pos (by omega)]
theorem sh_kj {D : Nat → Nat → Nat} {k j : Nat} (h0 : D k k = 0) : shD D k k j = D k j := by
  unfold shD
  rw [h0, if_neg (by omega)]
  by_cases h1 : D k j = 4000
  · rw [if_pos h1]
  · rw [if_neg h1, if_pos (by omega)]
/-- a phase half done: rows before i, and of row i what lies before j -/
def flP (D : Nat → Nat → Nat) (k i j : Nat) (p q : Nat) : Nat := if p < i ∨ (p = i ∧ q < j) then shD D k p q else D p q
theorem fl_cell {z : gM} {D : Nat → Nat → Nat} {k i j : Nat} (h0 : D k k = 0) (hb : ∀ p q, p < 6 → q < 6 → b4 1280 (D p q)) (hk : k < 6) (hi : i < 6) (hj : j < 6) (hz : flR z (flP D k i j)) : ∃ z' : gM, f_X9_shortenBy z (nI i) (nI k) (nI j) = some z' ∧ (∀ x, x ≠ 6 → z' x = z x) ∧ flR z' (flP D k i (j + 1)) := by
  have e1 : z 6 (6 * i + k) = oF (D i k) := by
    rw [hz i k hi hk]; unfold flP; split
    · rw [sh_ik h0]
    · rfl
  have e2 : z 6 (6 * k + j) = oF (D k j) := by
    rw [hz k j hk hj]; unfold flP; split
    · rw [sh_kj h0]
    · rfl
  have e3 : z 6 (6 * i + j) = oF (D i j) := by
    rw [hz i j hi hj]; unfold flP
    rw [if_neg (by omega)]
  have oth : ∀ p q, p < 6 → q < 6 → ¬ (p = i ∧ q = j) → flP D k i (j + 1) p q = flP D k i j p q := fun p q hp hq h => by
    unfold flP
    by_cases c : p < i ∨ (p = i ∧ q < j)
    · rw [if_pos c, if_pos (by omega)]
    · rw [if_neg c, if_neg (by omega)]
  have own : flP D k i (j + 1) i j = shD D k i j := by
    unfold flP
    rw [if_pos (by omega)]
  rcases e_shorten hi hk hj e1 e2 e3 (hb i k hi hk) (hb k j hk hj) (hb i j hi hj) with ⟨f1, f2⟩ | ⟨f1, f2, f3⟩
  · refine ⟨z, f1, fun _ _ => rfl, fun p q hp hq => ?_⟩
    by_cases h : p = i ∧ q = j
    · obtain ⟨rfl, rfl⟩ := h
      rw [own, show shD D k p q = D p q from f2]; exact e3
    · rw [oth p q hp hq h]; exact hz p q hp hq
  · refine ⟨_, f1, fun x hx => funext fun q => mset_ne1 _ _ hx, fun p q hp hq => ?_⟩
    by_cases h : p = i ∧ q = j
    · obtain ⟨rfl, rfl⟩ := h
      rw [mset_same, own, show shD D k p q = D p k + D k q from f3, oF_n (by omega)]
    · rw [mset_ne2 _ _ (by omega), oth p q hp hq h]; exact hz p q hp hq
theorem fl_72 {z : gM} {D : Nat → Nat → Nat} {k i : Nat} (h0 : D k k = 0) (hb : ∀ p q, p < 6 → q < 6 → b4 1280 (D p q)) (hk : k < 6) (hi : i < 6) (hz : flR z (flP D k i 0)) : ∃ z' : gM, f_X9_measureByRounds_L72 (nI k) (nI i) gFU 0 z = some z' ∧ (∀ x, x ≠ 6 → z' x = z x) ∧ flR z' (flP D k (i + 1) 0) := by
  refine loop_mex (F := fun n j τ => f_X9_measureByRounds_L72 (nI k) (nI i) n j τ) (N := 6) (I := fun j z' => (∀ x, x ≠ 6 → z' x = z x) ∧ flR z' (flP D k i j)) (by omega) (fun n j s hj hI => Or.inr ?_) (fun n s hI => ?_) ⟨fun _ _ => rfl, hz⟩
  · obtain ⟨s', f1, f2, f3⟩ := fl_cell h0 hb hk hi hj hI.2
    refine ⟨s', ?_, fun x hx => (f2 x hx).trans (hI.1 x hx), f3⟩
    show f_X9_measureByRounds_L72 (nI k) (nI i) (n + 1) (nI j) s = f_X9_measureByRounds_L72 (nI k) (nI i) n (nI (j + 1)) s'
    rw [f_X9_measureByRounds_L72, if_neg (by rw [show (6 : Int32) = nI 6 from rfl, nI_leq (by omega) (by omega)]; omega), f1, bd_s, nm_s, nI_s (by omega)]
  · refine ⟨s, ?_, hI.1, fun p q hp hq => ?_⟩
    · show f_X9_measureByRounds_L72 (nI k) (nI i) (n + 1) (nI 6) s = _
      rw [f_X9_measureByRounds_L72, if_pos (by decide)]
    · rw [hI.2 p q hp hq]
      unfold flP
      by_cases c : p < i ∨ (p = i ∧ q < 6)
      · rw [if_pos c, if_pos (by omega)]
      · rw [if_neg c, if_neg (by omega)]
theorem fl_64 {z : gM} {D : Nat → Nat → Nat} {k : Nat} (h0 : D k k = 0) (hb : ∀ p q, p < 6 → q < 6 → b4 1280 (D p q)) (hk : k < 6) (hz : flR z D) : ∃ z' : gM, f_X9_measureByRounds_L64 (nI k) gFU 0 z = some z' ∧ (∀ x, x ≠ 6 → z' x = z x) ∧ flR z' (shD D k) := by
  refine loop_mex (F := fun n j τ => f_X9_measureByRounds_L64 (nI k) n j τ) (N := 6) (I := fun i z' => (∀ x, x ≠ 6 → z' x = z x) ∧ flR z' (flP D k i 0)) (by omega) (fun n j s hj hI => Or.inr ?_) (fun n s hI => ?_) ⟨fun _ _ => rfl, fun p q hp hq => by rw [hz p q hp hq]; unfold flP; rw [if_neg (by omega)]⟩
  · obtain ⟨s', f1, f2, f3⟩ := fl_72 h0 hb hk hj hI.2
    refine ⟨s', ?_, fun x hx => (f2 x hx).trans (hI.1 x hx), f3⟩
    show f_X9_measureByRounds_L64 (nI k) (n + 1) (nI j) s = f_X9_measureByRounds_L64 (nI k) n (nI (j + 1)) s'
    rw [f_X9_measureByRounds_L64, if_neg (by rw [show (6 : Int32) = nI 6 from rfl, nI_leq (by omega) (by omega)]; omega), f1, bd_s, nm_s, nI_s (by omega)]
  · refine ⟨s, ?_, hI.1, fun p q hp hq => ?_⟩
    · show f_X9_measureByRounds_L64 (nI k) (n + 1) (nI 6) s = _
      rw [f_X9_measureByRounds_L64, if_pos (by decide)]
    · rw [hI.2 p q hp hq]
      unfold flP
      rw [if_pos (by omega)]
/-- what holds when k places have been gone over -/
def fwI (a : Nat → Nat) (δ : Nat → Nat → Nat) (k B : Nat) (D : Nat → Nat → Nat) : Prop := (∀ i, i < 6 → D i i = 0) ∧ (∀ i j, i < 6 → j < 6 → b4 B (D i j)) ∧ (∀ i j, i < 6 → j < 6 → D i j ≠ 4000 → δ i j < 1000 ∧ δ i j ≤ D i j) ∧ (∀ i j, i < 6 → j < 6 → 0 < a (6 * i + j) → D i j ≤ a (6 * i + j)) ∧ ∀ m i j, m < k → i < 6 → j < 6 → D i j ≤ D i m + D m j
theorem fw_s {a : Nat → Nat} {δ : Nat → Nat → Nat} {k B : Nat} {D : Nat → Nat → Nat} (hδ : ∀ i, i < 6 → spR a i (δ i)) (hk : k < 6) (hB : B ≤ 640) (I : fwI a δ k B D) : fwI a δ (k + 1) (2 * B) (shD D k) := by
  obtain ⟨i1, i2, i3, i4, i5⟩ := I
  unfold b4 at i2
  have hp : ∀ i j, i < 6 → j < 6 → shD D k i j ≤ D i j ∧ shD D k i j ≤ D i k + D k j ∧ (shD D k i j = D i j ∨ (D i k ≠ 4000 ∧ D k j ≠ 4000 ∧ shD D k i j = D i k + D k j)) := fun i j hi hj => shD_p (by have := i2 i j hi hj; omega)
  have h0 := i1 k hk
  refine ⟨fun i hi => ?_, fun i j hi hj => ?_, fun i j hi hj hD => ?_, fun i j hi hj hw => ?_, fun m i j hm hi hj => ?_⟩
  · have := hp i i hi hi
    have := i1 i hi
    omega
  · have h1 := hp i j hi hj
    have h2 := i2 i j hi hj
    have h3 := i2 i k hi hk
    have h4 := i2 k j hk hj
    unfold b4
    omega
  · rcases (hp i j hi hj).2.2 with e | ⟨e1, e2, e3⟩
    · rw [e] at hD ⊢
      exact i3 i j hi hj hD
    · have h1 := i3 i k hi hk e1
      have h2 := i3 k j hk hj e2
      have h3 := sp_tri (hδ i hi) (hδ k hk) hk j hj h2.1
      have h4 := (hδ i hi).2.2.2 k hk
      have h5 := (hδ k hk).2.2.2 j hj
      omega
  · exact Nat.le_trans (hp i j hi hj).1 (i4 i j hi hj hw)
  · by_cases hmk : m = k
    · subst hmk
      rw [sh_ik h0, sh_kj h0]
      exact (hp i j hi hj).2.1
    · have hm6 : m < 6 := by omega
      have t1 := i5 m i j (by omega) hi hj
      have t2 := i5 m i k (by omega) hi hk
      have t3 := i5 m k j (by omega) hk hj
      have p1 := hp i j hi hj
      have p2 := hp i m hi hm6
      have p3 := hp m j hm6 hj
      omega
theorem e_floyd {τ : gM} {a : Nat → Nat} {δ : Nat → Nat → Nat} (hR : rdsR τ a) (hδ : ∀ i, i < 6 → spR a i (δ i)) : ∃ τ' : gM, f_X9_measureByRounds τ = some τ' ∧ (∀ j, j ≠ 6 → τ' j = τ j) ∧ ∀ s v, s < 6 → v < 6 → τ' 6 (6 * s + v) = oD (δ s v) := by
  obtain ⟨r1, r2, r3⟩ := id hR
  unfold f_X9_measureByRounds
  refine Exists.elim (loop_mex (F := fun n i τ => f_X9_measureByRounds_L2 n i τ) (N := 6) (I := fun i z => (∀ x, x ≠ 6 → z x = τ x) ∧ ∀ p q, p < i → q < 6 → z 6 (6 * p + q) = oF (D0 a p q)) (Q := fun z => (∀ x, x ≠ 6 → z x = τ x) ∧ flR z (D0 a)) (by omega) (fun n i z hi hI => Or.inr ?_) (fun n z hI => ?_) (s := τ) ⟨fun _ _ => rfl, fun p q hp => absurd hp (Nat.not_lt_zero _)⟩) ?_
  rotate_right
  · rintro z0 ⟨e0, y1, y2⟩
    rw [show f_X9_measureByRounds_L2 gFU 0 τ = some z0 from e0, bd_s]
    refine Exists.elim (loop_mex (F := fun n i τ => f_X9_measureByRounds_L56 n i τ) (N := 6) (I := fun k z => (∀ x, x ≠ 6 → z x = τ x) ∧ ∃ D, flR z D ∧ fwI a δ k (20 * 2 ^ k) D) (Q := fun z => (∀ x, x ≠ 6 → z x = τ x) ∧ ∃ D, flR z D ∧ fwI a δ 6 1280 D) (by omega) (fun n k z hk hI => Or.inr ?_) (fun n z hI => ?_) (s := z0) ⟨y1, D0 a, y2, fun i hi => if_pos rfl, fun i j hi hj => ?_, fun i j hi hj hD => ?_, fun i j hi hj hw => ?_, fun m i j hm => absurd hm (Nat.not_lt_zero _)⟩) ?_
    rotate_right
    · rintro z ⟨e1, w1, D, w2, w3⟩
      refine ⟨z, by rw [show f_X9_measureByRounds_L56 gFU 0 z0 = some z from e1]; rfl, w1, fun s v hs hv => ?_⟩
      obtain ⟨i1, i2, i3, i4, i5⟩ := w3
      rw [w2 s v hs hv]
      have h1 := i3 s v hs hv
      have h2 := (hδ s hs).2.2.2 v hv
      by_cases hf : δ s v < 1000
      · have h3 := sp_low (x := D s) (hδ s hs) (i1 s hs) (fun p q hp hq hw => Nat.le_trans (i5 p s q hp hs hq) (by have := i4 p q hp hq hw; omega)) (δ s v) v hv rfl hf
        have h4 := h1 (by omega)
        rw [show D s v = δ s v by omega, oF_n (by omega), oD_n (by omega)]
      · have h3 : D s v = 4000 := by
          by_cases c : D s v = 4000
          · exact c
          · have := h1 c; omega
        rw [h3, show δ s v = 1000 by omega]; rfl
    · obtain ⟨z1, D, z2, z3⟩ := hI
      have hB : 20 * 2 ^ k ≤ 640 := by
        rcases (show k = 0 ∨ k = 1 ∨ k = 2 ∨ k = 3 ∨ k = 4 ∨ k = 5 by omega) with rfl | rfl | rfl | rfl | rfl | rfl <;> decide
      obtain ⟨z', f1, f2, f3⟩ := fl_64 (z3.1 k hk) (fun p q hp hq => by have := z3.2.1 p q hp hq; unfold b4 at this ⊢; omega) hk z2
      refine ⟨z', ?_, fun x hx => (f2 x hx).trans (z1 x hx), shD D k, f3, ?_⟩
      · show f_X9_measureByRounds_L56 (n + 1) (nI k) z = f_X9_measureByRounds_L56 n (nI (k + 1)) z'
        rw [f_X9_measureByRounds_L56, if_neg (by rw [show (6 : Int32) = nI 6 from rfl, nI_leq (by omega) (by omega)]; omega), f1, bd_s, nm_s, nI_s (by omega)]
      · have := fw_s hδ hk hB z3
        rw [show 20 * 2 ^ (k + 1) = 2 * (20 * 2 ^ k) by rw [Nat.pow_succ]; omega]
        exact this
    · refine ⟨z, ?_, hI.1, hI.2⟩
      show f_X9_measureByRounds_L56 (n + 1) (nI 6) z = _
      rw [f_X9_measureByRounds_L56, if_pos (by decide)]
    · have := r2 i j hi hj
      unfold b4 D0
      split
      · omega
      · split <;> omega
    · have b := (hδ i hi).2.2.2 j hj
      have b0 := (hδ i hi).1
      unfold D0 at hD ⊢
      by_cases c1 : i = j
      · subst c1; rw [if_pos rfl]; omega
      · rw [if_neg c1] at hD ⊢
        by_cases c2 : a (6 * i + j) = 0
        · rw [if_pos c2] at hD; omega
        · rw [if_neg c2]
          have h1 := (hδ i hi).2.1 i j hi hj (by omega)
          have h2 := r2 i j hi hj
          omega
    · unfold D0
      split
      · omega
      · rw [if_neg (by omega)]; exact Nat.le_refl _
  · obtain ⟨z1, z2⟩ := hI
    refine Exists.elim (loop_mex (F := fun n j τ => f_X9_measureByRounds_L10 (nI i) n j τ) (N := 6) (I := fun j z' => (∀ x, x ≠ 6 → z' x = τ x) ∧ (∀ p q, p < i → q < 6 → z' 6 (6 * p + q) = oF (D0 a p q)) ∧ ∀ q, q < j → z' 6 (6 * i + q) = oF (D0 a i q)) (Q := fun z' => (∀ x, x ≠ 6 → z' x = τ x) ∧ ∀ p q, p < i + 1 → q < 6 → z' 6 (6 * p + q) = oF (D0 a p q)) (by omega) (fun n j s hj hI => Or.inr ?_) (fun n s hI => ?_) (s := z) ⟨z1, z2, fun q hq => absurd hq (Nat.not_lt_zero _)⟩) ?_
    rotate_right
    · rintro z' ⟨f1, f2, f3⟩
      refine ⟨z', ?_, f2, f3⟩
      show f_X9_measureByRounds_L2 (n + 1) (nI i) z = f_X9_measureByRounds_L2 n (nI (i + 1)) z'
      rw [f_X9_measureByRounds_L2, if_neg (by rw [show (6 : Int32) = nI 6 from rfl, nI_leq (by omega) (by omega)]; omega), show f_X9_measureByRounds_L10 (nI i) gFU 0 z = some z' from f1, bd_s, nm_s, nI_s (by omega)]
    · obtain ⟨s1, s2, s3⟩ := hI
      have hRs : rdsR s a := ⟨fun q hq => by rw [s1 3 (by decide)]; exact r1 q hq, r2, r3⟩
      refine ⟨mset s 6 (6 * i + j) (oF (D0 a i j)), ?_, fun x hx => funext fun q => by rw [mset_ne1 _ _ hx, s1 x hx], fun p q hp hq => ?_, fun q hq => ?_⟩
      · show f_X9_measureByRounds_L10 (nI i) (n + 1) (nI j) s = f_X9_measureByRounds_L10 (nI i) n (nI (j + 1)) _
        rw [f_X9_measureByRounds_L10, if_neg (by rw [show (6 : Int32) = nI 6 from rfl, nI_leq (by omega) (by omega)]; omega), ix36 hi hj, r_length hRs hi hj]
        simp (disch := omega) only [nI_inj, nI_gi, g_nIc, nm_s, bd_s, nI_s]
        by_cases c : i = j
        · rw [if_pos c, show D0 a i j = 0 from if_pos c]; rfl
        · rw [if_neg c]
          have b := r2 i j hi hj
          by_cases c2 : a (6 * i + j) = 0
          · rw [if_pos c2, show D0 a i j = 4000 from (if_neg c).trans (if_pos c2)]; rfl
          · rw [if_neg c2, show D0 a i j = a (6 * i + j) from (if_neg c).trans (if_neg c2), oF_n (by omega)]
      · rw [mset_ne2 _ _ (by omega)]; exact s2 p q hp hq
      · by_cases c : q = j
        · subst c; rw [mset_same]
        · rw [mset_ne2 _ _ (by omega)]; exact s3 q (by omega)
    · refine ⟨s, ?_, hI.1, fun p q hp hq => ?_⟩
      · show f_X9_measureByRounds_L10 (nI i) (n + 1) (nI 6) s = _
        rw [f_X9_measureByRounds_L10, if_pos (by decide)]
      · by_cases c : p = i
        · subst c; exact hI.2.2 q hq
        · exact hI.2.1 p q (by omega) hq
  · refine ⟨z, ?_, hI.1, fun p q hp hq => hI.2 p q hp hq⟩
    show f_X9_measureByRounds_L2 (n + 1) (nI 6) z = _
    rw [f_X9_measureByRounds_L2, if_pos (by decide)]

