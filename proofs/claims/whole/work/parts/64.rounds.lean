/-! the reference's rounds -/
def exR (τ z : gM) (δ d : Nat → Nat) : Prop := (∀ i, i ≠ 226 → z i = τ i) ∧ (∀ v, v < 6 → z 226 v = nI (d v)) ∧ ∀ v, v < 6 → δ v ≤ d v ∧ d v ≤ 1000
theorem ex_51 {τ z : gM} {a δ d0 : Nat → Nat} {s : Nat} {p2 : Int32} (hr : rowR (τ 220) a) (ha : ∀ i j, i < 6 → j < 6 → a (6 * i + j) ≤ 20) (hδ : spR a s δ) {u : Nat} (hu : u < 6) (hz : exR τ z δ d0) : ∃ z' : gM, f_X13_explores_L51 p2 (nI u) gFU 0 z = some z' ∧ ∃ d : Nat → Nat, exR τ z' δ d ∧ (∀ v, v < 6 → d v ≤ d0 v) ∧ ∀ v, v < 6 → 0 < a (6 * u + v) → d v ≤ d0 u + a (6 * u + v) := by
  refine loop_mex (F := fun n i τ => f_X13_explores_L51 p2 (nI u) n i τ) (N := 6) (I := fun j z' => ∃ d : Nat → Nat, exR τ z' δ d ∧ (∀ v, v < 6 → d v ≤ d0 v) ∧ ∀ v, v < j → 0 < a (6 * u + v) → d v ≤ d0 u + a (6 * u + v)) (by omega) (fun n i s' hi hI => Or.inr ?_) (fun n s' hI => ?_) ⟨d0, hz, fun _ _ => Nat.le_refl _, fun v hv => absurd hv (Nat.not_lt_zero _)⟩
  · obtain ⟨d, ⟨x1, x2, x3⟩, x4, x5⟩ := hI
    have w := ha u i hu hi
    have bu := x3 u hu
    have bi := x3 i hi
    have hr2 : rowR (s' 220) a := by rw [x1 220 (by decide)]; exact hr
    refine ⟨mset s' 226 i (nI (rlx a d u i)), ?_, fun v => if v = i then rlx a d u i else d v, ⟨fun j hj => funext fun q => by rw [mset_ne1 _ _ hj, x1 j hj], fun v hv => ?_, fun v hv => ?_⟩, fun v hv => ?_, fun v hv hw => ?_⟩
    · show f_X13_explores_L51 p2 (nI u) (n + 1) (nI i) s' = f_X13_explores_L51 p2 (nI u) n (nI (i + 1)) _
      rw [f_X13_explores_L51, if_neg (by rw [show (6 : Int32) = nI 6 from rfl, nI_leq (by omega) (by omega)]; omega), e_road hr2 hu hi]
      simp (disch := omega) only [nI_gi, g_nIc, nm_s, bd_s]
      rw [x2 u hu, x2 i hi, nI_al (by omega), show (0 : Int32) = nI 0 from rfl]
      simp (disch := omega) only [nI_leq, nI_s]
      by_cases h1 : a (6 * u + i) ≤ 0
      · rw [if_pos h1, show rlx a d u i = d i from if_pos (by omega)]
      · rw [if_neg h1]
        by_cases h2 : d i ≤ d u + a (6 * u + i)
        · rw [if_pos h2, show rlx a d u i = d i from (if_neg (by omega)).trans (if_pos h2)]
        · rw [if_neg h2, show rlx a d u i = d u + a (6 * u + i) from (if_neg (by omega)).trans (if_neg h2)]
    · show mset s' 226 i (nI (rlx a d u i)) 226 v = nI (if v = i then rlx a d u i else d v)
      by_cases h : v = i
      · subst h; rw [mset_same, if_pos rfl]
      · rw [mset_ne2 _ _ h, if_neg h]; exact x2 v hv
    · show δ v ≤ (if v = i then rlx a d u i else d v) ∧ (if v = i then rlx a d u i else d v) ≤ 1000
      by_cases h : v = i
      · subst h
        rw [if_pos rfl]
        have := hδ.2.1 u v hu hv
        unfold rlx
        by_cases h1 : a (6 * u + v) = 0
        · rw [if_pos h1]; omega
        · rw [if_neg h1]
          have := this (by omega)
          split <;> omega
      · rw [if_neg h]; exact x3 v hv
    · show (if v = i then rlx a d u i else d v) ≤ d0 v
      by_cases h : v = i
      · subst h
        rw [if_pos rfl]
        have := x4 v hv
        unfold rlx
        split
        · omega
        · split <;> omega
      · rw [if_neg h]; exact x4 v hv
    · show (if v = i then rlx a d u i else d v) ≤ d0 u + a (6 * u + v)
      by_cases h : v = i
      · subst h
        rw [if_pos rfl]
        have := x4 u hu
        unfold rlx
        rw [if_neg (by omega)]
        split <;> omega
      · rw [if_neg h]; exact x5 v (by omega) hw
  · obtain ⟨d, x1, x4, x5⟩ := hI
    refine ⟨s', ?_, d, x1, x4, x5⟩
    show f_X13_explores_L51 p2 (nI u) (n + 1) (nI 6) s' = _
    rw [f_X13_explores_L51, if_pos (by decide)]
theorem ex_42 {τ z : gM} {a δ d0 : Nat → Nat} {s : Nat} {p2 : Int32} (hr : rowR (τ 220) a) (ha : ∀ i j, i < 6 → j < 6 → a (6 * i + j) ≤ 20) (hδ : spR a s δ) (hz : exR τ z δ d0) : ∃ z' : gM, f_X13_explores_L42 p2 gFU 0 z = some z' ∧ ∃ d : Nat → Nat, exR τ z' δ d ∧ (∀ v, v < 6 → d v ≤ d0 v) ∧ ∀ u v, u < 6 → v < 6 → 0 < a (6 * u + v) → d v ≤ d0 u + a (6 * u + v) := by
  refine loop_mex (F := fun n i τ => f_X13_explores_L42 p2 n i τ) (N := 6) (I := fun j z' => ∃ d : Nat → Nat, exR τ z' δ d ∧ (∀ v, v < 6 → d v ≤ d0 v) ∧ ∀ u v, u < j → v < 6 → 0 < a (6 * u + v) → d v ≤ d0 u + a (6 * u + v)) (by omega) (fun n i s' hi hI => Or.inr ?_) (fun n s' hI => ?_) ⟨d0, hz, fun _ _ => Nat.le_refl _, fun u v hu => absurd hu (Nat.not_lt_zero _)⟩
  · obtain ⟨d, x1, x4, x5⟩ := hI
    obtain ⟨z', e1, d', y1, y2, y3⟩ := ex_51 (p2 := p2) hr ha hδ hi x1
    refine ⟨z', ?_, d', y1, fun v hv => Nat.le_trans (y2 v hv) (x4 v hv), fun u v hu hv hw => ?_⟩
    · show f_X13_explores_L42 p2 (n + 1) (nI i) s' = f_X13_explores_L42 p2 n (nI (i + 1)) _
      rw [f_X13_explores_L42, if_neg (by rw [show (6 : Int32) = nI 6 from rfl, nI_leq (by omega) (by omega)]; omega), e1, bd_s, nm_s, nI_s (by omega)]
    · by_cases h : u = i
      · subst h
        have := y3 v hv hw
        have := x4 u hi
        omega
      · exact Nat.le_trans (y2 v hv) (x5 u v (by omega) hv hw)
  · obtain ⟨d, x1, x4, x5⟩ := hI
    refine ⟨s', ?_, d, x1, x4, x5⟩
    show f_X13_explores_L42 p2 (n + 1) (nI 6) s' = _
    rw [f_X13_explores_L42, if_pos (by decide)]
theorem e_explore {τ : gM} {a δ : Nat → Nat} {s : Nat} (hr : rowR (τ 220) a) (ha : ∀ i j, i < 6 → j < 6 → a (6 * i + j) ≤ 20) (hs : s < 6) (hδ : spR a s δ) : ∃ τ' : gM, f_X13_explores τ (nI s) = some τ' ∧ (∀ j, j ≠ 226 → τ' j = τ j) ∧ ∀ v, v < 6 → τ' 226 v = nI (δ v) := by
  unfold f_X13_explores
  refine Exists.elim (loop_mex (F := fun n i τ => f_X13_explores_L2 (nI s) n i τ) (N := 6) (I := fun j z => (∀ i, i ≠ 226 → z i = τ i) ∧ ∀ v, v < j → z 226 v = nI (if v = s then 0 else 1000)) (Q := fun z => (∀ i, i ≠ 226 → z i = τ i) ∧ ∀ v, v < 6 → z 226 v = nI (if v = s then 0 else 1000)) (by omega) (fun n i z hi hI => Or.inr ?_) (fun n z hI => ?_) (s := τ) ⟨fun _ _ => rfl, fun v hv => absurd hv (Nat.not_lt_zero _)⟩) ?_
  rotate_right
  · rintro z0 ⟨e0, y1, y2⟩
    rw [show f_X13_explores_L2 (nI s) gFU 0 τ = some z0 from e0, bd_s]
    refine Exists.elim (loop_mex (F := fun n i τ => f_X13_explores_L34 n i τ) (N := 6) (I := fun r z => ∃ d : Nat → Nat, exR τ z δ d ∧ ∀ v, v < 6 → rkN' δ v ≤ r → d v ≤ δ v) (Q := fun z => ∃ d : Nat → Nat, exR τ z δ d ∧ ∀ v, v < 6 → d v ≤ δ v) (by omega) (fun n i z hi hI => Or.inr ?_) (fun n z hI => ?_) (s := z0) ⟨fun v => if v = s then 0 else 1000, ⟨y1, y2, fun v hv => ?_⟩, fun v hv hk => ?_⟩) ?_
    rotate_right
    · rintro z ⟨e1, d, x1, x2⟩
      refine ⟨z, by rw [show f_X13_explores_L34 gFU 0 z0 = some z from e1]; rfl, x1.1, fun v hv => ?_⟩
      have h1 := x2 v hv
      have h2 := (x1.2.2 v hv).1
      rw [x1.2.1 v hv, show d v = δ v by omega]
    · obtain ⟨d, x1, x2⟩ := hI
      obtain ⟨z', e1, d', w1, w2, w3⟩ := ex_42 (p2 := nI i) hr ha hδ x1
      refine ⟨z', ?_, d', w1, fun v hv hk => ?_⟩
      · show f_X13_explores_L34 (n + 1) (nI i) z = f_X13_explores_L34 n (nI (i + 1)) z'
        rw [f_X13_explores_L34, if_neg (by rw [show (6 : Int32) = nI 6 from rfl, nI_leq (by omega) (by omega)]; omega), e1, bd_s, nm_s, nI_s (by omega)]
      · rcases hδ.2.2.1 v hv with q | q | ⟨u, hu, hw, q⟩
        · subst q
          have k0 : rkN' δ v ≤ i := by
            have : rkN' δ v = 0 := by
              have : ∀ n, sm (fun u => if δ u < δ v then 1 else 0) n = 0 := by
                intro n
                induction n with
                | zero => rfl
                | succ n ih =>
                  show sm _ n + (if δ n < δ v then 1 else 0) = 0
                  rw [ih, if_neg (by have := hδ.1; omega)]
              exact this 6
            omega
          exact Nat.le_trans (w2 v hv) (x2 v hv k0)
        · have := (x1.2.2 v hv).2
          have := w2 v hv
          omega
        · have hlt : rkN' δ u < rkN' δ v := rk_lt hu (by omega)
          have h1 := x2 u hu (by omega)
          have h2 := w3 u v hu hv hw
          omega
    · obtain ⟨d, x1, x2⟩ := hI
      refine ⟨z, ?_, d, x1, fun v hv => x2 v hv (by have := rk_6 (d := δ) hv; omega)⟩
      show f_X13_explores_L34 (n + 1) (nI 6) z = _
      rw [f_X13_explores_L34, if_pos (by decide)]
    · show δ v ≤ (if v = s then 0 else 1000) ∧ (if v = s then 0 else 1000) ≤ 1000
      have := sp_le hδ hv
      by_cases h : v = s
      · subst h; rw [if_pos rfl]; have := hδ.1; omega
      · rw [if_neg h]; omega
    · show (if v = s then 0 else 1000) ≤ δ v
      by_cases h : v = s
      · rw [if_pos h]; omega
      · rw [if_neg h]
        rcases hδ.2.2.1 v hv with q | q | ⟨u, hu, hw, q⟩
        · exact absurd q h
        · omega
        · have hlt : rkN' δ u < rkN' δ v := rk_lt hu (by omega)
          omega
  · obtain ⟨z1, z2⟩ := hI
    refine ⟨mset z 226 i (nI (if i = s then 0 else 1000)), ?_, fun j hj => funext fun q => by rw [mset_ne1 _ _ hj, z1 j hj], fun v hv => ?_⟩
    · show f_X13_explores_L2 (nI s) (n + 1) (nI i) z = f_X13_explores_L2 (nI s) n (nI (i + 1)) _
      rw [f_X13_explores_L2, if_neg (by rw [show (6 : Int32) = nI 6 from rfl, nI_leq (by omega) (by omega)]; omega)]
      simp (disch := omega) only [nI_inj, nI_gi, g_nIc, nm_s, nI_s]
      by_cases h : i = s
      · rw [if_pos h, if_pos h]; rfl
      · rw [if_neg h, if_neg h]; rfl
    · by_cases h : v = i
      · subst h; rw [mset_same]
      · rw [mset_ne2 _ _ h]; exact z2 v (by omega)
  · refine ⟨z, ?_, hI⟩
    show f_X13_explores_L2 (nI s) (n + 1) (nI 6) z = _
    rw [f_X13_explores_L2, if_pos (by decide)]
