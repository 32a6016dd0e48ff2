/-! how many waiting parcels the gloves can handle -/
def mnP (t x y : Nat) : Prop := t ≤ x ∧ t ≤ y ∧ (t = x ∨ t = y)
theorem gFU_8 : ∃ m, gFU = m + 8 := ⟨gFU - 8, by rw [gFU_eq]⟩
theorem ho_s {p2 : Int32} {n g u r : Nat} {σ : gM} (hg : g ≤ 3) (hu : u ≤ 4000) (hr : r ≤ 4000) (h : σ 202 g = nI u) : ∃ t, mnP t u r ∧ f_X4_handledOf_L5 p2 (n + 1) (nI r) (nI g) σ = f_X4_handledOf_L5 p2 n (nI (r - t)) (nI (g + 1)) (mset σ 202 g (nI (u - t))) := by
  have hn : ¬ (3 : Int32) < nI g := by
    rw [show (3 : Int32) = nI 3 from rfl, nI_ltq (by omega) (by omega)]; omega
  rw [f_X4_handledOf_L5, if_neg hn]
  simp (disch := omega) only [nI_gi, g_nIc, nm_s, nI_s]
  rw [h]
  simp (disch := omega) only [nI_ltq]
  by_cases c : u < r
  · refine ⟨u, ⟨by omega, by omega, Or.inl rfl⟩, ?_⟩
    rw [if_pos c, nI_subn (by omega) (by omega), nI_subn (by omega) (by omega)]
  · refine ⟨r, ⟨by omega, by omega, Or.inr rfl⟩, ?_⟩
    rw [if_neg c, nI_subn (by omega) (by omega), nI_subn (by omega) (by omega)]
theorem ho_e {p2 : Int32} {n r : Nat} {σ : gM} : f_X4_handledOf_L5 p2 (n + 1) (nI r) (nI 4) σ = some (nI r, σ) := by
  rw [f_X4_handledOf_L5, if_pos (by decide)]
theorem ho_3 {σ : gM} {u3 w : Nat} (h3 : σ 202 3 = nI u3) (b3 : u3 ≤ 24) (bw : w ≤ 12) : ∃ (t : Nat) (σ' : gM), mnP t u3 w ∧ f_X4_handledOf σ (nI 3) (nI w) = some (nI t, σ') ∧ ∀ j, j ≠ 202 → σ' j = σ j := by
  obtain ⟨m, hm⟩ := gFU_8
  unfold f_X4_handledOf
  rw [hm]
  obtain ⟨t, p, e⟩ := ho_s (p2 := nI w) (n := m + 7) (g := 3) (u := u3) (r := w) (by omega) (by omega) (by omega) h3
  refine ⟨t, mset σ 202 3 (nI (u3 - t)), p, ?_, ?_⟩
  · rw [e, ho_e, bd2_s, nI_subn (by omega) (by omega), show w - (w - t) = t by have := p.2.1; omega]
  · exact fun j hj => funext fun q => mset_ne1 _ _ hj
theorem ho_2 {σ : gM} {u2 u3 w : Nat} (h2 : σ 202 2 = nI u2) (h3 : σ 202 3 = nI u3) (b2 : u2 ≤ 24) (b3 : u3 ≤ 24) (bw : w ≤ 12) : ∃ (t t3 : Nat) (σ' : gM), mnP t u2 w ∧ mnP t3 u3 (w - t) ∧ f_X4_handledOf σ (nI 2) (nI w) = some (nI (t + t3), σ') ∧ (∀ j, j ≠ 202 → σ' j = σ j) ∧ σ' 202 3 = nI (u3 - t3) := by
  obtain ⟨m, hm⟩ := gFU_8
  unfold f_X4_handledOf
  rw [hm]
  obtain ⟨t, p, e⟩ := ho_s (p2 := nI w) (n := m + 7) (g := 2) (u := u2) (r := w) (by omega) (by omega) (by omega) h2
  obtain ⟨t3, p3, e3⟩ := ho_s (p2 := nI w) (n := m + 6) (g := 3) (u := u3) (r := w - t) (σ := mset σ 202 2 (nI (u2 - t))) (by omega) (by omega) (by omega) (by rw [mset_ne2 _ _ (by decide)]; exact h3)
  refine ⟨t, t3, mset (mset σ 202 2 (nI (u2 - t))) 202 3 (nI (u3 - t3)), p, p3, ?_, fun j hj => funext fun q => by rw [mset_ne1 _ _ hj, mset_ne1 _ _ hj], mset_same _ _ _ _⟩
  rw [e, e3, ho_e, bd2_s, nI_subn (by omega) (by omega), show w - (w - t - t3) = t + t3 by have := p.2.1; have := p3.2.1; omega]
theorem ho_1 {σ : gM} {u1 u2 u3 w : Nat} (h1 : σ 202 1 = nI u1) (h2 : σ 202 2 = nI u2) (h3 : σ 202 3 = nI u3) (b1 : u1 ≤ 24) (b2 : u2 ≤ 24) (b3 : u3 ≤ 24) (bw : w ≤ 12) : ∃ (t t2 t3 : Nat) (σ' : gM), mnP t u1 w ∧ mnP t2 u2 (w - t) ∧ mnP t3 u3 (w - t - t2) ∧ f_X4_handledOf σ (nI 1) (nI w) = some (nI (t + t2 + t3), σ') ∧ (∀ j, j ≠ 202 → σ' j = σ j) ∧ σ' 202 2 = nI (u2 - t2) ∧ σ' 202 3 = nI (u3 - t3) := by
  obtain ⟨m, hm⟩ := gFU_8
  unfold f_X4_handledOf
  rw [hm]
  obtain ⟨t, p, e⟩ := ho_s (p2 := nI w) (n := m + 7) (g := 1) (u := u1) (r := w) (by omega) (by omega) (by omega) h1
  obtain ⟨t2, p2, e2⟩ := ho_s (p2 := nI w) (n := m + 6) (g := 2) (u := u2) (r := w - t) (σ := mset σ 202 1 (nI (u1 - t))) (by omega) (by omega) (by omega) (by rw [mset_ne2 _ _ (by decide)]; exact h2)
  obtain ⟨t3, p3, e3⟩ := ho_s (p2 := nI w) (n := m + 5) (g := 3) (u := u3) (r := w - t - t2) (σ := mset (mset σ 202 1 (nI (u1 - t))) 202 2 (nI (u2 - t2))) (by omega) (by omega) (by omega) (by rw [mset_ne2 _ _ (by decide), mset_ne2 _ _ (by decide)]; exact h3)
  refine ⟨t, t2, t3, mset (mset (mset σ 202 1 (nI (u1 - t))) 202 2 (nI (u2 - t2))) 202 3 (nI (u3 - t3)), p, p2, p3, ?_, fun j hj => funext fun q => by rw [mset_ne1 _ _ hj, mset_ne1 _ _ hj, mset_ne1 _ _ hj], by rw [mset_ne2 _ _ (by decide), mset_same], mset_same _ _ _ _⟩
  rw [e, e2, e3, ho_e, bd2_s, nI_subn (by omega) (by omega), show w - (w - t - t2 - t3) = t + t2 + t3 by have := p.2.1; have := p2.2.1; have := p3.2.1; omega]
/-- the greatest of two -/
def mxI (v s : Int) : Int := if s ≤ v then v else s
def shI (a : Nat → Nat) (h : Nat) : Int := (wgN a h : Int) - usN a h
/-- what is left over -/
def lfI (a : Nat → Nat) : Int := mxI (mxI (mxI 0 (shI a 1)) (shI a 2)) (shI a 3)
theorem mxI_p (v s : Int) : v ≤ mxI v s ∧ s ≤ mxI v s ∧ (mxI v s = v ∨ mxI v s = s) := by
  unfold mxI
  split <;> omega
theorem shI_b {e : Nat → Int32} {a : Nat → Nat} (V : vdR e a) (h : Nat) : -24 ≤ shI a h ∧ shI a h ≤ 12 := by
  have b1 := wgN_le V h
  have b2 := usN_le V h
  unfold shI
  omega
theorem lf_b {e : Nat → Int32} {a : Nat → Nat} (V : vdR e a) : 0 ≤ lfI a ∧ lfI a ≤ 12 := by
  have b1 := shI_b V 1
  have b2 := shI_b V 2
  have b3 := shI_b V 3
  have m1 := mxI_p 0 (shI a 1)
  have m2 := mxI_p (mxI 0 (shI a 1)) (shI a 2)
  have m3 := mxI_p (mxI (mxI 0 (shI a 1)) (shI a 2)) (shI a 3)
  unfold lfI
  omega
theorem d_byShortage {τ : gM} {e : Nat → Int32} {a : Nat → Nat} (B : blkR τ 0 e a) (V : vdR e a) (hw : f_X8_countAt τ (-1) = some (nI (waN a))) : f_X4_handledByShortage τ = some (iI ((waN a : Int) - lfI a)) := by
  have b1 := shI_b V 1
  have b2 := shI_b V 2
  have b3 := shI_b V 3
  have step : ∀ (n h : Nat) (s v : Int), h + 1 ≤ 3 → -24 ≤ s → s ≤ 24 → -24 ≤ v → v ≤ 24 → -24 ≤ s + (wtN a (h + 1) - ugN a (h + 1)) → s + (wtN a (h + 1) - ugN a (h + 1)) ≤ 24 → f_X4_handledByShortage_L7 τ (n + 1) (iI s) (iI v) (nI (h + 1)) = f_X4_handledByShortage_L7 τ n (iI (s + (wtN a (h + 1) - ugN a (h + 1)))) (iI (mxI v (s + (wtN a (h + 1) - ugN a (h + 1))))) (nI h) := by
    intro n h s v hh s1 s2 v1 v2 w1 w2
    have e1 : nI (h + 1) + (-1) = nI h := (Int32.sub_eq_add_neg _ _).symm.trans (nI_p (by omega))
    rw [f_X4_handledByShortage_L7, if_neg (by rw [show (1 : Int32) = nI 1 from rfl, nI_ltq (by omega) (by omega)]; omega), d_waitH B V hh, d_uses B V hh]
    simp only [bd_s, nm_s, e1]
    rw [nI_iI (wtN a (h + 1)), nI_iI (ugN a (h + 1)), iI_sub, iI_add]
    unfold mxI
    simp (disch := omega) only [iI_ltq]
    by_cases c : v < s + (wtN a (h + 1) - ugN a (h + 1))
    · rw [if_pos c, if_neg (by omega)]
    · rw [if_neg c, if_pos (by omega)]
  have g3 := wg_3 V
  have g2 : wgN a 2 = wtN a 2 + wgN a 3 := wg_s 2
  have g1 : wgN a 1 = wtN a 1 + wgN a 2 := wg_s 1
  have k3 := us_3 V
  have k2 : usN a 2 = ugN a 2 + usN a 3 := us_s 2
  have k1 : usN a 1 = ugN a 1 + usN a 2 := us_s 1
  have e3 : (0 : Int) + (wtN a (2 + 1) - ugN a (2 + 1)) = shI a 3 := by
    show (0 : Int) + ((wtN a 3 : Int) - (ugN a 3 : Int)) = shI a 3
    unfold shI; omega
  have e2 : shI a 3 + (wtN a (1 + 1) - ugN a (1 + 1)) = shI a 2 := by
    show shI a 3 + ((wtN a 2 : Int) - (ugN a 2 : Int)) = shI a 2
    unfold shI; omega
  have e1 : shI a 2 + (wtN a (0 + 1) - ugN a (0 + 1)) = shI a 1 := by
    show shI a 2 + ((wtN a 1 : Int) - (ugN a 1 : Int)) = shI a 1
    unfold shI; omega
  have m1 := mxI_p 0 (shI a 3)
  have m2 := mxI_p (mxI 0 (shI a 3)) (shI a 2)
  obtain ⟨m, hm⟩ := gFU_8
  unfold f_X4_handledByShortage
  rw [hm, show f_X4_handledByShortage_L7 τ (m + 8) 0 0 3 = some (iI (mxI (mxI (mxI 0 (shI a 3)) (shI a 2)) (shI a 1))) from by
    rw [show (0 : Int32) = iI 0 from rfl, show (3 : Int32) = nI (2 + 1) from rfl, step (m + 7) 2 0 0 (by omega) (by omega) (by omega) (by omega) (by omega) (by omega) (by omega), e3, show nI 2 = nI (1 + 1) from rfl, step (m + 6) 1 _ _ (by omega) (by omega) (by omega) (by omega) (by omega) (by omega) (by omega), e2, show nI 1 = nI (0 + 1) from rfl, step (m + 5) 0 _ _ (by omega) (by omega) (by omega) (by omega) (by omega) (by omega) (by omega), e1, f_X4_handledByShortage_L7, if_pos (by decide)]]
  rw [bd_s, hw, bd_s, nI_iI, iI_sub]
  congr 3
  have m3 := mxI_p (mxI (mxI 0 (shI a 3)) (shI a 2)) (shI a 1)
  have n1 := mxI_p 0 (shI a 1)
  have n2 := mxI_p (mxI 0 (shI a 1)) (shI a 2)
  have n3 := mxI_p (mxI (mxI 0 (shI a 1)) (shI a 2)) (shI a 3)
  unfold lfI
  omega

