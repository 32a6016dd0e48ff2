theorem pat_5 : ∀ k, k < 7 → 5 ≤ (gByt.getD k []).length := by decide
theorem l14_0 {n : Nat} {x : Int32} {z : gM} : f_X13_runCommands_L14 (n + 1) x 0 z = some (x, z) := by
  rw [f_X13_runCommands_L14, if_pos rfl]
theorem hT_out {t : Nat} {T : Nat → Int32} {p : Nat} (h : ¬ p < t) : pcN (hT t T) p = 7 := by
  have e : hT t T p = -1 := if_neg h
  unfold pcN
  rw [e]
  rfl
theorem m_read14 {t : Nat} {T : Nat → Int32} (ht : t ≤ 60) : ∀ (k v n p : Nat) (z : gM), v + k = 10 → k + 2 < n → 6 * v ≤ p → p ≤ t → RT z t T → z 219 14 = nI p → z 219 15 = 0 →
    ∃ (v' : Nat) (z' : gM), f_X13_runCommands_L14 n (nI v) 1 z = some (nI v', z') ∧ (∀ i q, ¬ (i = 219 ∧ (q = 14 ∨ q = 15)) → i ≠ 227 → z' i q = z i q) ∧ (∀ q, q < 4 * v → z' 227 q = z 227 q) ∧ z' 219 14 = nI (prs (hT t T) t k p).2.1 ∧ (prs (hT t T) t k p).2.1 ≤ t ∧
      ((prs (hT t T) t k p).1 = true → z' 219 15 = 0 ∧ t ≤ (prs (hT t T) t k p).2.1 ∧ v' = v + (prs (hT t T) t k p).2.2.length ∧ ∀ j, j < (prs (hT t T) t k p).2.2.length → cmdM z' (4 * (v + j)) (cg (prs (hT t T) t k p).2.2 j)) ∧
      ((prs (hT t T) t k p).1 = false → z' 219 15 = 1 ∨ (z' 219 15 = 0 ∧ (prs (hT t T) t k p).2.1 < t)) := by
  intro k
  induction k with
  | zero =>
    intro v n p z hv hn h6 hp H h14 h15
    obtain ⟨m, rfl⟩ : ∃ m, n = m + 2 := ⟨n - 2, by omega⟩
    obtain ⟨z1, a1, a2, a3, a4⟩ := m_parse (b := 4 * v) H ht hp h14 h15 (by omega)
    obtain ⟨b1, b2, b3⟩ := a3 (hT_out (by omega))
    have b2 : z1 219 15 = 1 := b2
    have b1 : z1 219 14 = nI p := b1
    refine ⟨v + 1, mset z1 219 14 (nI p), ?_, fun i q i1 i2 => ?_, fun q hq => ?_, mset_same _ _ _ _, hp, fun e => Bool.noConfusion e, fun _ => Or.inl ((mset_ne2 _ _ (by decide)).trans b2)⟩
    · rw [f_X13_runCommands_L14, if_neg (by decide), show (4 : Int32) = nI 4 from rfl, nI_mul (by omega) (by omega) (by omega), a1, bd_s, nI_s (by omega), nm_s, b2, if_neg (by decide), b1, show nI p + 0 = nI p from Int32.add_zero _, nm_s, l14_0]
    · rw [← a2 i q i1 (by omega)]
      by_cases h9 : i = 219
      · subst h9; exact mset_ne2 _ _ (by omega)
      · exact mset_ne1 _ _ h9
    · rw [mset_ne1 _ _ (by decide), a2 227 q (by omega) (by omega)]
  | succ k ih =>
    intro v n p z hv hn h6 hp H h14 h15
    obtain ⟨m, rfl⟩ : ∃ m, n = m + 2 := ⟨n - 2, by omega⟩
    obtain ⟨z1, a1, a2, a3, a4⟩ := m_parse (b := 4 * v) H ht hp h14 h15 (by omega)
    have H1 : RT z1 t T := ⟨(a2 219 7 (by omega) (by omega)).trans H.1, fun j hj => (a2 224 j (by omega) (by omega)).trans (H.2 j hj)⟩
    have code : f_X13_runCommands_L14 (m + 1 + 1) (nI v) 1 z = if (z1 219 15) = 0 then
        bd (f_X13_here z1) fun r11 =>
        if r11 = 59 then
          nm (mset z1 219 14 ((z1 219 14) + 1)) fun σ16 =>
          f_X13_runCommands_L14 (m + 1) (nI (v + 1)) 1 σ16
        else
          nm (mset z1 219 14 ((z1 219 14) + 0)) fun σ14 =>
          f_X13_runCommands_L14 (m + 1) (nI (v + 1)) 0 σ14
      else
        nm (mset z1 219 14 ((z1 219 14) + 0)) fun σ9 =>
        f_X13_runCommands_L14 (m + 1) (nI (v + 1)) 0 σ9 := by
      rw [f_X13_runCommands_L14, if_neg (by decide), show (4 : Int32) = nI 4 from rfl, nI_mul (by omega) (by omega) (by omega), a1, bd_s, nI_s (by omega), nm_s]
    have fr : ∀ x i q, ¬ (i = 219 ∧ (q = 14 ∨ q = 15)) → i ≠ 227 → mset z1 219 14 x i q = z i q := fun x i q i1 i2 => by
      rw [← a2 i q i1 (by omega)]
      by_cases h9 : i = 219
      · subst h9; exact mset_ne2 _ _ (by omega)
      · exact mset_ne1 _ _ h9
    have fr2 : ∀ x q, q < 4 * v → mset z1 219 14 x 227 q = z 227 q := fun x q hq => by
      rw [mset_ne1 _ _ (by decide), a2 227 q (by omega) (by omega)]
    by_cases c7 : pcN (hT t T) p = 7
    · obtain ⟨b1, b2, b3⟩ := a3 c7
      have b2 : z1 219 15 = 1 := b2
      have b1 : z1 219 14 = nI p := b1
      rw [prs_7 c7]
      refine ⟨v + 1, mset z1 219 14 (nI p), ?_, fr _, fr2 _, mset_same _ _ _ _, hp, fun e => Bool.noConfusion e, fun _ => Or.inl ((mset_ne2 _ _ (by decide)).trans b2)⟩
      rw [code, b2, if_neg (by decide), b1, show nI p + 0 = nI p from Int32.add_zero _, nm_s, l14_0]
    · obtain ⟨⟨b1, b2, b3⟩, b4⟩ := a4 c7
      have hf7 : pcN (hT t T) p < 7 := by have := pcN_le (hT t T) p; omega
      by_cases c2 : (Ff (hT t T) p (pcN (hT t T) p)).1 = true
      · have hlen := (pm_le (h := hT t T) (ps := gByt.getD (pcN (hT t T) p) []) (p := p) (ns := [])).2 c2
        have hlen : p + (gByt.getD (pcN (hT t T) p) []).length ≤ (Ff (hT t T) p (pcN (hT t T) p)).2.1 := hlen
        have h5 := pat_5 _ hf7
        have b4 := b4 c2
        rw [if_pos c2] at b2
        rw [b2, if_pos rfl, e_here H1 ht (by omega) b1, bd_s, b1] at code
        by_cases c3 : hT t T (Ff (hT t T) p (pcN (hT t T) p)).2.1 = 59
        · have hlt := hT_lt c3 (by decide)
          rw [if_pos c3, nI_s (by omega), nm_s] at code
          have H2 : RT (mset z1 219 14 (nI ((Ff (hT t T) p (pcN (hT t T) p)).2.1 + 1))) t T := ⟨(mset_ne2 _ _ (by decide)).trans H1.1, fun j hj => (mset_ne1 _ _ (by decide)).trans (H1.2 j hj)⟩
          obtain ⟨v', z', k1, k2, k3, k4, k5, k6, k7⟩ := ih (v + 1) (m + 1) ((Ff (hT t T) p (pcN (hT t T) p)).2.1 + 1) (mset z1 219 14 (nI ((Ff (hT t T) p (pcN (hT t T) p)).2.1 + 1))) (by omega) (by omega) (by omega) hlt H2 (mset_same _ _ _ _) (by rw [mset_ne2 _ _ (by decide)]; exact b2)
          rw [prs_s c7 c2 c3]
          refine ⟨v', z', code.trans k1, fun i q i1 i2 => (k2 i q i1 i2).trans (fr _ i q i1 i2), fun q hq => (k3 q (by omega)).trans (fr2 _ q hq), k4, k5, fun e => ?_, k7⟩
          obtain ⟨m1, m2, m3, m4⟩ := k6 e
          refine ⟨m1, m2, ?_, fun j hj => ?_⟩
          · rw [m3, List.length_cons]; omega
          · rw [List.length_cons] at hj
            by_cases hj0 : j = 0
            · subst hj0
              have q3 : ∀ q, q < 4 * (v + 1) → z' 227 q = z1 227 q := fun q hq => (k3 q hq).trans (mset_ne1 _ _ (by decide))
              refine ⟨(q3 _ (by omega)).trans b4.1, fun i hi => ?_⟩
              have hi' : i < (Ff (hT t T) p (pcN (hT t T) p)).2.2.length := hi
              have hcn := pm_cn (h := hT t T) (ps := gByt.getD (pcN (hT t T) p) []) (p := p) (ns := []) c2
              have hcn : (Ff (hT t T) p (pcN (hT t T) p)).2.2.length = 0 + cn (gByt.getD (pcN (hT t T) p) []) := hcn
              have h3 := (pat_len _ hf7).2.1
              exact (q3 _ (by omega)).trans (b4.2 i hi')
            · obtain ⟨j', rfl⟩ : ∃ j', j = j' + 1 := ⟨j - 1, by omega⟩
              have := m4 j' (by omega)
              rw [show v + (j' + 1) = v + 1 + j' by omega]
              exact this
        · rw [if_neg c3, show nI (Ff (hT t T) p (pcN (hT t T) p)).2.1 + 0 = nI (Ff (hT t T) p (pcN (hT t T) p)).2.1 from Int32.add_zero _, nm_s, l14_0] at code
          have z15 : mset z1 219 14 (nI (Ff (hT t T) p (pcN (hT t T) p)).2.1) 219 15 = 0 := (mset_ne2 _ _ (by decide)).trans b2
          by_cases c4 : (Ff (hT t T) p (pcN (hT t T) p)).2.1 < t
          · rw [prs_x c7 c2 c3 c4]
            exact ⟨v + 1, _, code, fr _, fr2 _, mset_same _ _ _ _, b3, fun e => Bool.noConfusion e, fun _ => Or.inr ⟨z15, c4⟩⟩
          · rw [prs_e c7 c2 c3 c4]
            refine ⟨v + 1, _, code, fr _, fr2 _, mset_same _ _ _ _, b3, fun _ => ⟨z15, by show t ≤ (Ff (hT t T) p (pcN (hT t T) p)).2.1; omega, rfl, fun j hj => ?_⟩, fun e => Bool.noConfusion e⟩
            have hj0 : j = 0 := by have : j < 1 := hj; omega
            subst hj0
            exact ⟨(mset_ne1 _ _ (by decide)).trans b4.1, fun i hi => (mset_ne1 _ _ (by decide)).trans (b4.2 i hi)⟩
      · rw [prs_f c7 c2]
        rw [if_neg c2] at b2
        refine ⟨v + 1, mset z1 219 14 (nI (Ff (hT t T) p (pcN (hT t T) p)).2.1), ?_, fr _, fr2 _, mset_same _ _ _ _, b3, fun e => Bool.noConfusion e, fun _ => Or.inl ((mset_ne2 _ _ (by decide)).trans b2)⟩
        rw [code, b2, if_neg (by decide), b1, show nI (Ff (hT t T) p (pcN (hT t T) p)).2.1 + 0 = nI (Ff (hT t T) p (pcN (hT t T) p)).2.1 from Int32.add_zero _, nm_s, l14_0]
