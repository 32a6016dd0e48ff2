def frQ (z z' : gM) (b : Nat) : Prop := ∀ i q, ¬ (i = 219 ∧ (q = 14 ∨ q = 15)) → ¬ (i = 227 ∧ b ≤ q ∧ q < b + 4) → z' i q = z i q
def cdN (f : Nat) : Int32 := if f = 3 then 117 else hdN f
def cmdM (z : gM) (b : Nat) (x : Nat × List Int32) : Prop := z 227 b = cdN x.1 ∧ nsM z b x.2
theorem m_parse {z : gM} {t b p : Nat} {T : Nat → Int32} (H : RT z t T) (ht : t ≤ 60) (hp : p ≤ t) (h14 : z 219 14 = nI p) (h15 : z 219 15 = 0) (hb : b + 4 ≤ 240) : ∃ z' : gM, f_X13_parsesCommand z (nI b) = some z' ∧ frQ z z' b ∧ (pcN (hT t T) p = 7 → rpr z' t (false, p, [])) ∧ (pcN (hT t T) p ≠ 7 → rpr z' t (Ff (hT t T) p (pcN (hT t T) p)) ∧ ((Ff (hT t T) p (pcN (hT t T) p)).1 = true → cmdM z' b (pcN (hT t T) p, (Ff (hT t T) p (pcN (hT t T) p)).2.2))) := by
  generalize hz5 : mset (mset z 219 14 (nI (p + 1))) 227 b (hT t T p) = z5
  have f5 : frQ z z5 b := fun i q i1 i2 => by
    rw [← hz5]
    by_cases hi : i = 227
    · subst hi
      rw [mset_ne2 _ _ (by omega), mset_ne1 _ _ (by decide)]
    · rw [mset_ne1 _ _ hi]
      by_cases h9 : i = 219
      · subst h9; exact mset_ne2 _ _ (by omega)
      · exact mset_ne1 _ _ h9
  have H5 : RT z5 t T := ⟨(f5 219 7 (by omega) (by omega)).trans H.1, fun j hj => (f5 224 j (by omega) (by omega)).trans (H.2 j hj)⟩
  have s14 : z5 219 14 = nI (p + 1) := by rw [← hz5, mset_ne1 _ _ (by decide), mset_same]
  have s15 : z5 219 15 = 0 := by rw [← hz5, mset_ne1 _ _ (by decide), mset_ne2 _ _ (by decide)]; exact h15
  have sb : z5 227 b = hT t T p := by rw [← hz5, mset_same]
  have S5 : p < t → stM z5 t b 0 (true, p + 1, []) := fun hlt => ⟨⟨s14, s15, hlt⟩, fun _ => ⟨rfl, fun j hj => absurd hj (Nat.not_lt_zero _)⟩⟩
  have code : f_X13_parsesCommand z (nI b) = if hT t T p = 98 then
      bd (f_X13_needsThree z5 97 99 107) fun σ8 =>
      bd2 (f_X13_digitsAfter σ8 32 2) fun r10 σ11 =>
      gi (nI b + 1) 240 <|
      nm (mset σ11 227 ((nI b + 1).toNatClampNeg) r10) fun σ13 =>
      some σ13
    else
      if hT t T p = 99 then
        bd (f_X13_needsThree z5 97 114 114) fun σ16 =>
        bd (f_X13_needs σ16 121) fun σ18 =>
        bd2 (f_X13_digitsAfter σ18 32 1) fun r20 σ21 =>
        gi (nI b + 1) 240 <|
        nm (mset σ21 227 ((nI b + 1).toNatClampNeg) r20) fun σ23 =>
        bd2 (f_X13_digitsAfter σ23 32 1) fun r25 σ26 =>
        gi (nI b + 2) 240 <|
        nm (mset σ26 227 ((nI b + 2).toNatClampNeg) r25) fun σ28 =>
        some σ28
      else
        if hT t T p = 103 then
          bd (f_X13_needsThree z5 108 111 118) fun σ31 =>
          bd (f_X13_needs σ31 101) fun σ33 =>
          bd2 (f_X13_digitsAfter σ33 32 1) fun r35 σ36 =>
          gi (nI b + 1) 240 <|
          nm (mset σ36 227 ((nI b + 1).toNatClampNeg) r35) fun σ38 =>
          some σ38
        else
          if hT t T p = 111 then
            bd (f_X13_needs z5 117) fun σ41 =>
            bd (f_X13_needs σ41 116) fun σ43 =>
            bd2 (f_X13_digitsAfter σ43 32 2) fun r45 σ46 =>
            gi (nI b + 1) 240 <|
            nm (mset σ46 227 ((nI b + 1).toNatClampNeg) r45) fun σ48 =>
            some σ48
          else
            if hT t T p = 112 then
              bd (f_X13_parsesP z5 (nI b)) fun σ51 =>
              some σ51
            else
              if hT t T p = 114 then
                bd (f_X13_needsThree z5 111 97 100) fun σ54 =>
                bd2 (f_X13_digitsAfter σ54 32 1) fun r56 σ57 =>
                gi (nI b + 1) 240 <|
                nm (mset σ57 227 ((nI b + 1).toNatClampNeg) r56) fun σ59 =>
                bd2 (f_X13_digitsAfter σ59 45 1) fun r61 σ62 =>
                gi (nI b + 2) 240 <|
                nm (mset σ62 227 ((nI b + 2).toNatClampNeg) r61) fun σ64 =>
                bd2 (f_X13_digitsAfter σ64 32 2) fun r66 σ67 =>
                gi (nI b + 3) 240 <|
                nm (mset σ67 227 ((nI b + 3).toNatClampNeg) r66) fun σ69 =>
                some σ69
              else
                nm (mset z5 219 15 1) fun σ70 =>
                nm (mset σ70 219 14 ((σ70 219 14) - 1)) fun σ71 =>
                some σ71 := by
    unfold f_X13_parsesCommand
    rw [e_here H ht (by omega) h14, bd_s, nm_s, h14, nI_s (by omega), nI_gi (by omega) (by omega), g_nIc (by omega), nm_s, hz5]
  have fin : ∀ {f k : Nat} {o : Option gM} {L : List Int32} {w : gM}, f_X13_parsesCommand z (nI b) = o → pcN (hT t T) p = f → f < 7 → Ff (hT t T) p f = pm (hT t T) L (p + 1) [] → frQ z w b → w 227 b = cdN f → (∃ z' : gM, o = some z' ∧ stM z' t b k (pm (hT t T) L (p + 1) []) ∧ frB w z' b) → ∃ z' : gM, f_X13_parsesCommand z (nI b) = some z' ∧ frQ z z' b ∧ (pcN (hT t T) p = 7 → rpr z' t (false, p, [])) ∧ (pcN (hT t T) p ≠ 7 → rpr z' t (Ff (hT t T) p (pcN (hT t T) p)) ∧ ((Ff (hT t T) p (pcN (hT t T) p)).1 = true → cmdM z' b (pcN (hT t T) p, (Ff (hT t T) p (pcN (hT t T) p)).2.2))) := by
    intro f k o L w e1 e2 e3 e4 e5 e6 e7
    obtain ⟨z', q1, q2, q3⟩ := e7
    refine ⟨z', e1.trans q1, fun i q i1 i2 => (q3 i q i1 (by omega)).trans (e5 i q i1 i2), fun h => by omega, fun _ => ?_⟩
    rw [e2, e4]
    exact ⟨q2.1, fun h => ⟨(q3 227 b (by omega) (by omega)).trans e6, (q2.2 h).2⟩⟩
  by_cases c1 : hT t T p = 98
  · rw [if_pos c1] at code
    have ep : pcN (hT t T) p = 6 := if_pos c1
    exact fin code ep (by omega) (pm_yes (by decide) (by decide) c1) f5 (sb.trans c1) (m_back H5 ht (S5 (hT_lt c1 (by decide))) hb)
  · rw [if_neg c1] at code
    by_cases c2 : hT t T p = 99
    · rw [if_pos c2] at code
      have ep : pcN (hT t T) p = 5 := (if_neg c1).trans (if_pos c2)
      exact fin code ep (by omega) (pm_yes (by decide) (by decide) c2) f5 (sb.trans c2) (m_carry H5 ht (S5 (hT_lt c2 (by decide))) hb)
    · rw [if_neg c2] at code
      by_cases c3 : hT t T p = 103
      · rw [if_pos c3] at code
        have ep : pcN (hT t T) p = 2 := (if_neg c1).trans ((if_neg c2).trans (if_pos c3))
        exact fin code ep (by omega) (pm_yes (by decide) (by decide) c3) f5 (sb.trans c3) (m_glove H5 ht (S5 (hT_lt c3 (by decide))) hb)
      · rw [if_neg c3] at code
        by_cases c4 : hT t T p = 111
        · rw [if_pos c4] at code
          have ep : pcN (hT t T) p = 4 := (if_neg c1).trans ((if_neg c2).trans ((if_neg c3).trans (if_pos c4)))
          exact fin code ep (by omega) (pm_yes (by decide) (by decide) c4) f5 (sb.trans c4) (m_out H5 ht (S5 (hT_lt c4 (by decide))) hb)
        · rw [if_neg c4] at code
          by_cases c5 : hT t T p = 112
          · have hlt := hT_lt c5 (by decide)
            rw [if_pos c5] at code
            have ep : pcN (hT t T) p = if hT t T (p + 1) = 117 then 3 else 1 := (if_neg c1).trans ((if_neg c2).trans ((if_neg c3).trans ((if_neg c4).trans (if_pos c5))))
            unfold f_X13_parsesP at code
            rw [e_here H5 ht (by omega) s14, bd_s] at code
            by_cases c6 : hT t T (p + 1) = 117
            · rw [if_pos c6] at ep code
              rw [nI_gi (by omega) (by omega), g_nIc (by omega), nm_s] at code
              have f6 : frQ z (mset z5 227 b 117) b := fun i q i1 i2 => by
                rw [← f5 i q i1 i2]
                by_cases hi : i = 227
                · subst hi; exact mset_ne2 _ _ (by omega)
                · exact mset_ne1 _ _ hi
              have H6 : RT (mset z5 227 b 117) t T := ⟨(mset_ne1 _ _ (by decide)).trans H5.1, fun j hj => (mset_ne1 _ _ (by decide)).trans (H5.2 j hj)⟩
              obtain ⟨z', q1, q2, q3⟩ := m_put H6 ht (b := b) (p := p) ⟨⟨(mset_ne1 _ _ (by decide)).trans s14, (mset_ne1 _ _ (by decide)).trans s15, hlt⟩, fun _ => ⟨rfl, fun j hj => absurd hj (Nat.not_lt_zero _)⟩⟩ hb
              rw [q1, bd_s] at code
              exact fin code ep (by omega) (Ff_3 c5) f6 (mset_same _ _ _ _) ⟨z', rfl, q2, q3⟩
            · rw [if_neg c6] at ep code
              obtain ⟨z', q1, q2, q3⟩ := m_parcel H5 ht (S5 hlt) hb
              rw [q1, bd_s] at code
              exact fin code ep (by omega) (Ff_1 c5) f5 (sb.trans c5) ⟨z', rfl, q2, q3⟩
          · rw [if_neg c5] at code
            by_cases c6 : hT t T p = 114
            · rw [if_pos c6] at code
              have ep : pcN (hT t T) p = 0 := (if_neg c1).trans ((if_neg c2).trans ((if_neg c3).trans ((if_neg c4).trans ((if_neg c5).trans (if_pos c6)))))
              exact fin code ep (by omega) (pm_yes (by decide) (by decide) c6) f5 (sb.trans c6) (m_road H5 ht (S5 (hT_lt c6 (by decide))) hb)
            · rw [if_neg c6, nm_s, mset_ne2 _ _ (by decide), s14, nI_p (by omega), nm_s] at code
              have ep : pcN (hT t T) p = 7 := (if_neg c1).trans ((if_neg c2).trans ((if_neg c3).trans ((if_neg c4).trans ((if_neg c5).trans (if_neg c6)))))
              refine ⟨_, code, fun i q i1 i2 => ?_, fun _ => rp_m (p := p) (b := false) rfl hp, fun h => absurd ep h⟩
              rw [← f5 i q i1 i2]
              by_cases h9 : i = 219
              · subst h9
                rw [mset_ne2 _ _ (by omega), mset_ne2 _ _ (by omega)]
              · rw [mset_ne1 _ _ h9, mset_ne1 _ _ h9]
