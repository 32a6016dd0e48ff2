/-! the reference's reader -/
def RT (z : gM) (t : Nat) (T : Nat → Int32) : Prop := z 219 7 = nI t ∧ ∀ j, j < t → z 224 j = T j
theorem e_here {z : gM} {t p : Nat} {T : Nat → Int32} (H : RT z t T) (ht : t ≤ 60) (hp : p ≤ 100) (h14 : z 219 14 = nI p) : f_X13_here z = some (hT t T p) := by
  unfold f_X13_here
  rw [H.1, h14]
  by_cases q : p < t
  · rw [if_neg (by rw [nI_leq (by omega) (by omega)]; omega), nI_gi (by omega) (by omega), g_nIc (by omega), H.2 p q, show hT t T p = T p from if_pos q]
  · rw [if_pos (by rw [nI_leq (by omega) (by omega)]; omega), show hT t T p = -1 from if_neg q]
theorem e_in {z : gM} {x : Int32} : f_X13_in z x 48 57 = some (if dg x = true then 1 else 0) := by
  unfold f_X13_in
  by_cases c1 : x < 48
  · rw [if_pos c1, if_neg (by rw [dg_t]; exact fun h => h.1 c1)]
  · rw [if_neg c1]
    by_cases c2 : 57 < x
    · rw [if_pos c2, if_neg (by rw [dg_t]; exact fun h => h.2 c2)]
    · rw [if_neg c2, if_pos (by rw [dg_t]; exact ⟨c1, c2⟩)]
/-- what the reader may change -/
def frP (z z' : gM) : Prop := ∀ i q, ¬ (i = 219 ∧ (q = 14 ∨ q = 15)) → z' i q = z i q
theorem frP.rf {z : gM} : frP z z := fun _ _ _ => rfl
theorem frP.tr {z y x : gM} (h : frP z y) (k : frP y x) : frP z x := fun i q i1 => (k i q i1).trans (h i q i1)
theorem frP_m {z : gM} {q : Nat} (hq : q = 14 ∨ q = 15) (x : Int32) : frP z (mset z 219 q x) := fun i j h => by
  by_cases hi : i = 219
  · subst hi; exact mset_ne2 _ _ (fun e => h ⟨rfl, e ▸ hq⟩)
  · exact mset_ne1 _ _ hi
theorem frP_R {z z' : gM} {t : Nat} {T : Nat → Int32} (h : frP z z') (H : RT z t T) : RT z' t T := ⟨(h 219 7 (by omega)).trans H.1, fun j hj => (h 224 j (by omega)).trans (H.2 j hj)⟩
def rpr (z : gM) (t : Nat) (R : Bool × Nat × List Int32) : Prop := z 219 14 = nI R.2.1 ∧ z 219 15 = (if R.1 = true then 0 else 1) ∧ R.2.1 ≤ t
theorem rp_m {z : gM} {t p : Nat} {x : Int32} {b : Bool} {ns : List Int32} (hx : x = if b = true then 0 else 1) (hp : p ≤ t) : rpr (mset (mset z 219 15 x) 219 14 (nI p)) t (b, p, ns) := ⟨mset_same _ _ _ _, by rw [mset_ne2 _ _ (by decide), mset_same]; exact hx, hp⟩
theorem m_needs {z : gM} {t : Nat} {T : Nat → Int32} {R : Bool × Nat × List Int32} {c : Int32} (H : RT z t T) (ht : t ≤ 60) (hR : rpr z t R) (c1 : c ≠ 35) (c2 : c ≠ 37) (c3 : c ≠ -1) : ∃ z' : gM, f_X13_needs z c = some z' ∧ rpr z' t (ext (hT t T) R [c]) ∧ frP z z' ∧ ((ext (hT t T) R [c]).1 = true → (ext (hT t T) R [c]).2.2 = R.2.2) := by
  obtain ⟨ok, p, ns⟩ := R
  obtain ⟨h14, h15, hp⟩ := hR
  have h14 : z 219 14 = nI p := h14
  have hp : p ≤ t := hp
  have fr : ∀ x y, frP z (mset (mset z 219 15 x) 219 14 y) := fun x y => (frP_m (Or.inr rfl) _).tr (frP_m (Or.inl rfl) _)
  cases ok with
  | false =>
    have h15 : z 219 15 = 1 := h15
    have e : ext (hT t T) (false, p, ns) [c] = (false, p, ns) := if_neg (show ¬ (false = true) by decide)
    rw [e]
    refine ⟨mset (mset z 219 15 1) 219 14 (nI p), ?_, rp_m rfl hp, fr _ _, fun q => Bool.noConfusion q⟩
    unfold f_X13_needs
    rw [h15, if_neg (by decide), nm_s, mset_same, if_neg (by decide), nm_s, mset_ne2 _ _ (by decide), h14, show nI p + 0 = nI p from Int32.add_zero _]
  | true =>
    have h15 : z 219 15 = 0 := h15
    have e : ext (hT t T) (true, p, ns) [c] = if hT t T p = c then (true, p + 1, ns) else (false, p, ns) := (if_pos rfl).trans ((if_neg c1).trans (if_neg c2))
    rw [e]
    unfold f_X13_needs
    rw [h15, if_pos rfl, e_here H ht (by omega) h14, bd_s]
    by_cases q : hT t T p = c
    · have hlt := hT_lt q c3
      rw [if_pos q, if_pos q, nm_s, mset_same, if_pos rfl, nm_s, mset_ne2 _ _ (by decide), h14, nI_s (by omega)]
      exact ⟨_, rfl, rp_m (p := p + 1) (b := true) (ns := ns) rfl hlt, fr _ _, fun _ => rfl⟩
    · rw [if_neg q, if_neg q, nm_s, mset_same, if_neg (by decide), nm_s, mset_ne2 _ _ (by decide), h14, show nI p + 0 = nI p from Int32.add_zero _]
      exact ⟨_, rfl, rp_m rfl hp, fr _ _, fun q => Bool.noConfusion q⟩
theorem ext_d {h : Nat → Int32} {R : Bool × Nat × List Int32} {d : Int32} (hd : d = 35 ∨ d = 37) : ext h R [d] = if R.1 = true then (if dg (h R.2.1) = true then (if d = 37 ∧ dg (h (R.2.1 + 1)) = true then (true, R.2.1 + 2, R.2.2 ++ [(h R.2.1 - 48) * 10 + h (R.2.1 + 1) - 48]) else (true, R.2.1 + 1, R.2.2 ++ [h R.2.1 - 48])) else (false, R.2.1, R.2.2)) else R := by
  unfold ext
  by_cases c : R.1 = true
  · rw [if_pos c, if_pos c]
    rcases hd with rfl | rfl
    · show (if (35 : Int32) = 35 then _ else _) = _
      rw [if_pos rfl]
      by_cases q : dg (h R.2.1) = true
      · rw [if_pos q, if_pos q, if_neg (fun e => absurd e.1 (by decide))]; rfl
      · rw [if_neg q, if_neg q]
    · show (if (37 : Int32) = 35 then _ else if (37 : Int32) = 37 then _ else _) = _
      rw [if_neg (by decide), if_pos rfl]
      by_cases q : dg (h R.2.1) = true
      · rw [if_pos q, if_pos q]
        by_cases q2 : dg (h (R.2.1 + 1)) = true
        · rw [if_pos q2, if_pos ⟨rfl, q2⟩]; rfl
        · rw [if_neg q2, if_neg (fun e => q2 e.2)]; rfl
      · rw [if_neg q, if_neg q]
  · rw [if_neg c, if_neg c]
theorem m_l40_no {z : gM} {p2 : Int32} {n : Nat} {v w : Int32} (h15 : ¬ z 219 15 = 0) : f_X13_digitsAfter_L40 p2 (n + 1) v w z = some (v, z) := by
  rw [f_X13_digitsAfter_L40, if_neg h15]
theorem m_l40_s {z : gM} {t p m j n : Nat} {T : Nat → Int32} {v : Int32} (H : RT z t T) (ht : t ≤ 60) (h14 : z 219 14 = nI p) (h15 : z 219 15 = 0) (hp : p ≤ 100) (hm : m ≤ 2) (hj : j < m) : f_X13_digitsAfter_L40 (nI m) (n + 1) v (nI j) z = if dg (hT t T p) = true then f_X13_digitsAfter_L40 (nI m) n (10 * v + hT t T p - 48) (nI (j + 1)) (mset z 219 14 (nI (p + 1))) else some (v, z) := by
  rw [f_X13_digitsAfter_L40, if_pos h15, if_neg (by rw [nI_leq (by omega) (by omega)]; omega), e_here H ht hp h14, bd_s, e_in, bd_s]
  by_cases c : dg (hT t T p) = true
  · rw [if_pos c, if_neg (by decide), bd_s, nm_s, h14, nI_s (by omega), nm_s, nI_s (by omega), nm_s, if_pos c]
  · rw [if_neg c, if_pos rfl, if_neg c]
theorem m_l40_e {z : gM} {m n : Nat} {v : Int32} (hm : m ≤ 2) : f_X13_digitsAfter_L40 (nI m) (n + 1) v (nI m) z = some (v, z) := by
  rw [f_X13_digitsAfter_L40]
  by_cases h : z 219 15 = 0
  · rw [if_pos h, if_pos (by rw [nI_leq (by omega) (by omega)]; omega)]
  · rw [if_neg h]
theorem m_digits {z : gM} {t m : Nat} {T : Nat → Int32} {R : Bool × Nat × List Int32} {c d : Int32} (H : RT z t T) (ht : t ≤ 60) (hR : rpr z t R) (c1 : c ≠ 35) (c2 : c ≠ 37) (c3 : c ≠ -1) (hm : (m = 1 ∧ d = 35) ∨ (m = 2 ∧ d = 37)) : ∃ (v : Int32) (z' : gM), f_X13_digitsAfter z c (nI m) = some (v, z') ∧ rpr z' t (ext (hT t T) R [c, d]) ∧ frP z z' ∧ ((ext (hT t T) R [c, d]).1 = true → R.1 = true ∧ (ext (hT t T) R [c, d]).2.2 = R.2.2 ++ [v]) := by
  obtain ⟨mm, hmm⟩ := gFU_8
  obtain ⟨σ2, n1, n2, n3, n4⟩ := m_needs H ht hR c1 c2 c3
  have H2 := frP_R n3 H
  have ee : ext (hT t T) R [c, d] = ext (hT t T) (ext (hT t T) R [c]) [d] := by rw [ext_app]; rfl
  have hRok : (ext (hT t T) R [c]).1 = true → R.1 = true := fun h => by
    by_cases q : R.1 = true
    · exact q
    · rw [show ext (hT t T) R [c] = R from if_neg q] at h; exact absurd h q
  rw [ee, ext_d (hm.elim (fun q => Or.inl q.2) (fun q => Or.inr q.2))]
  generalize ext (hT t T) R [c] = R1 at n2 n4 hRok
  obtain ⟨ok, p, ns⟩ := R1
  obtain ⟨h14, h15, hp⟩ := n2
  have h14 : σ2 219 14 = nI p := h14
  have hp : p ≤ t := hp
  unfold f_X13_digitsAfter
  rw [n1, bd_s]
  cases ok with
  | false =>
    have h15 : σ2 219 15 = 1 := h15
    rw [h15, if_neg (by decide), nm_s, hmm, m_l40_no (by rw [mset_same]; decide), bd2_s]
    refine ⟨_, _, rfl, ⟨?_, ?_, hp⟩, n3.tr (frP_m (Or.inr rfl) _), fun e => Bool.noConfusion e⟩
    · rw [mset_ne2 _ _ (by decide)]; exact h14
    · exact mset_same _ _ _ _
  | true =>
    have h15 : σ2 219 15 = 0 := h15
    have n4 : ns = R.2.2 := n4 rfl
    rw [h15, if_pos rfl, e_here H2 ht (by omega) h14, bd_s, e_in, bd_s]
    by_cases q : dg (hT t T p) = true
    · have hlt := dg_lt q
      have H3 : RT (mset σ2 219 15 0) t T := frP_R (frP_m (Or.inr rfl) _) H2
      have e1 : (10 : Int32) * 0 + hT t T p - 48 = hT t T p - 48 := by rw [show (10 : Int32) * 0 = 0 from rfl, Int32.zero_add]
      have H4 : RT (mset (mset σ2 219 15 0) 219 14 (nI (p + 1))) t T := frP_R (frP_m (Or.inl rfl) _) H3
      have s1 := m_l40_s (p := p) (m := m) (j := 0) (n := mm + 7) (v := 0) H3 ht (by rw [mset_ne2 _ _ (by decide)]; exact h14) (mset_same _ _ _ _) (by omega) (by omega) (by omega)
      rw [if_pos q, e1, Nat.zero_add] at s1
      rw [if_pos q, if_neg (by decide), nm_s, hmm, show f_X13_digitsAfter_L40 (nI m) (mm + 8) 0 0 (mset σ2 219 15 0) = _ from s1]
      show ∃ v z', _ ∧ rpr z' t (if true = true then (if dg (hT t T p) = true then (if d = 37 ∧ dg (hT t T (p + 1)) = true then (true, p + 2, ns ++ [(hT t T p - 48) * 10 + hT t T (p + 1) - 48]) else (true, p + 1, ns ++ [hT t T p - 48])) else (false, p, ns)) else (true, p, ns)) ∧ _ ∧ ((if true = true then (if dg (hT t T p) = true then (if d = 37 ∧ dg (hT t T (p + 1)) = true then (true, p + 2, ns ++ [(hT t T p - 48) * 10 + hT t T (p + 1) - 48]) else (true, p + 1, ns ++ [hT t T p - 48])) else (false, p, ns)) else (true, p, ns)).1 = true → _ ∧ (if true = true then (if dg (hT t T p) = true then (if d = 37 ∧ dg (hT t T (p + 1)) = true then (true, p + 2, ns ++ [(hT t T p - 48) * 10 + hT t T (p + 1) - 48]) else (true, p + 1, ns ++ [hT t T p - 48])) else (false, p, ns)) else (true, p, ns)).2.2 = _)
      rw [if_pos rfl, if_pos q]
      have fr4 : frP z (mset (mset σ2 219 15 0) 219 14 (nI (p + 1))) := n3.tr ((frP_m (Or.inr rfl) _).tr (frP_m (Or.inl rfl) _))
      have done1 : ∀ n, f_X13_digitsAfter_L40 (nI m) (n + 1) (hT t T p - 48) (nI 1) (mset (mset σ2 219 15 0) 219 14 (nI (p + 1))) = some (hT t T p - 48, mset (mset σ2 219 15 0) 219 14 (nI (p + 1))) → ¬ (d = 37 ∧ dg (hT t T (p + 1)) = true) → ∃ v z', (bd2 (f_X13_digitsAfter_L40 (nI m) (n + 1) (hT t T p - 48) (nI 1) (mset (mset σ2 219 15 0) 219 14 (nI (p + 1)))) fun y27 σ28 => some (y27, σ28)) = some (v, z') ∧ rpr z' t (if d = 37 ∧ dg (hT t T (p + 1)) = true then (true, p + 2, ns ++ [(hT t T p - 48) * 10 + hT t T (p + 1) - 48]) else (true, p + 1, ns ++ [hT t T p - 48])) ∧ frP z z' ∧ ((if d = 37 ∧ dg (hT t T (p + 1)) = true then (true, p + 2, ns ++ [(hT t T p - 48) * 10 + hT t T (p + 1) - 48]) else (true, p + 1, ns ++ [hT t T p - 48])).1 = true → R.1 = true ∧ (if d = 37 ∧ dg (hT t T (p + 1)) = true then (true, p + 2, ns ++ [(hT t T p - 48) * 10 + hT t T (p + 1) - 48]) else (true, p + 1, ns ++ [hT t T p - 48])).2.2 = R.2.2 ++ [v]) := by
        intro n e hno
        rw [e, if_neg hno, bd2_s]
        exact ⟨_, _, rfl, rp_m (p := p + 1) (b := true) rfl hlt, fr4, fun _ => ⟨hRok rfl, by rw [n4]⟩⟩
      rcases hm with ⟨rfl, rfl⟩ | ⟨rfl, rfl⟩
      · exact done1 (mm + 6) (m_l40_e (by omega)) (fun e => absurd e.1 (by decide))
      · have s2 := m_l40_s (m := 2) (j := 1) (n := mm + 6) (v := hT t T p - 48) H4 ht (mset_same _ _ _ _) (by rw [mset_ne2 _ _ (by decide), mset_same]) (by omega) (by omega) (by omega)
        by_cases q2 : dg (hT t T (p + 1)) = true
        · have hlt2 := dg_lt q2
          rw [if_pos q2, m_l40_e (by omega)] at s2
          rw [s2, if_pos ⟨rfl, q2⟩, bd2_s]
          have em : mset (mset (mset σ2 219 15 0) 219 14 (nI (p + 1))) 219 14 (nI (p + 1 + 1)) = mset (mset σ2 219 15 0) 219 14 (nI (p + 2)) := by
            funext i j
            by_cases hi : i = 219
            · subst hi
              by_cases hj : j = 14
              · subst hj; rw [mset_same, mset_same]
              · rw [mset_ne2 _ _ hj, mset_ne2 _ _ hj, mset_ne2 _ _ hj]
            · simp only [mset_ne1 _ _ hi]
          rw [em, Int32.mul_comm]
          exact ⟨_, _, rfl, rp_m (p := p + 2) (b := true) rfl (show p + 1 < t from hlt2), n3.tr ((frP_m (Or.inr rfl) _).tr (frP_m (Or.inl rfl) _)), fun _ => ⟨hRok rfl, by rw [n4]⟩⟩
        · rw [if_neg q2] at s2
          exact done1 (mm + 6) s2 (fun e => q2 e.2)
    · rw [if_neg q, if_pos rfl, nm_s, hmm, m_l40_no (by rw [mset_same]; decide), bd2_s]
      show ∃ v z', _ ∧ rpr z' t (if true = true then (if dg (hT t T p) = true then _ else (false, p, ns)) else (true, p, ns)) ∧ _ ∧ ((if true = true then (if dg (hT t T p) = true then _ else (false, p, ns)) else (true, p, ns)).1 = true → _)
      rw [if_pos rfl, if_neg q]
      exact ⟨_, _, rfl, ⟨by rw [mset_ne2 _ _ (by decide)]; exact h14, mset_same _ _ _ _, hp⟩, n3.tr (frP_m (Or.inr rfl) _), fun e => Bool.noConfusion e⟩
