def frC (z z' : gM) (kc : Nat) : Prop := ∀ i q, ¬ (i = 204 ∧ q = 4) → i ≠ 207 + kc → z' i q = z i q
def Ff (h : Nat → Int32) (p i : Nat) : Bool × Nat × List Int32 := pm h (gByt.getD i []) p []
theorem d_fits {z : gM} {t kf kc p : Nat} {T : Nat → Int32} (hk : kf < 7) (hc : kc < 10) (ht : t ≤ 60) (H : HT z t T) (hp : p ≤ t) : ∃ z' : gM, f_X2_fits z kf kc (nI p) = some (if (Ff (hT t T) p kf).1 = true then 1 else 0, z') ∧ z' 204 4 = nI (Ff (hT t T) p kf).2.1 ∧ (Ff (hT t T) p kf).2.1 ≤ t ∧ frC z z' kc ∧ ((Ff (hT t T) p kf).1 = true → z' (207 + kc) 0 = nI (kf + 1) ∧ nsR z' kc (Ff (hT t T) p kf).2.2) := by
  obtain ⟨l1, l2, l3, l4⟩ := pat_len kf hk
  have H2 : HT (mset (mset z 204 4 (nI p)) (207 + kc) 0 (nI (kf + 1))) t T := ⟨by rw [mset_ne1 _ _ (by omega), mset_ne2 _ _ (by omega)]; exact H.1, fun j hj => by rw [mset_ne1 _ _ (by omega), mset_ne1 _ _ (by omega)]; exact H.2 j hj⟩
  obtain ⟨r, z', e1, e2, e3, e4, e5, e6, e7⟩ := d_fit26 hk hc ht (gByt.getD kf []) [] gFU (mset (mset z 204 4 (nI p)) (207 + kc) 0 (nI (kf + 1))) p [] rfl (by rw [gFU_eq]; omega) H2 (by rw [mset_ne1 _ _ (by omega), mset_same]) hp (fun j hj => absurd hj (Nat.not_lt_zero _)) (by show 0 + cn (gByt.getD kf []) ≤ 3; omega)
  refine ⟨z', ?_, e4, e5, fun i q i1 i2 => ?_, fun he => ⟨?_, (e2 he).2⟩⟩
  · unfold f_X2_fits
    rw [nm_s, nm_s, show f_X2_fits_L26 kf kc gFU 0 0 (mset (mset z 204 4 (nI p)) (207 + kc) 0 (nI (kf + 1))) = some r from e1]
    by_cases c : (Ff (hT t T) p kf).1 = true
    · rw [if_pos c, (e2 c).1]; rfl
    · have c' : (Ff (hT t T) p kf).1 = false := by cases hh : (Ff (hT t T) p kf).1 with
        | true => exact absurd hh c
        | false => rfl
      rw [if_neg c]
      rcases e3 c' with q | q <;> rw [q] <;> rfl
  · rw [e6 i q i1 i2, mset_ne1 _ _ i2]
    by_cases h : i = 204
    · subst h; exact mset_ne2 _ _ (fun e => i1 ⟨rfl, e⟩)
    · exact mset_ne1 _ _ h
  · rw [e7, mset_same]
/-- the farthest that the first n forms come -/
def farN (h : Nat → Int32) (p : Nat) : Nat → Nat
  | 0 => p
  | i + 1 => if farN h p i < (Ff h p i).2.1 then (Ff h p i).2.1 else farN h p i
theorem d_readc {z : gM} {t kc p : Nat} {T : Nat → Int32} (hc : kc < 10) (ht : t ≤ 60) (H : HT z t T) (hp : p ≤ t) : ∃ (b : Int32) (z' : gM), f_X2_readCommand z (kc) (nI p) = some (b, z') ∧ frC z z' kc ∧
    ((∃ f, f < 7 ∧ (Ff (hT t T) p f).1 = true ∧ b = 1 ∧ z' 204 4 = nI (Ff (hT t T) p f).2.1 ∧ (Ff (hT t T) p f).2.1 ≤ t ∧ z' (207 + kc) 0 = nI (f + 1) ∧ nsR z' kc (Ff (hT t T) p f).2.2) ∨ ((∀ f, f < 7 → (Ff (hT t T) p f).1 = false) ∧ b = 0 ∧ z' 204 4 = nI (farN (hT t T) p 7))) := by
  unfold f_X2_readCommand
  refine Exists.elim (loop_mex (F := fun n i (s : Int32 × gM) => f_X2_readCommand_L5 kc (nI p) n s.1 i s.2) (N := 7) (I := fun i s => s.1 = nI (farN (hT t T) p i) ∧ farN (hT t T) p i ≤ t ∧ frC z s.2 kc ∧ ∀ f, f < i → (Ff (hT t T) p f).1 = false) (Q := fun r => (∃ (f : Nat) (z' : gM), r = .inl z' ∧ frC z z' kc ∧ f < 7 ∧ (Ff (hT t T) p f).1 = true ∧ z' 204 4 = nI (Ff (hT t T) p f).2.1 ∧ (Ff (hT t T) p f).2.1 ≤ t ∧ z' (207 + kc) 0 = nI (f + 1) ∧ nsR z' kc (Ff (hT t T) p f).2.2) ∨ ∃ z' : gM, r = .inr (nI (farN (hT t T) p 7), z') ∧ frC z z' kc ∧ ∀ f, f < 7 → (Ff (hT t T) p f).1 = false) (by omega) (fun n i s hi hI => ?_) (fun n s hI => ?_) (s := (nI p, z)) ⟨rfl, hp, fun _ _ _ _ => rfl, fun f hf => absurd hf (Nat.not_lt_zero _)⟩) ?_
  rotate_right
  · rintro r ⟨e1, e2⟩
    rw [show f_X2_readCommand_L5 kc (nI p) gFU (nI p) 0 z = some r from e1]
    rcases e2 with ⟨f, z', rfl, q1, q2, q3, q4, q5, q6, q7⟩ | ⟨z', rfl, q1, q2⟩
    · exact ⟨1, z', rfl, q1, Or.inl ⟨f, q2, q3, rfl, q4, q5, q6, q7⟩⟩
    · refine ⟨0, mset z' 204 4 (nI (farN (hT t T) p 7)), rfl, fun i q i1 i2 => ?_, Or.inr ⟨q2, rfl, mset_same _ _ _ _⟩⟩
      rw [← q1 i q i1 i2]
      by_cases h : i = 204
      · subst h; exact mset_ne2 _ _ (fun e => i1 ⟨rfl, e⟩)
      · exact mset_ne1 _ _ h
  · obtain ⟨v, s⟩ := s
    obtain ⟨rfl, s1, s2, s3⟩ := hI
    have s2 : frC z s kc := s2
    have Hs : HT s t T := ⟨(s2 204 2 (by omega) (by omega)).trans H.1, fun j hj => (s2 205 j (by omega) (by omega)).trans (H.2 j hj)⟩
    obtain ⟨z', f1, f2, f3, f4, f5⟩ := d_fits (kf := i) hi hc ht Hs hp
    have ft : frC z z' kc := fun j q j1 j2 => (f4 j q j1 j2).trans (s2 j q j1 j2)
    have go : f_X2_readCommand_L5 kc (nI p) (n + 1) (nI (farN (hT t T) p i)) (nI i) s = if (if (Ff (hT t T) p i).1 = true then (1 : Int32) else 0) = 0 then f_X2_readCommand_L5 kc (nI p) n (nI (farN (hT t T) p (i + 1))) (nI (i + 1)) z' else some (.inl z') := by
      rw [f_X2_readCommand_L5, if_neg (by rw [show (7 : Int32) = nI 7 from rfl, nI_leq (by omega) (by omega)]; omega), nI_gi (by omega) (by omega), g_nIc (by omega), f1, bd2_s, f2, nm_s, nm_s, nI_s (by omega)]
      have eF : (if nI (farN (hT t T) p i) < nI (Ff (hT t T) p i).2.1 then nI (Ff (hT t T) p i).2.1 else nI (farN (hT t T) p i)) = nI (farN (hT t T) p (i + 1)) := by
        show _ = nI (if farN (hT t T) p i < (Ff (hT t T) p i).2.1 then (Ff (hT t T) p i).2.1 else farN (hT t T) p i)
        simp (disch := omega) only [nI_ltq]
        by_cases q : farN (hT t T) p i < (Ff (hT t T) p i).2.1
        · rw [if_pos q, if_pos q]
        · rw [if_neg q, if_neg q]
      rw [eF]
    by_cases c : (Ff (hT t T) p i).1 = true
    · refine Or.inl ⟨.inl z', ?_, Or.inl ⟨i, z', rfl, ft, hi, c, f2, f3, (f5 c).1, (f5 c).2⟩⟩
      show f_X2_readCommand_L5 kc (nI p) (n + 1) (nI (farN (hT t T) p i)) (nI i) s = _
      rw [go, if_pos c, if_neg (by decide)]
    · have c' : (Ff (hT t T) p i).1 = false := by cases hh : (Ff (hT t T) p i).1 with
        | true => exact absurd hh c
        | false => rfl
      refine Or.inr ⟨(nI (farN (hT t T) p (i + 1)), z'), ?_, rfl, ?_, ft, fun f hf => ?_⟩
      · show f_X2_readCommand_L5 kc (nI p) (n + 1) (nI (farN (hT t T) p i)) (nI i) s = _
        rw [go, if_neg c, if_pos rfl]
      · show (if farN (hT t T) p i < (Ff (hT t T) p i).2.1 then (Ff (hT t T) p i).2.1 else farN (hT t T) p i) ≤ t
        split <;> omega
      · by_cases h : f = i
        · subst h; exact c'
        · exact s3 f (by omega)
  · obtain ⟨v, s⟩ := s
    obtain ⟨rfl, s1, s2, s3⟩ := hI
    refine ⟨.inr (nI (farN (hT t T) p 7), s), ?_, Or.inr ⟨s, rfl, s2, s3⟩⟩
    show f_X2_readCommand_L5 kc (nI p) (n + 1) (nI (farN (hT t T) p 7)) (nI 7) s = _
    rw [f_X2_readCommand_L5, if_pos (by decide)]
/-- the form that the text asks for, 7 for none -/
def pcN (h : Nat → Int32) (p : Nat) : Nat := if h p = 98 then 6 else if h p = 99 then 5 else if h p = 103 then 2 else if h p = 111 then 4 else if h p = 112 then (if h (p + 1) = 117 then 3 else 1) else if h p = 114 then 0 else 7
def hdN (f : Nat) : Int32 := if f = 6 then 98 else if f = 5 then 99 else if f = 2 then 103 else if f = 4 then 111 else if f = 0 then 114 else 112
theorem pm_no {h : Nat → Int32} {c : Int32} {ps : List Int32} {p : Nat} {ns : List Int32} (h1 : c ≠ 35) (h2 : c ≠ 37) (hc : h p ≠ c) : pm h (c :: ps) p ns = (false, p, ns) := (if_neg h1).trans ((if_neg h2).trans (if_neg hc))
theorem pm_yes {h : Nat → Int32} {c : Int32} {ps : List Int32} {p : Nat} {ns : List Int32} (h1 : c ≠ 35) (h2 : c ≠ 37) (hc : h p = c) : pm h (c :: ps) p ns = pm h ps (p + 1) ns := (if_neg h1).trans ((if_neg h2).trans (if_pos hc))
theorem Ff_head {h : Nat → Int32} {p f : Nat} (hf : f < 7) (hc : h p ≠ hdN f) : Ff h p f = (false, p, []) := by
  rcases (show f = 0 ∨ f = 1 ∨ f = 2 ∨ f = 3 ∨ f = 4 ∨ f = 5 ∨ f = 6 by omega) with rfl | rfl | rfl | rfl | rfl | rfl | rfl <;> exact pm_no (by decide) (by decide) hc
theorem Ff_1 {h : Nat → Int32} {p : Nat} (hc : h p = 112) : Ff h p 1 = pm h [97, 114, 99, 101, 108, 32, 37, 32, 35, 32, 35] (p + 1) [] := pm_yes (by decide) (by decide) hc
theorem Ff_3 {h : Nat → Int32} {p : Nat} (hc : h p = 112) : Ff h p 3 = pm h [117, 116, 32, 37, 32, 35] (p + 1) [] := pm_yes (by decide) (by decide) hc
/-- the other forms do not fit, and do not come farther -/
theorem Ff_oth {h : Nat → Int32} {p f : Nat} (hf : f < 7) (hn : f ≠ pcN h p) : (Ff h p f).1 = false ∧ ((Ff h p f).2.1 ≤ p ∨ (pcN h p < 7 ∧ (Ff h p f).2.1 ≤ (Ff h p (pcN h p)).2.1)) := by
  by_cases hd : h p = hdN f
  · -- the same first letter: the two forms with a p
    have h112 : h p = 112 ∧ (f = 1 ∨ f = 3) := by
      unfold pcN at hn
      rcases (show f = 0 ∨ f = 1 ∨ f = 2 ∨ f = 3 ∨ f = 4 ∨ f = 5 ∨ f = 6 by omega) with rfl | rfl | rfl | rfl | rfl | rfl | rfl
      · exact absurd (by rw [hd]; rfl) hn
      · exact ⟨hd, Or.inl rfl⟩
      · exact absurd (by rw [hd]; rfl) hn
      · exact ⟨hd, Or.inr rfl⟩
      · exact absurd (by rw [hd]; rfl) hn
      · exact absurd (by rw [hd]; rfl) hn
      · exact absurd (by rw [hd]; rfl) hn
    have ep : pcN h p = if h (p + 1) = 117 then 3 else 1 := by
      unfold pcN
      rw [h112.1]
      rfl
    rcases h112.2 with rfl | rfl
    · by_cases c : h (p + 1) = 117
      · rw [ep, if_pos c]
        have e1 : Ff h p 1 = (false, p + 1, []) := by
          rw [Ff_1 h112.1]
          exact pm_no (by decide) (by decide) (by rw [c]; decide)
        have e3 := (pm_le (h := h) (ps := [117, 116, 32, 37, 32, 35]) (p := p + 1) (ns := [])).1
        rw [e1, Ff_3 h112.1]
        exact ⟨rfl, Or.inr ⟨by omega, e3⟩⟩
      · rw [ep, if_neg c] at hn; exact absurd rfl hn
    · by_cases c : h (p + 1) = 117
      · rw [ep, if_pos c] at hn; exact absurd rfl hn
      · rw [ep, if_neg c]
        have e3 : Ff h p 3 = (false, p + 1, []) := by
          rw [Ff_3 h112.1]
          exact pm_no (by decide) (by decide) c
        have e1 := (pm_le (h := h) (ps := [97, 114, 99, 101, 108, 32, 37, 32, 35, 32, 35]) (p := p + 1) (ns := [])).1
        rw [e3, Ff_1 h112.1]
        exact ⟨rfl, Or.inr ⟨by omega, e1⟩⟩
  · rw [Ff_head hf hd]
    exact ⟨rfl, Or.inl (Nat.le_refl _)⟩
theorem pcN_le (h : Nat → Int32) (p : Nat) : pcN h p ≤ 7 := by
  unfold pcN
  repeat' split
  all_goals omega
/-- where a reader that finds no form stops -/
theorem farN_eq {h : Nat → Int32} {p : Nat} : farN h p 7 = if pcN h p = 7 then p else (Ff h p (pcN h p)).2.1 := by
  have hle := pcN_le h p
  have key : ∀ n, n ≤ 7 → p ≤ farN h p n ∧ (pcN h p = 7 → farN h p n = p) ∧ (pcN h p ≠ 7 → farN h p n ≤ (Ff h p (pcN h p)).2.1) ∧ (pcN h p < n → farN h p n = (Ff h p (pcN h p)).2.1) := by
    intro n
    induction n with
    | zero => exact fun _ => ⟨Nat.le_refl _, fun _ => rfl, fun _ => (pm_le (h := h)).1, fun q => absurd q (Nat.not_lt_zero _)⟩
    | succ n ih =>
      intro hn
      obtain ⟨i1, i2, i3, i4⟩ := ih (by omega)
      have e : farN h p (n + 1) = if farN h p n < (Ff h p n).2.1 then (Ff h p n).2.1 else farN h p n := rfl
      rw [e]
      by_cases c : n = pcN h p
      · have i3' := i3 (by omega)
        rw [c] at i3' i1 ⊢
        rw [show (if farN h p (pcN h p) < (Ff h p (pcN h p)).2.1 then (Ff h p (pcN h p)).2.1 else farN h p (pcN h p)) = (Ff h p (pcN h p)).2.1 from by split <;> omega]
        exact ⟨by omega, fun q => by omega, fun _ => Nat.le_refl _, fun _ => rfl⟩
      · obtain ⟨o1, o2⟩ := Ff_oth (h := h) (p := p) (f := n) (by omega) c
        refine ⟨by split <;> omega, fun q => ?_, fun q => ?_, fun q => ?_⟩
        · have := i2 q
          rcases o2 with o2 | o2
          · split <;> omega
          · omega
        · have := i3 q
          rcases o2 with o2 | o2
          · split <;> omega
          · split <;> omega
        · have := i4 (by omega)
          rcases o2 with o2 | o2
          · split <;> omega
          · split <;> omega
  obtain ⟨k1, k2, k3, k4⟩ := key 7 (Nat.le_refl _)
  by_cases c : pcN h p = 7
  · rw [if_pos c]; exact k2 c
  · rw [if_neg c]; exact k4 (by omega)

