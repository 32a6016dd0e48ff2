/-! the depot's reader -/
def hT (t : Nat) (T : Nat → Int32) (p : Nat) : Int32 := if p < t then T p else -1
def HT (z : gM) (t : Nat) (T : Nat → Int32) : Prop := z 204 2 = nI t ∧ ∀ j, j < t → z 205 j = T j
theorem hT_lt {t : Nat} {T : Nat → Int32} {p : Nat} {c : Int32} (h : hT t T p = c) (hc : c ≠ -1) : p < t := by
  unfold hT at h
  by_cases q : p < t
  · exact q
  · rw [if_neg q] at h; exact absurd h.symm hc
theorem dg_lt {t : Nat} {T : Nat → Int32} {p : Nat} (h : dg (hT t T p) = true) : p < t := by
  by_cases q : p < t
  · exact q
  · unfold hT at h
    rw [if_neg q] at h
    exact absurd h (by decide)
theorem e_isDigit {z : gM} {t : Nat} {T : Nat → Int32} (H : HT z t T) (ht : t ≤ 60) {p : Nat} (hp : p ≤ 100) : f_X2_isDigit z (nI p) = some (if dg (hT t T p) = true then 1 else 0) := by
  unfold f_X2_isDigit
  rw [H.1]
  by_cases q : p < t
  · have e : hT t T p = T p := if_pos q
    rw [if_neg (by rw [nI_leq (by omega) (by omega)]; omega), nI_gi (by omega) (by omega), g_nIc (by omega), H.2 p q, e]
    by_cases c1 : T p < 48
    · rw [if_pos c1, if_neg (by rw [dg_t]; exact fun h => h.1 c1)]
    · rw [if_neg c1, nI_gi (by omega) (by omega)]
      by_cases c2 : 57 < T p
      · rw [if_pos c2, if_neg (by rw [dg_t]; exact fun h => h.2 c2)]
      · rw [if_neg c2, if_pos (by rw [dg_t]; exact ⟨c1, c2⟩)]
  · rw [if_pos (by rw [nI_leq (by omega) (by omega)]; omega), if_neg (fun h => q (dg_lt h))]
theorem e_setN {z : gM} {kc j : Nat} (hj : j ≤ 2) (v : Int32) : f_X1_setNumber z kc (nI j) v = some (mset z (207 + kc) (j + 1) v) := by
  unfold f_X1_setNumber
  rcases (show j = 0 ∨ j = 1 ∨ j = 2 by omega) with rfl | rfl | rfl
  · rw [if_pos (show nI 0 = (0 : Int32) from rfl), nm_s]
  · rw [if_neg (by decide), if_pos (show nI 1 = (1 : Int32) from rfl), nm_s]
  · rw [if_neg (by decide), if_neg (by decide), nm_s]
/-- what a try changes -/
def frD (z z' : gM) (kc : Nat) : Prop := (∀ i q, ¬ (i = 204 ∧ q = 4) → i ≠ 207 + kc → z' i q = z i q) ∧ z' (207 + kc) 0 = z (207 + kc) 0
theorem frD.rf {z : gM} {kc : Nat} : frD z z kc := ⟨fun _ _ _ _ => rfl, rfl⟩
theorem frD.tr {z y x : gM} {kc : Nat} (h : frD z y kc) (k : frD y x kc) : frD z x kc := ⟨fun i q i1 i2 => (k.1 i q i1 i2).trans (h.1 i q i1 i2), k.2.trans h.2⟩
theorem frD_at {z : gM} {kc : Nat} (hk : kc < 10) (x : Int32) : frD z (mset z 204 4 x) kc := ⟨fun i q i1 _ => by
    by_cases h : i = 204
    · subst h; exact mset_ne2 _ _ (fun e => i1 ⟨rfl, e⟩)
    · exact mset_ne1 _ _ h, mset_ne1 _ _ (by omega)⟩
theorem frD_n {z : gM} {kc j : Nat} (x : Int32) : frD z (mset z (207 + kc) (j + 1) x) kc := ⟨fun i q _ i2 => mset_ne1 _ _ i2, mset_ne2 _ _ (by omega)⟩
theorem frD_H {z z' : gM} {kc t : Nat} {T : Nat → Int32} (hk : kc < 10) (h : frD z z' kc) (H : HT z t T) : HT z' t T := ⟨(h.1 204 2 (by omega) (by omega)).trans H.1, fun j hj => (h.1 205 j (by omega) (by omega)).trans (H.2 j hj)⟩
/-- the numbers that a command holds -/
def nsR (z : gM) (kc : Nat) (ns : List Int32) : Prop := ∀ j, j < ns.length → z (207 + kc) (j + 1) = ng ns j
theorem nsR_push {z : gM} {kc : Nat} {ns : List Int32} {v : Int32} (h : nsR z kc ns) : nsR (mset z (207 + kc) (ns.length + 1) v) kc (ns ++ [v]) := fun j hj => by
  rw [List.length_append, List.length_singleton] at hj
  by_cases e : j = ns.length
  · subst e; rw [mset_same, ng_end]
  · rw [mset_ne2 _ _ (by omega), ng_app (by omega)]; exact h j (by omega)
theorem nsR_at {z : gM} {kc : Nat} {ns : List Int32} {x : Int32} (h : nsR z kc ns) : nsR (mset z 204 4 x) kc ns := fun j hj => by
  rw [mset_ne1 _ _ (by omega)]; exact h j hj
theorem e_read {z : gM} {t : Nat} {T : Nat → Int32} (H : HT z t T) (ht : t ≤ 60) {p : Nat} (h4 : z 204 4 = nI p) (hd : dg (hT t T p) = true) : (f_X2_readNumber z 0 = some (hT t T p - 48, mset z 204 4 (nI (p + 1)))) ∧ (f_X2_readNumber z 1 = if dg (hT t T (p + 1)) = true then some ((hT t T p - 48) * 10 + hT t T (p + 1) - 48, mset z 204 4 (nI (p + 2))) else some (hT t T p - 48, mset z 204 4 (nI (p + 1)))) := by
  have hp := dg_lt hd
  have e : hT t T p = T p := if_pos hp
  have H2 : HT (mset z 204 4 (nI (p + 1))) t T := ⟨(mset_ne2 _ _ (by decide)).trans H.1, fun j hj => (mset_ne1 _ _ (by decide)).trans (H.2 j hj)⟩
  refine ⟨?_, ?_⟩
  · unfold f_X2_readNumber
    rw [h4, nI_gi (by omega) (by omega), g_nIc (by omega), H.2 p hp, nm_s, nI_s (by omega), nm_s, if_pos rfl, e]
  · unfold f_X2_readNumber
    rw [h4, nI_gi (by omega) (by omega), g_nIc (by omega), H.2 p hp, nm_s, nI_s (by omega), nm_s, if_neg (by decide), mset_same, e_isDigit H2 ht (by omega), bd_s]
    by_cases c : dg (hT t T (p + 1)) = true
    · have hp1 := dg_lt c
      have e1 : hT t T (p + 1) = T (p + 1) := if_pos hp1
      have em : mset (mset z 204 4 (nI (p + 1))) 204 4 (nI (p + 1 + 1)) = mset z 204 4 (nI (p + 2)) := by
        funext i q
        by_cases hi : i = 204
        · subst hi
          by_cases hq : q = 4
          · subst hq; rw [mset_same, mset_same]
          · rw [mset_ne2 _ _ hq, mset_ne2 _ _ hq, mset_ne2 _ _ hq]
        · rw [mset_ne1 _ _ hi, mset_ne1 _ _ hi, mset_ne1 _ _ hi]
      rw [if_pos c, if_neg (by decide), nI_gi (by omega) (by omega), g_nIc (by omega), H2.2 (p + 1) hp1, nm_s, nI_s (by omega), nm_s, if_pos c, em, e, e1]
    · rw [if_neg c, if_pos rfl, if_neg c, e]
theorem pat_len : ∀ k, k < 7 → gLen.getD k 0 = (gByt.getD k []).length ∧ cn (gByt.getD k []) ≤ 3 ∧ (gByt.getD k []).all (fun c => decide (c ≠ -1)) = true ∧ (gByt.getD k []).length ≤ 12 := by decide
theorem gd_pre {pre rest : List Int32} {c : Int32} : (pre ++ c :: rest).getD pre.length 0 = c := by
  induction pre with
  | nil => rfl
  | cons x xs ih => exact ih
theorem d_fit26 {t : Nat} {T : Nat → Int32} {kf kc : Nat} (hk : kf < 7) (hc : kc < 10) (ht : t ≤ 60) : ∀ (rest pre : List Int32) (n : Nat) (z : gM) (p : Nat) (ns : List Int32), gByt.getD kf [] = pre ++ rest → rest.length < n → HT z t T → z 204 4 = nI p → p ≤ t → nsR z kc ns → ns.length + cn rest ≤ 3 →
    ∃ (r : gM ⊕ (gM ⊕ gM)) (z' : gM), f_X2_fits_L26 kf kc n (nI ns.length) (nI pre.length) z = some r ∧ ((pm (hT t T) rest p ns).1 = true → r = .inr (.inr z') ∧ nsR z' kc (pm (hT t T) rest p ns).2.2) ∧ ((pm (hT t T) rest p ns).1 = false → r = .inl z' ∨ r = .inr (.inl z')) ∧ z' 204 4 = nI (pm (hT t T) rest p ns).2.1 ∧ (pm (hT t T) rest p ns).2.1 ≤ t ∧ frD z z' kc := by
  obtain ⟨l1, l2, l3, l4⟩ := pat_len kf hk
  intro rest
  induction rest with
  | nil =>
    intro pre n z p ns hpat hn H h4 hp hns hcn
    obtain ⟨m, rfl⟩ : ∃ m, n = m + 1 := ⟨n - 1, by omega⟩
    have hlen : gLen.getD kf 0 = pre.length := by rw [l1, hpat, List.append_nil]
    refine ⟨.inr (.inr z), z, ?_, fun _ => ⟨rfl, hns⟩, fun e => Bool.noConfusion e, h4, hp, frD.rf⟩
    rw [f_X2_fits_L26, hlen, if_pos (by rw [nI_leq (by rw [l1, hpat, List.append_nil] at hlen; have := l4; rw [hpat, List.append_nil] at this; omega) (by have := l4; rw [hpat, List.append_nil] at this; omega)]; omega)]
  | cons c rest ih =>
    intro pre n z p ns hpat hn H h4 hp hns hcn
    obtain ⟨m, rfl⟩ : ∃ m, n = m + 1 := ⟨n - 1, by omega⟩
    have hn : rest.length < m := by have : rest.length + 1 < m + 1 := hn; omega
    have hlen : gLen.getD kf 0 = pre.length + (rest.length + 1) := by rw [l1, hpat, List.length_append, List.length_cons]
    have hle : pre.length + (rest.length + 1) ≤ 12 := by have := l4; rw [hpat, List.length_append, List.length_cons] at this; exact this
    have hcc : c ≠ -1 := by
      have := l3
      rw [hpat, List.all_eq_true] at this
      exact of_decide_eq_true (this c (List.mem_append_right _ List.mem_cons_self))
    have hget : (gByt.getD kf []).getD pre.length 0 = c := by rw [hpat]; exact gd_pre
    have hpat2 : gByt.getD kf [] = (pre ++ [c]) ++ rest := by rw [hpat, List.append_assoc]; rfl
    have hpl : (pre ++ [c]).length = pre.length + 1 := by rw [List.length_append]; rfl
    have hcn' : cn (c :: rest) = (if c = 35 ∨ c = 37 then 1 else 0) + cn rest := rfl
    rw [hcn'] at hcn
    have hI : ∀ (z1 : gM) (v : Int32) (p1 : Nat), (c = 35 ∨ c = 37) → p1 ≤ t → frD z z1 kc → z1 204 4 = nI p1 → nsR z1 kc ns → ∃ (r : gM ⊕ (gM ⊕ gM)) (z' : gM), f_X2_fits_L26 kf kc m (nI (ns.length + 1)) (nI (pre.length + 1)) (mset z1 (207 + kc) (ns.length + 1) v) = some r ∧ ((pm (hT t T) rest p1 (ns ++ [v])).1 = true → r = .inr (.inr z') ∧ nsR z' kc (pm (hT t T) rest p1 (ns ++ [v])).2.2) ∧ ((pm (hT t T) rest p1 (ns ++ [v])).1 = false → r = .inl z' ∨ r = .inr (.inl z')) ∧ z' 204 4 = nI (pm (hT t T) rest p1 (ns ++ [v])).2.1 ∧ (pm (hT t T) rest p1 (ns ++ [v])).2.1 ≤ t ∧ frD z z' kc := by
      intro z1 v p1 hcd hp1 hf h41 hn1
      rw [if_pos hcd] at hcn
      have f2 : frD z (mset z1 (207 + kc) (ns.length + 1) v) kc := hf.tr (frD_n v)
      have := ih (pre ++ [c]) m (mset z1 (207 + kc) (ns.length + 1) v) p1 (ns ++ [v]) hpat2 hn (frD_H hc f2 H) (by rw [mset_ne1 _ _ (by omega)]; exact h41) hp1 (nsR_push hn1) (by rw [List.length_append, List.length_singleton]; omega)
      rw [hpl, List.length_append, List.length_singleton] at this
      obtain ⟨r, z', e1, e2, e3, e4, e5, e6⟩ := this
      exact ⟨r, z', e1, e2, e3, e4, e5, f2.tr e6⟩
    have hlt : ns.length ≤ 2 ∨ ¬ (c = 35 ∨ c = 37) := by
      by_cases q : c = 35 ∨ c = 37
      · rw [if_pos q] at hcn; exact Or.inl (by omega)
      · exact Or.inr q
    rw [f_X2_fits_L26, hlen, if_neg (by rw [nI_leq (by omega) (by omega)]; omega), nI_gi (by omega) (by omega), g_nIc (by omega), hget, nm_s]
    unfold pm
    by_cases c1 : c = 35
    · have hl : ns.length ≤ 2 := hlt.resolve_right (fun q => q (Or.inl c1))
      rw [if_pos c1, if_pos c1, h4, e_isDigit H ht (by omega), bd_s]
      by_cases d1 : dg (hT t T p) = true
      · have hpt := dg_lt d1
        obtain ⟨r0, -⟩ := e_read H ht h4 d1
        rw [if_pos d1, if_neg (by decide), if_pos d1, if_neg (by rw [c1]; decide), r0, bd2_s, e_setN hl, bd_s, nm_s, nm_s, nI_s (by omega), nI_s (by omega)]
        exact hI _ _ (p + 1) (Or.inl c1) (by omega) (frD_at hc _) (mset_same _ _ _ _) (nsR_at hns)
      · rw [if_neg d1, if_pos rfl, if_neg d1]
        exact ⟨.inl z, z, rfl, fun e => Bool.noConfusion e, fun _ => Or.inl rfl, h4, hp, frD.rf⟩
    · rw [if_neg c1, if_neg c1]
      by_cases c2 : c = 37
      · have hl : ns.length ≤ 2 := hlt.resolve_right (fun q => q (Or.inr c2))
        rw [if_pos c2, if_pos c2, h4, e_isDigit H ht (by omega), bd_s]
        by_cases d1 : dg (hT t T p) = true
        · have hpt := dg_lt d1
          obtain ⟨-, r1⟩ := e_read H ht h4 d1
          rw [if_pos d1, if_neg (by decide), if_pos d1, if_pos c2, r1]
          by_cases d2 : dg (hT t T (p + 1)) = true
          · have hpt2 := dg_lt d2
            rw [if_pos d2, if_pos d2, bd2_s, e_setN hl, bd_s, nm_s, nm_s, nI_s (by omega), nI_s (by omega)]
            exact hI _ _ (p + 2) (Or.inr c2) (by omega) (frD_at hc _) (mset_same _ _ _ _) (nsR_at hns)
          · rw [if_neg d2, if_neg d2, bd2_s, e_setN hl, bd_s, nm_s, nm_s, nI_s (by omega), nI_s (by omega)]
            exact hI _ _ (p + 1) (Or.inr c2) (by omega) (frD_at hc _) (mset_same _ _ _ _) (nsR_at hns)
        · rw [if_neg d1, if_pos rfl, if_pos c2, if_neg d1]
          exact ⟨.inl z, z, rfl, fun e => Bool.noConfusion e, fun _ => Or.inl rfl, h4, hp, frD.rf⟩
      · rw [if_neg c2, if_neg c2, H.1, h4]
        by_cases d1 : hT t T p = c
        · have hpt := hT_lt d1 hcc
          have eT : T p = c := by rw [← d1]; exact (if_pos hpt).symm
          rw [if_neg (by rw [nI_leq (by omega) (by omega)]; omega), nI_gi (by omega) (by omega), g_nIc (by omega), H.2 p hpt, if_pos eT, if_pos d1, nI_s (by omega), nm_s, nm_s, nI_s (by omega)]
          have f2 : frD z (mset z 204 4 (nI (p + 1))) kc := frD_at hc _
          have := ih (pre ++ [c]) m (mset z 204 4 (nI (p + 1))) (p + 1) ns hpat2 hn (frD_H hc f2 H) (mset_same _ _ _ _) (by omega) (nsR_at hns) (by rw [if_neg (fun q => Or.elim q c1 c2)] at hcn; omega)
          rw [hpl] at this
          obtain ⟨r, z', e1, e2, e3, e4, e5, e6⟩ := this
          exact ⟨r, z', e1, e2, e3, e4, e5, f2.tr e6⟩
        · rw [if_neg d1]
          refine ⟨.inr (.inl z), z, ?_, fun e => Bool.noConfusion e, fun _ => Or.inr rfl, h4, hp, frD.rf⟩
          by_cases hpt : p < t
          · have eT : ¬ T p = c := fun q => d1 ((if_pos hpt).trans q)
            rw [if_neg (by rw [nI_leq (by omega) (by omega)]; omega), nI_gi (by omega) (by omega), g_nIc (by omega), H.2 p hpt, if_neg eT]
          · rw [if_pos (by rw [nI_leq (by omega) (by omega)]; omega)]

