/-- the reference's run of the commands, up to the carrying out -/
theorem m_run {K : gM} {t : Nat} {T : Nat → Int32} (ht : t ≤ 60) (H : RT K t T) : (prs (hT t T) t 10 0).2.1 ≤ t ∧
    ((prs (hT t T) t 10 0).1 = false → ∃ S : gM, f_X13_runCommands K = some (0, S) ∧ S 219 12 = 1 ∧ S 219 8 = nI (prs (hT t T) t 10 0).2.1 ∧ S 219 7 = 0 ∧ ∀ i q, i ≠ 227 → ¬ (i = 219 ∧ (q = 7 ∨ q = 8 ∨ q = 12 ∨ q = 14 ∨ q = 15)) → S i q = K i q) ∧
    ((prs (hT t T) t 10 0).1 = true → ∃ K3 : gM, (∀ i q, i ≠ 227 → ¬ (i = 219 ∧ (q = 7 ∨ q = 14 ∨ q = 15)) → K3 i q = K i q) ∧ K3 219 7 = 0 ∧ CM K3 (prs (hT t T) t 10 0).2.2 ∧ f_X13_runCommands K = bd (f_X13_begin K3) fun σ57 =>
        gs2 (f_X13_runCommands_L130 (nI (prs (hT t T) t 10 0).2.2.length) gFU 0 σ57)
          (un3 fun y59 y60 σ61 =>
            nm (mset σ61 219 9 y59) fun σ62 =>
            nm (mset σ62 219 12 2) fun σ63 =>
            bd2 (f_X13_kept σ63 y60) fun r65 σ66 =>
            some (r65, σ66))
          (fun σ67 =>
            bd2 (f_X13_done σ67 (nI (prs (hT t T) t 10 0).2.2.length)) fun r69 σ70 =>
            bd2 (f_X13_kept σ70 r69) fun r72 σ73 =>
            some (r72, σ73))) := by
  generalize hK2 : mset (mset K 219 14 0) 219 15 0 = K2
  have o2 : ∀ i q, ¬ (i = 219 ∧ (q = 14 ∨ q = 15)) → K2 i q = K i q := fun i q h => by
    rw [← hK2]
    by_cases h9 : i = 219
    · subst h9
      rw [mset_ne2 _ _ (by omega), mset_ne2 _ _ (by omega)]
    · rw [mset_ne1 _ _ h9, mset_ne1 _ _ h9]
  have H2 : RT K2 t T := ⟨(o2 219 7 (by omega)).trans H.1, fun j hj => (o2 224 j (by omega)).trans (H.2 j hj)⟩
  obtain ⟨v', z, r1, r2, r3, r4, r5, r6, r7⟩ := m_read14 ht 10 0 gFU 0 K2 rfl (by rw [gFU_eq]; omega) (Nat.zero_le _) (Nat.zero_le _) H2 (by rw [← hK2, mset_ne2 _ _ (by decide), mset_same]; rfl) (by rw [← hK2, mset_same])
  have z7 : z 219 7 = nI t := (r2 219 7 (by omega) (by omega)).trans H2.1
  have oz : ∀ i q, i ≠ 227 → ¬ (i = 219 ∧ (q = 14 ∨ q = 15)) → z i q = K i q := fun i q i1 i2 => (r2 i q i2 i1).trans (o2 i q i2)
  have code1 : f_X13_runCommands_L14 gFU 0 1 K2 = some (nI v', z) := r1
  refine ⟨r5, fun hQ => ?_, fun hQ => ?_⟩
  · refine ⟨mset (mset (mset (mset z 219 15 1) 219 7 0) 219 8 (nI (prs (hT t T) t 10 0).2.1)) 219 12 1, ?_, mset_same _ _ _ _, ?_, ?_, fun i q i1 i2 => ?_⟩
    · unfold f_X13_runCommands
      rw [nm_s, nm_s, hK2, code1, bd2_s]
      rcases r7 hQ with w | ⟨w, wlt⟩
      · rw [w, if_neg (by decide), nm_s, nm_s, mset_ne2 _ _ (by decide), mset_same, if_neg (by decide), mset_ne2 _ _ (by decide), mset_ne2 _ _ (by decide), r4, nm_s, f_X13_fails, nm_s, bd2_s]
      · rw [w, if_pos rfl, z7, r4, if_neg (by rw [nI_leq (by omega) (by omega)]; omega), nm_s, nm_s, mset_ne2 _ _ (by decide), mset_same, if_neg (by decide), mset_ne2 _ _ (by decide), mset_ne2 _ _ (by decide), r4, nm_s, f_X13_fails, nm_s, bd2_s]
    · rw [mset_ne2 _ _ (by decide), mset_same]
    · rw [mset_ne2 _ _ (by decide), mset_ne2 _ _ (by decide), mset_same]
    · rw [← oz i q i1 (by omega)]
      by_cases h9 : i = 219
      · subst h9
        rw [mset_ne2 _ _ (by omega), mset_ne2 _ _ (by omega), mset_ne2 _ _ (by omega), mset_ne2 _ _ (by omega)]
      · rw [mset_ne1 _ _ h9, mset_ne1 _ _ h9, mset_ne1 _ _ h9, mset_ne1 _ _ h9]
  · obtain ⟨m1, m2, m3, m4⟩ := r6 hQ
    rw [Nat.zero_add] at m3
    subst m3
    refine ⟨mset (mset z 219 15 0) 219 7 0, fun i q i1 i2 => ?_, mset_same _ _ _ _, fun j hj => ?_, ?_⟩
    · rw [← oz i q i1 (by omega)]
      by_cases h9 : i = 219
      · subst h9
        rw [mset_ne2 _ _ (by omega), mset_ne2 _ _ (by omega)]
      · rw [mset_ne1 _ _ h9, mset_ne1 _ _ h9]
    · have := m4 j hj
      rw [Nat.zero_add] at this
      exact ⟨by rw [mset_ne1 _ _ (by decide), mset_ne1 _ _ (by decide)]; exact this.1, fun i hi => by rw [mset_ne1 _ _ (by decide), mset_ne1 _ _ (by decide)]; exact this.2 i hi⟩
    · unfold f_X13_runCommands
      rw [nm_s, nm_s, hK2, code1, bd2_s, m1, if_pos rfl, z7, r4, if_pos (by rw [nI_leq (by omega) (by omega)]; exact m2), nm_s, nm_s, show mset (mset z 219 15 0) 219 7 0 219 15 = 0 from by rw [mset_ne2 _ _ (by decide), mset_same], if_pos rfl]
/-- the components of the invariant that do not read the notes -/
theorem cmp_mk {σ S : gM} {a : Nat → Nat} {c nx : Nat} (R : nowR σ a) (Hh : hisR σ c nx) (z : ∀ i q, (i < 200 ∧ i ≠ 4 ∧ i ≠ 5 ∧ i ≠ 6 ∧ i ≠ 0) ∨ i = 220 ∨ i = 222 ∨ (i = 219 ∧ q = 3) → S i q = σ i q) : nowR S a ∧ hisR S c nx := by
  obtain ⟨hc, hx, g1, g2, g3, g4⟩ := Hh
  have hr : ∀ q, q < 134 → S 220 q = σ 220 q := fun q _ => z 220 q (by omega)
  refine ⟨⟨blk_congr R.2.2.1 (fun o q p1 p2 p3 p4 => z _ q (by omega)) hr R.1, row_congr hr R.2.1, vd_congr hr R.2.2⟩, hc, hx, ?_, ?_, ?_, fun i hi => ?_⟩
  · rw [z 199 1 (by omega)]; exact g1
  · rw [z 199 2 (by omega)]; exact g2
  · rw [z 219 3 (by omega)]; exact g3
  · obtain ⟨b, b1, b2, b3⟩ := g4 i hi
    have hq : ∀ q, q < 134 → S 222 (134 * i + q) = σ 222 (134 * i + q) := fun q _ => z 222 _ (by omega)
    have hm : (nx + 9 - c + i) % 9 < 9 := Nat.mod_lt _ (by omega)
    exact ⟨b, blk_congr b3.1 (fun o q p1 _ _ _ => z _ q (by omega)) hq b1, row_congr hq b2, vd_congr hq b3⟩
/-- the ring's made-ready row may change, and the present state is known -/
theorem inv_ring {σ S : gM} {a : Nat → Nat} {c nx : Nat} (R' : nowR S a) (N' : notR S) (Hh : hisR σ c nx) (Sv : savR σ) (h : ∀ i q, (19 ≤ i ∧ i < 200 ∧ (i < 1 + 18 * (nx + 2) ∨ 1 + 18 * (nx + 2) + 18 ≤ i)) ∨ (i = 0 ∧ q = 6) ∨ i = 222 ∨ i = 223 ∨ (i = 219 ∧ (q = 3 ∨ q = 5)) → S i q = σ i q) : inv S := by
  obtain ⟨hc, hx, g1, g2, g3, g4⟩ := Hh
  refine ⟨a, c, nx, R', N', ⟨hc, hx, ?_, ?_, ?_, fun i hi => ?_⟩, ?_⟩
  · rw [h 199 1 (by omega)]; exact g1
  · rw [h 199 2 (by omega)]; exact g2
  · rw [h 219 3 (by omega)]; exact g3
  · obtain ⟨b, b1, b2, b3⟩ := g4 i hi
    have hr : ∀ q, q < 134 → S 222 (134 * i + q) = σ 222 (134 * i + q) := fun q _ => h 222 _ (by omega)
    have hm : (nx + 9 - c + i) % 9 < 9 := Nat.mod_lt _ (by omega)
    have hne : (nx + 9 - c + i) % 9 ≠ nx := by omega
    exact ⟨b, blk_congr b3.1 (fun o q h1 h2 h3 h4 => h _ q (by omega)) hr b1, row_congr hr b2, vd_congr hr b3⟩
  · rcases Sv with ⟨s1, s2⟩ | ⟨s1, s2, b, b1, b2, b3⟩
    · exact Or.inl ⟨(h 0 6 (by omega)).trans s1, (h 219 5 (by omega)).trans s2⟩
    · have hr : ∀ q, q < 134 → S 223 q = σ 223 q := fun q _ => h 223 _ (by omega)
      exact Or.inr ⟨(h 0 6 (by omega)).trans s1, (h 219 5 (by omega)).trans s2, b, blk_congr b3.1 (fun o q h1 h2 h3 h4 => h _ q (by omega)) hr b1, row_congr hr b2, vd_congr hr b3⟩
