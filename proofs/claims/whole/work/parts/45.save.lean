theorem k_T_50 : turnOk f_T_50 := by
  intro σ lo dd a1 a2 a3 I
  obtain ⟨a, c, nx, R, N, Hh, Sv⟩ := I
  obtain ⟨hc, hx, g1, g2, g3, g4⟩ := id Hh
  obtain ⟨σ1, e1, h1, h2⟩ := e_copyFrom (σ := σ) (kt := 1) (ko := 0) (by omega)
  have B1 := h2 (σ 220) a R.2.2.1 R.2.2.2.1 R.1
  generalize hK : mset σ1 0 6 1 = K
  have kk : ∀ i q, ¬ (i = 0 ∧ q = 6) → K i q = σ1 i q := fun i q hi => by
    rw [← hK]
    by_cases h : i = 0
    · subst h; exact mset_ne2 _ _ (fun e => hi ⟨rfl, e⟩)
    · exact mset_ne1 _ _ h
  have kσ : ∀ i q, ¬ (i = 0 ∧ q = 6) → (i < 19 ∨ 37 ≤ i) → K i q = σ i q := fun i q hi hb => by rw [kk i q hi, h1 i (by omega)]
  generalize hS : mset (mset (cpR K 220 0 223 0 134) 219 5 1) 219 12 0 = S
  have ss : ∀ i q, i ≠ 223 → ¬ (i = 219 ∧ (q = 5 ∨ q = 12)) → S i q = K i q := fun i q p1 p2 => by
    rw [← hS]
    by_cases h : i = 219
    · subst h
      rw [mset_ne2 _ _ (by omega), mset_ne2 _ _ (by omega), cpR_o p1]
    · rw [mset_ne1 _ _ h, mset_ne1 _ _ h, cpR_o p1]
  have sσ : ∀ i q, ¬ (i = 0 ∧ q = 6) → (i < 19 ∨ 37 ≤ i) → i ≠ 223 → ¬ (i = 219 ∧ (q = 5 ∨ q = 12)) → S i q = σ i q := fun i q p1 p2 p3 p4 => by rw [ss i q p3 p4, kσ i q p1 p2]
  have hr : ∀ q, q < 134 → S 220 q = σ 220 q := fun q _ => sσ 220 q (by omega) (by omega) (by omega) (by omega)
  have h7 : K 7 5 = nI (a 36) := (kσ 7 5 (by omega) (by omega)).trans R.1.2.2.1
  have hp : mset (cpR K 220 0 223 0 134) 219 5 1 220 36 = nI (a 36) := by
    rw [mset_ne1 _ _ (by decide), cpR_o (by decide), kσ 220 36 (by omega) (by omega)]
    exact R.2.1 36 (by omega) (by omega) (by omega) (by omega)
  refine ⟨S, lo, dd, ?_, a, c, nx, ⟨blk_congr R.2.2.1 (fun o q p1 _ _ _ => sσ _ q (by omega) (by omega) (by omega) (by omega)) hr R.1, row_congr hr R.2.1, vd_congr hr R.2.2⟩, ?_, ⟨hc, hx, ?_, ?_, ?_, fun i hi => ?_⟩, Or.inr ⟨?_, ?_, a, ?_, ?_, ?_⟩⟩
  · unfold f_T_50 f_X12_save f_X13_save f_X8_size
    rw [e1, bd_s, nm_s, hK, bd_s, bd2_s, h7, show f_X13_copy K 220 134 0 223 134 0 = _ from e_copy (s := 0) (t := 0) (by decide) (by decide) (by decide) (by decide) (by decide), bd_s, nm_s, hp, f_X13_done, nm_s, hS, bd2_s, bd2_s, if_pos rfl]
  · obtain ⟨⟨n1, n2⟩, ⟨n3, n4⟩, ⟨t, t1, t2, t3, t4⟩, ⟨o, o1, o2, o3, o4⟩⟩ := N
    refine ⟨⟨?_, ?_⟩, ⟨?_, ?_⟩, ⟨t, t1, ?_, ?_, fun j hj => ?_⟩, ⟨o, o1, ?_, ?_, fun j hj => ?_⟩⟩
    · rw [sσ 0 7 (by omega) (by omega) (by omega) (by omega), sσ 219 8 (by omega) (by omega) (by omega) (by omega)]; exact n1
    · rw [sσ 0 7 (by omega) (by omega) (by omega) (by omega)]; exact n2
    · rw [sσ 0 8 (by omega) (by omega) (by omega) (by omega), sσ 219 9 (by omega) (by omega) (by omega) (by omega)]; exact n3
    · rw [sσ 0 8 (by omega) (by omega) (by omega) (by omega)]; exact n4
    · rw [sσ 204 2 (by omega) (by omega) (by omega) (by omega)]; exact t2
    · rw [sσ 219 7 (by omega) (by omega) (by omega) (by omega)]; exact t3
    · rw [sσ 205 j (by omega) (by omega) (by omega) (by omega), sσ 224 j (by omega) (by omega) (by omega) (by omega)]; exact t4 j hj
    · rw [sσ 217 1 (by omega) (by omega) (by omega) (by omega)]; exact o2
    · rw [sσ 219 11 (by omega) (by omega) (by omega) (by omega)]; exact o3
    · rw [sσ 218 j (by omega) (by omega) (by omega) (by omega), sσ 225 j (by omega) (by omega) (by omega) (by omega)]; exact o4 j hj
  · rw [sσ 199 1 (by omega) (by omega) (by omega) (by omega)]; exact g1
  · rw [sσ 199 2 (by omega) (by omega) (by omega) (by omega)]; exact g2
  · rw [sσ 219 3 (by omega) (by omega) (by omega) (by omega)]; exact g3
  · obtain ⟨b, b1, b2, b3⟩ := g4 i hi
    have hq : ∀ q, q < 134 → S 222 (134 * i + q) = σ 222 (134 * i + q) := fun q _ => sσ 222 _ (by omega) (by omega) (by omega) (by omega)
    have hm : (nx + 9 - c + i) % 9 < 9 := Nat.mod_lt _ (by omega)
    exact ⟨b, blk_congr b3.1 (fun o q p1 _ _ _ => sσ _ q (by omega) (by omega) (by omega) (by omega)) hq b1, row_congr hq b2, vd_congr hq b3⟩
  · rw [ss 0 6 (by omega) (by omega), ← hK, mset_same]
  · rw [← hS, mset_ne2 _ _ (by omega), mset_same]
  all_goals have h3 : ∀ q, q < 134 → S 223 q = σ 220 q := fun q hq => by rw [← hS, mset_ne1 _ _ (by decide), mset_ne1 _ _ (by decide), cpR_i hq, kσ 220 q (by omega) (by omega)]
  · exact blk_congr R.2.2.1 (fun o q p1 _ _ _ => by rw [ss _ q (by omega) (by omega), kk _ q (by omega)]) h3 B1
  · exact row_congr h3 R.2.1
  · exact vd_congr h3 R.2.2
