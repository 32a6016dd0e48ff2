theorem k_T_51 : turnOk f_T_51 := by
  intro σ lo dd a1 a2 a3 I
  obtain ⟨a, c, nx, R, N, Hh, Sv⟩ := id I
  obtain ⟨hc, hx, g1, g2, g3, g4⟩ := id Hh
  rcases Sv with ⟨u1, u2⟩ | ⟨u1, u2, b, b1, b2, b3⟩
  · refine inv_q I ⟨mset σ 219 12 1, lo, dd, ?_, eqv_m eqv.rf irr_t _⟩
    unfold f_T_51 f_L_restore f_X12_restore f_X13_restore
    rw [if_pos u1, bt2_r, if_pos rfl, bd4_s, if_pos u2, f_X13_fails, nm_s, bd2_s, bd2_s, f_X13_thrown, mset_same, bd_s, if_pos rfl, if_neg (by decide)]
  · obtain ⟨σ1, e1, h1, h2⟩ := e_copyFrom (σ := σ) (kt := 0) (ko := 1) (by omega)
    have B1 := h2 (σ 223) b b3.1 b3.2.1 b1
    generalize hK : mset σ1 199 2 0 = K
    have kk : ∀ i q, ¬ (i = 199 ∧ q = 2) → K i q = σ1 i q := fun i q hi => by
      rw [← hK]
      by_cases h : i = 199
      · subst h; exact mset_ne2 _ _ (fun e => hi ⟨rfl, e⟩)
      · exact mset_ne1 _ _ h
    have kσ : ∀ i q, ¬ (i = 199 ∧ q = 2) → (i = 0 ∨ 19 ≤ i) → K i q = σ i q := fun i q hi hb => by rw [kk i q hi, h1 i (by omega)]
    generalize hS : mset (mset (cpR K 223 0 220 0 134) 219 3 0) 219 12 0 = S
    have ss : ∀ i q, i ≠ 220 → ¬ (i = 219 ∧ (q = 3 ∨ q = 12)) → S i q = K i q := fun i q p1 p2 => by
      rw [← hS]
      by_cases h : i = 219
      · subst h
        rw [mset_ne2 _ _ (by omega), mset_ne2 _ _ (by omega), cpR_o p1]
      · rw [mset_ne1 _ _ h, mset_ne1 _ _ h, cpR_o p1]
    have sσ : ∀ i q, ¬ (i = 199 ∧ q = 2) → (i = 0 ∨ 19 ≤ i) → i ≠ 220 → ¬ (i = 219 ∧ (q = 3 ∨ q = 12)) → S i q = σ i q := fun i q p1 p2 p3 p4 => by rw [ss i q p3 p4, kσ i q p1 p2]
    have hr : ∀ q, q < 134 → S 220 q = σ 223 q := fun q hq => by rw [← hS, mset_ne1 _ _ (by decide), mset_ne1 _ _ (by decide), cpR_i hq, kσ 223 q (by omega) (by omega)]
    have h7 : K 7 5 = nI (b 36) := (kk 7 5 (by omega)).trans B1.2.2.1
    have hp : mset (cpR K 223 0 220 0 134) 219 3 0 220 36 = nI (b 36) := by
      rw [mset_ne1 _ _ (by decide), cpR_i (by omega), kσ 223 36 (by omega) (by omega)]
      exact b2 36 (by omega) (by omega) (by omega) (by omega)
    have z1 : ¬ σ 0 6 = 0 := by rw [u1]; decide
    have z2 : ¬ K 219 5 = 0 := by rw [kσ 219 5 (by omega) (by omega), u2]; decide
    have hq3 : ∀ q, q < 134 → S 223 q = σ 223 q := fun q _ => sσ 223 q (by omega) (by omega) (by omega) (by omega)
    refine ⟨S, (nI (b 36)).toInt64, dd, ?_, b, 0, nx, ⟨blk_congr b3.1 (fun o q p1 _ _ _ => by rw [ss _ q (by omega) (by omega), kk _ q (by omega)]) hr B1, row_congr hr b2, vd_congr hr b3⟩, ?_, ⟨by omega, hx, ?_, ?_, ?_, fun i hi => absurd hi (Nat.not_lt_zero i)⟩, Or.inr ⟨?_, ?_, b, ?_, row_congr hq3 b2, vd_congr hq3 b3⟩⟩
    · unfold f_T_51 f_L_restore f_X12_restore f_X13_restore f_X7_forget f_X8_size
      rw [if_neg z1, e1, bd_s, nm_s, hK, bd_s, bd_s, bt2_l, bd4_s, h7, if_neg z2, show f_X13_copy K 223 134 0 220 134 0 = _ from e_copy (s := 0) (t := 0) (by decide) (by decide) (by decide) (by decide) (by decide), bd_s, nm_s, hp, f_X13_done, nm_s, hS, bd2_s, bd2_s, f_X13_thrown, show S 219 12 = 0 from by rw [← hS, mset_same], bd_s, if_pos rfl, if_pos rfl, lg_s, if_pos rfl]
    · obtain ⟨⟨n1, n2⟩, ⟨n3, n4⟩, ⟨t, t1, t2, t3, t4⟩, ⟨o, o1, o2, o3, o4⟩⟩ := N
      refine ⟨⟨?_, ?_⟩, ⟨?_, ?_⟩, ⟨t, t1, ?_, ?_, fun j hj => ?_⟩, ⟨o, o1, ?_, ?_, fun j hj => ?_⟩⟩
      · rw [sσ 0 7 (by omega) (by omega) (by omega) (by omega), sσ 219 8 (by omega) (by omega) (by omega) (by omega)]; exact n1
      · rw [sσ 0 7 (by omega) (by omega) (by omega) (by omega)]; exact n2
      · rw [sσ 0 8 (by omega) (by omega) (by omega) (by omega), sσ 219 9 (by omega) (by omega) (by omega) (by omega)]; exact n3
      · rw [sσ 0 8 (by omega) (by omega) (by omega) (by omega)]; exact n4
      · rw [sσ 204 2 (by omega) (by omega) (by omega) (by omega)]; exact t2
      · rw [sσ 219 7 (by omega) (by omega) (by omega) (by omega)]; exact t3
      · rw [sσ 205 j (by omega) (by omega) (by omega) (by omega), sσ 224 j (by omega) (by omega) (by omega) (by omega)]; exact t4 j hj
      · rw [sσ 217 1 (by omega) (by omega) (by omega) (by omega)]; exact o2
      · rw [sσ 219 11 (by omega) (by omega) (by omega) (by omega)]; exact o3
      · rw [sσ 218 j (by omega) (by omega) (by omega) (by omega), sσ 225 j (by omega) (by omega) (by omega) (by omega)]; exact o4 j hj
    · rw [sσ 199 1 (by omega) (by omega) (by omega) (by omega)]; exact g1
    · rw [ss 199 2 (by omega) (by omega), ← hK, mset_same]; rfl
    · rw [← hS, mset_ne2 _ _ (by omega), mset_same]; rfl
    · rw [sσ 0 6 (by omega) (by omega) (by omega) (by omega)]; exact u1
    · rw [sσ 219 5 (by omega) (by omega) (by omega) (by omega)]; exact u2
    · exact blk_congr b3.1 (fun o q p1 _ _ _ => sσ _ q (by omega) (by omega) (by omega) (by omega)) hq3 b1
