theorem cpR_g {σ : gM} {ja jb s n q : Nat} (h : q < n) : cpR σ ja s jb 0 n jb q = σ ja (s + q) := by
  unfold cpR
  rw [rset_eq, if_pos (by omega)]
  exact congrArg (σ ja) (by omega)
theorem k_T_49 : turnOk f_T_49 := by
  intro σ lo dd a1 a2 a3 I
  obtain ⟨a, c, nx, R, N, Hh, Sv⟩ := id I
  obtain ⟨hc, hx, g1, g2, g3, g4⟩ := id Hh
  by_cases h0 : c = 0
  · subst h0
    refine inv_q I ⟨mset σ 219 12 1, lo, dd, ?_, eqv_m eqv.rf irr_t _⟩
    unfold f_T_49 f_L_undo f_X12_undo f_X13_undo f_X7_size
    rw [bd_s, g2, if_pos (show nI 0 = (0 : Int32) from rfl), show f_X12_accepted σ (-4) = _ from ac_no 2 (by omega), bt_r, bt2_r, if_pos rfl, bd4_s, g3, if_pos (show nI 0 = (0 : Int32) from rfl), f_X13_fails, nm_s, bd2_s, bd2_s, f_X13_thrown, mset_same, bd_s, if_pos rfl, if_neg (by decide)]
  · obtain ⟨d, rfl⟩ : ∃ d, c = d + 1 := ⟨c - 1, by omega⟩
    have hz : ¬ nI (d + 1) = (0 : Int32) := by rw [show (0 : Int32) = nI 0 from rfl, nI_inj (by omega) (by omega)]; omega
    have hd : nI (d + 1) - 1 = nI d := by
      rcases (show d = 0 ∨ d = 1 ∨ d = 2 ∨ d = 3 ∨ d = 4 ∨ d = 5 ∨ d = 6 ∨ d = 7 by omega) with rfl | rfl | rfl | rfl | rfl | rfl | rfl | rfl <;> decide
    have hn : ((nI nx + 9) - 1) - ((nI nx + 9) - 1) / 9 * 9 = nI ((nx + 8) % 9) := by
      rcases (show nx = 0 ∨ nx = 1 ∨ nx = 2 ∨ nx = 3 ∨ nx = 4 ∨ nx = 5 ∨ nx = 6 ∨ nx = 7 ∨ nx = 8 by omega) with rfl | rfl | rfl | rfl | rfl | rfl | rfl | rfl | rfl <;> decide
    obtain ⟨b, b1, b2, b3⟩ := g4 d (by omega)
    have hm : (nx + 8) % 9 < 9 := Nat.mod_lt _ (by omega)
    have eb : 2 + (nx + 9 - (d + 1) + d) % 9 = (nx + 8) % 9 + 2 := by omega
    rw [eb] at b1
    generalize hτ : mset (mset σ 199 1 (nI ((nx + 8) % 9))) 199 2 (nI d) = τ
    have tσ : ∀ i q, i ≠ 199 → τ i q = σ i q := fun i q hi => by rw [← hτ, mset_ne1 _ _ hi, mset_ne1 _ _ hi]
    have bτ : blkR τ ((nx + 8) % 9 + 2) (fun q => σ 222 (134 * d + q)) b := blk_congr b3.1 (fun o q p1 _ _ _ => tσ _ q (by omega)) (fun _ _ => rfl) b1
    obtain ⟨K, e1, h1, h2⟩ := e_copyFrom (σ := τ) (kt := 0) (ko := (nx + 8) % 9 + 2) (by omega)
    have B1 := h2 _ b b3.1 b3.2.1 bτ
    have kτ : ∀ i q, (i = 0 ∨ 19 ≤ i) → K i q = τ i q := fun i q hi => by rw [h1 i (by omega)]
    have kσ : ∀ i q, i ≠ 199 → (i = 0 ∨ 19 ≤ i) → K i q = σ i q := fun i q p1 p2 => by rw [kτ i q p2, tσ i q p1]
    generalize hS : mset (cpR (mset K 219 3 (nI d)) 222 (134 * d) 220 0 134) 219 12 0 = S
    have ss : ∀ i q, i ≠ 220 → ¬ (i = 219 ∧ (q = 3 ∨ q = 12)) → S i q = K i q := fun i q p1 p2 => by
      rw [← hS]
      by_cases h : i = 219
      · subst h
        rw [mset_ne2 _ _ (by omega), cpR_o p1, mset_ne2 _ _ (by omega)]
      · rw [mset_ne1 _ _ h, cpR_o p1, mset_ne1 _ _ h]
    have sσ : ∀ i q, i ≠ 199 → (i = 0 ∨ 19 ≤ i) → i ≠ 220 → ¬ (i = 219 ∧ (q = 3 ∨ q = 12)) → S i q = σ i q := fun i q p1 p2 p3 p4 => by rw [ss i q p3 p4, kσ i q p1 p2]
    have hr : ∀ q, q < 134 → S 220 q = σ 222 (134 * d + q) := fun q hq => by rw [← hS, mset_ne1 _ _ (by decide), cpR_g hq, mset_ne1 _ _ (by decide), kσ 222 _ (by omega) (by omega)]
    have k3 : K 219 3 = nI (d + 1) := (kσ 219 3 (by omega) (by omega)).trans g3
    have k2 : K 199 2 = nI d := by rw [kτ 199 2 (by omega), ← hτ, mset_same]
    have t1 : τ 199 1 = nI ((nx + 8) % 9) := by rw [← hτ, mset_ne2 _ _ (by omega), mset_same]
    have hq222 : ∀ i q, S 222 (134 * i + q) = σ 222 (134 * i + q) := fun i q => sσ 222 _ (by omega) (by omega) (by omega) (by omega)
    have e134 : nI d * 134 = nI (134 * d) := by rw [show (134 : Int32) = nI 134 from rfl, nI_mul (by omega) (by omega) (by omega), Nat.mul_comm]
    refine ⟨S, (nI d).toInt64, dd, ?_, b, d, (nx + 8) % 9, ⟨blk_congr b3.1 (fun o q p1 _ _ _ => ss _ q (by omega) (by omega)) hr B1, row_congr hr b2, vd_congr hr b3⟩, ?_, ⟨by omega, by omega, ?_, ?_, ?_, fun i hi => ?_⟩, ?_⟩
    · unfold f_T_49 f_L_undo f_X12_undo f_X13_undo f_X7_size f_X7_goBack f_X7_putBack
      rw [bd_s, g2, if_neg hz, nm_s, nm_s, g1, hn, show mset σ 199 1 (nI ((nx + 8) % 9)) 199 2 = nI (d + 1) from (mset_ne2 _ _ (by omega)).trans g2, hd, hτ, t1, nI_gi (by omega) (by omega), g_nIc (by omega), e1, bd_s, bd_s, k2, bd2_s, ac_ok (nI_ge0 (j := d) (by omega)), bt_l, bt2_l, bd4_s, k3, if_neg hz, hd, nm_s, mset_same, e134, show f_X13_copy (mset K 219 3 (nI d)) 222 1072 (nI (134 * d)) 220 134 0 = _ from e_copy (s := 134 * d) (t := 0) (by decide) (by omega) (by decide) (by decide) (by decide), bd_s, show cpR (mset K 219 3 (nI d)) 222 (134 * d) 220 0 134 219 3 = nI d from by rw [cpR_o (by decide), mset_same], f_X13_done, nm_s, hS, bd2_s, bd2_s, f_X13_thrown, show S 219 12 = 0 from by rw [← hS, mset_same], bd_s, if_pos rfl, if_pos rfl, lg_s, if_pos rfl]
    · obtain ⟨⟨n1, n2⟩, ⟨n3, n4⟩, ⟨t, t1, t2, t3, t4⟩, ⟨o, o1, o2, o3, o4⟩⟩ := N
      refine ⟨⟨?_, ?_⟩, ⟨?_, ?_⟩, ⟨t, t1, ?_, ?_, fun j hj => ?_⟩, ⟨o, o1, ?_, ?_, fun j hj => ?_⟩⟩
      · rw [sσ 0 7 (by omega) (by omega) (by omega) (by omega), sσ 219 8 (by omega) (by omega) (by omega) (by omega)]; exact n1
      · rw [sσ 0 7 (by omega) (by omega) (by omega) (by omega)]; exact n2
      · rw [sσ 0 8 (by omega) (by omega) (by omega) (by omega), sσ 219 9 (by omega) (by omega) (by omega) (by omega)]; exact n3
      · rw [sσ 0 8 (by omega) (by omega) (by omega) (by omega)]; exact n4
      · rw [sσ 204 2 (by omega) (by omega) (by omega) (by omega)]; exact t2
      · rw [sσ 219 7 (by omega) (by omega) (by omega) (by omega)]; exact t3
      · rw [sσ 205 j (by omega) (by omega) (by omega) (by omega), sσ 224 j (by omega) (by omega) (by omega) (by omega)]; exact t4 j hj
      · rw [sσ 217 1 (by omega) (by omega) (by omega) (by omega)]; exact o2
      · rw [sσ 219 11 (by omega) (by omega) (by omega) (by omega)]; exact o3
      · rw [sσ 218 j (by omega) (by omega) (by omega) (by omega), sσ 225 j (by omega) (by omega) (by omega) (by omega)]; exact o4 j hj
    · rw [ss 199 1 (by omega) (by omega), kτ 199 1 (by omega)]; exact t1
    · rw [ss 199 2 (by omega) (by omega)]; exact k2
    · rw [← hS, mset_ne2 _ _ (by omega), cpR_o (by decide), mset_same]
    · obtain ⟨b', p1, p2, p3⟩ := g4 i (by omega)
      have e : 2 + ((nx + 8) % 9 + 9 - d + i) % 9 = 2 + (nx + 9 - (d + 1) + i) % 9 := by omega
      have hm2 : (nx + 9 - (d + 1) + i) % 9 < 9 := Nat.mod_lt _ (by omega)
      rw [e]
      exact ⟨b', blk_congr p3.1 (fun o q q1 _ _ _ => sσ _ q (by omega) (by omega) (by omega) (by omega)) (fun q _ => hq222 i q) p1, row_congr (fun q _ => hq222 i q) p2, vd_congr (fun q _ => hq222 i q) p3⟩
    · rcases Sv with ⟨s1, s2⟩ | ⟨s1, s2, b', p1, p2, p3⟩
      · exact Or.inl ⟨(sσ 0 6 (by omega) (by omega) (by omega) (by omega)).trans s1, (sσ 219 5 (by omega) (by omega) (by omega) (by omega)).trans s2⟩
      · have hq : ∀ q, q < 134 → S 223 q = σ 223 q := fun q _ => sσ 223 q (by omega) (by omega) (by omega) (by omega)
        exact Or.inr ⟨(sσ 0 6 (by omega) (by omega) (by omega) (by omega)).trans s1, (sσ 219 5 (by omega) (by omega) (by omega) (by omega)).trans s2, b', blk_congr p3.1 (fun o q q1 _ _ _ => sσ _ q (by omega) (by omega) (by omega) (by omega)) hq p1, row_congr hq p2, vd_congr hq p3⟩
