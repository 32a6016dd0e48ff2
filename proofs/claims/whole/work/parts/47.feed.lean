theorem nar_c (x : Int32) : vp_nar .char x = x.toUInt32.toUInt16.toUInt32.toInt32 := rfl
theorem nar_idem (x : Int32) : vp_nar .char (vp_nar .char x) = vp_nar .char x := by
  rw [nar_c, nar_c]
  simp
  exact congrArg UInt32.toInt32 (UInt32.toNat_inj.mp (by rw [UInt32.toNat_mod, UInt32.toNat_mod]; exact Nat.mod_mod _ _))
theorem k_T_42 : turnOk f_T_42 := by
  intro σ lo dd a1 a2 a3 I
  obtain ⟨a, c, nx, R, N, Hh, Sv⟩ := id I
  obtain ⟨hc, hx, g1, g2, g3, g4⟩ := id Hh
  obtain ⟨⟨n1, n2⟩, ⟨n3, n4⟩, ⟨t, t1, t2, t3, t4⟩, ⟨o, o1, o2, o3, o4⟩⟩ := N
  generalize hx' : (a1.toUInt32 % 65536).toInt32 = x
  by_cases h60 : t = 60
  · subst h60
    refine inv_q I ⟨mset σ 219 12 1, lo, dd, ?_, eqv_m eqv.rf irr_t _⟩
    unfold f_T_42 f_L_feed f_X12_feed f_X13_feed f_X2_isFull
    rw [hx', t2, if_neg (by decide), bd_s, if_neg (by decide), show f_X12_accepted σ (-4) = _ from ac_no 2 (by omega), bt_r, bt2_r, if_pos rfl, bd4_s, t3, if_pos (show nI 60 = (60 : Int32) from rfl), f_X13_fails, nm_s, bd2_s, bd2_s, f_X13_thrown, mset_same, bd_s, if_pos rfl, if_neg (by decide)]
  · have hlt : nI t < (60 : Int32) := by rw [show (60 : Int32) = nI 60 from rfl, nI_ltq (by omega) (by omega)]; omega
    have hne : ¬ nI t = (60 : Int32) := by rw [show (60 : Int32) = nI 60 from rfl, nI_inj (by omega) (by omega)]; exact h60
    generalize hK : mset (mset σ 205 t (vp_nar .char x)) 204 2 (nI (t + 1)) = K
    have kσ : ∀ i q, ¬ (i = 205 ∧ q = t) → ¬ (i = 204 ∧ q = 2) → K i q = σ i q := fun i q p1 p2 => by
      rw [← hK]
      by_cases h : i = 204
      · subst h
        rw [mset_ne2 _ _ (fun e => p2 ⟨rfl, e⟩), mset_ne1 _ _ (by decide)]
      · rw [mset_ne1 _ _ h]
        by_cases h5 : i = 205
        · subst h5; exact mset_ne2 _ _ (fun e => p1 ⟨rfl, e⟩)
        · exact mset_ne1 _ _ h5
    generalize hS : mset (mset (mset K 224 t (vp_nar .char x)) 219 7 (nI (t + 1))) 219 12 0 = S
    have sK : ∀ i q, ¬ (i = 224 ∧ q = t) → ¬ (i = 219 ∧ (q = 7 ∨ q = 12)) → S i q = K i q := fun i q p1 p2 => by
      rw [← hS]
      by_cases h : i = 219
      · subst h
        rw [mset_ne2 _ _ (by omega), mset_ne2 _ _ (by omega), mset_ne1 _ _ (by decide)]
      · rw [mset_ne1 _ _ h, mset_ne1 _ _ h]
        by_cases h5 : i = 224
        · subst h5; exact mset_ne2 _ _ (fun e => p1 ⟨rfl, e⟩)
        · exact mset_ne1 _ _ h5
    have sσ : ∀ i q, ¬ (i = 205 ∧ q = t) → ¬ (i = 204 ∧ q = 2) → ¬ (i = 224 ∧ q = t) → ¬ (i = 219 ∧ (q = 7 ∨ q = 12)) → S i q = σ i q := fun i q p1 p2 p3 p4 => by rw [sK i q p3 p4, kσ i q p1 p2]
    have z : ∀ i q, i < 204 ∨ (217 ≤ i ∧ i < 219) ∨ (220 ≤ i ∧ i ≠ 224) → S i q = σ i q := fun i q hi => sσ i q (by omega) (by omega) (by omega) (by omega)
    have hr : ∀ q, q < 134 → S 220 q = σ 220 q := fun q _ => z 220 q (by omega)
    have k7 : K 219 7 = nI t := (kσ 219 7 (by omega) (by omega)).trans t3
    refine ⟨S, (nI (t + 1)).toInt64, dd, ?_, a, c, nx, ⟨blk_congr R.2.2.1 (fun o q p1 _ _ _ => z _ q (by omega)) hr R.1, row_congr hr R.2.1, vd_congr hr R.2.2⟩, ⟨⟨?_, ?_⟩, ⟨?_, ?_⟩, ⟨t + 1, by omega, ?_, ?_, fun j hj => ?_⟩, ⟨o, o1, ?_, ?_, fun j hj => ?_⟩⟩, ⟨hc, hx, ?_, ?_, ?_, fun i hi => ?_⟩, ?_⟩
    · unfold f_T_42 f_L_feed f_X12_feed f_X13_feed f_X2_isFull
      rw [hx', t2, if_pos hlt, bd_s, if_pos rfl, f_X2_add, t2, nI_gi (by omega) (by omega), g_nIc (by omega), nm_s, nm_s, show mset σ 205 t (vp_nar .char x) 204 2 = nI t from (mset_ne1 _ _ (by decide)).trans t2, nI_s (by omega), hK, show K 204 2 = nI (t + 1) from by rw [← hK, mset_same], bd2_s, ac_ok (nI_ge0 (j := t + 1) (by omega)), bt_l, bt2_l, bd4_s, k7, if_neg hne, nI_gi (by omega) (by omega), g_nIc (by omega), nm_s, nm_s, show mset K 224 t (vp_nar .char x) 219 7 = nI t from (mset_ne1 _ _ (by decide)).trans k7, nI_s (by omega), mset_same, f_X13_done, nm_s, hS, bd2_s, bd2_s, f_X13_thrown, show S 219 12 = 0 from by rw [← hS, mset_same], bd_s, if_pos rfl, if_pos rfl, lg_s, if_pos rfl]
    · rw [z 0 7 (by omega), sσ 219 8 (by omega) (by omega) (by omega) (by omega)]; exact n1
    · rw [z 0 7 (by omega)]; exact n2
    · rw [z 0 8 (by omega), sσ 219 9 (by omega) (by omega) (by omega) (by omega)]; exact n3
    · rw [z 0 8 (by omega)]; exact n4
    · rw [sK 204 2 (by omega) (by omega), ← hK, mset_same]
    · rw [← hS, mset_ne2 _ _ (by omega), mset_same]
    · by_cases hjt : j = t
      · subst hjt
        have e1 : S 205 j = vp_nar .char x := by rw [sK 205 j (by omega) (by omega), ← hK, mset_ne1 _ _ (by decide), mset_same]
        have e2 : S 224 j = vp_nar .char x := by rw [← hS, mset_ne1 _ _ (by decide), mset_ne1 _ _ (by decide), mset_same]
        rw [e1, e2]
        exact ⟨rfl, nar_idem x⟩
      · rw [sσ 205 j (by omega) (by omega) (by omega) (by omega), sσ 224 j (by omega) (by omega) (by omega) (by omega)]; exact t4 j (by omega)
    · rw [z 217 1 (by omega)]; exact o2
    · rw [sσ 219 11 (by omega) (by omega) (by omega) (by omega)]; exact o3
    · rw [z 218 j (by omega), z 225 j (by omega)]; exact o4 j hj
    · rw [z 199 1 (by omega)]; exact g1
    · rw [z 199 2 (by omega)]; exact g2
    · rw [sσ 219 3 (by omega) (by omega) (by omega) (by omega)]; exact g3
    · obtain ⟨b, b1, b2, b3⟩ := g4 i hi
      have hq : ∀ q, q < 134 → S 222 (134 * i + q) = σ 222 (134 * i + q) := fun q _ => z 222 _ (by omega)
      have hm : (nx + 9 - c + i) % 9 < 9 := Nat.mod_lt _ (by omega)
      exact ⟨b, blk_congr b3.1 (fun o q p1 _ _ _ => z _ q (by omega)) hq b1, row_congr hq b2, vd_congr hq b3⟩
    · rcases Sv with ⟨s1, s2⟩ | ⟨s1, s2, b, b1, b2, b3⟩
      · exact Or.inl ⟨(z 0 6 (by omega)).trans s1, (sσ 219 5 (by omega) (by omega) (by omega) (by omega)).trans s2⟩
      · have hq : ∀ q, q < 134 → S 223 q = σ 223 q := fun q _ => z 223 q (by omega)
        exact Or.inr ⟨(z 0 6 (by omega)).trans s1, (sσ 219 5 (by omega) (by omega) (by omega) (by omega)).trans s2, b, blk_congr b3.1 (fun o q p1 _ _ _ => z _ q (by omega)) hq b1, row_congr hq b2, vd_congr hq b3⟩
