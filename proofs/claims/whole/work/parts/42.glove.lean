theorem roadsN_congr {a b : Nat → Nat} (h : ∀ j, j < 36 → a j = b j) : roadsN a = roadsN b :=
  sm_congr (fun i hi => sm_congr (fun j hj => by rw [h (6 * i + j) (by omega)]))
theorem loadN_congr {a b : Nat → Nat} (h36 : a 36 = b 36) (h : ∀ p, p < b 36 → a (76 + p) = b (76 + p) ∧ a (88 + p) = b (88 + p) ∧ a (40 + p) = b (40 + p)) (w : Nat) : loadN a w = loadN b w := by
  unfold loadN
  rw [h36]
  exact sm_congr (fun p hp => by rw [(h p hp).1, (h p hp).2.1, (h p hp).2.2])
set_option maxHeartbeats 1000000 in
theorem k_T_2 : turnOk f_T_2 := by
  intro σ lo dd a1 a2 a3 I
  obtain ⟨a, c, nx, R, N, Hh, Sv⟩ := I
  obtain ⟨σ1, ep, h1, hb⟩ := e_prepare R Hh
  obtain ⟨hc, hx, g1, g2, g3, g4⟩ := id Hh
  have hM : a 37 ≤ 8 := R.2.2.2.1
  have hn : σ 13 2 = nI (a 37) := R.1.2.2.2.2.1
  have hg : σ 220 37 = nI (a 37) := R.2.1 37 (by omega) (by omega) (by omega) (by omega)
  have o13 : σ1 13 = σ 13 := h1 13 (by omega)
  have hm := fail_mem hx h1
  unfold f_T_2 f_L_buyGlove f_X12_buyGlove f_X13_buyGlove
  rw [ep, bd_s]
  rcases wi_no (x := a1) (lo := 1) (hi := 3) (by omega) (by omega) with ⟨g, w1, w2, rfl⟩ | hw
  · have hW : ∀ τ : gM, f_X12_isWithin τ (nI g) 1 3 = some 1 ∧ f_X13_in τ (nI g) 1 3 = some 1 := fun τ => wi_ok (lo := 1) (hi := 3) w1 w2 (by omega)
    by_cases h8 : a 37 = 8
    · refine ⟨cpR (mset (cpR σ1 220 0 221 0 134) 219 12 2) 221 0 220 0 134, lo, dd, ?_, fail_ok R N Hh Sv (hm 2)⟩
      have e37 : cpR σ1 220 0 221 0 134 220 37 = nI 8 := by rw [cpR_o (by decide), h1 220 (by omega), hg, h8]
      rw [f_X3_addGlove, (hW _).1, bd_s, if_neg (by decide), f_X6_isFull, o13, hn, h8, if_neg (by decide), bd_s, if_neg (by decide), bd2_s, show f_X12_recorded σ1 (-4) = _ from rc_no 2 (by omega), bt2_r, bt2_r, if_neg (by decide), if_pos rfl, bd4_s, e_begin, bd_s, f_X13_buys, (hW _).2, bd_s, if_neg (by decide), nm_s, e37, if_pos (show nI 8 = (8 : Int32) from rfl), f_X13_fails, nm_s, bd2_s, bd2_s, e_unkept (by rw [mset_same]; decide), bd2_s, bd2_s, f_X13_thrown, cpR_o (by decide), mset_same, bd_s, if_pos rfl, if_neg (by decide)]
    · obtain ⟨n, hnn⟩ : ∃ n, n = a 37 := ⟨_, rfl⟩
      rw [← hnn] at hn hg hM h8
      have hlt : n < 8 := by omega
      rw [f_X3_addGlove, (hW _).1, bd_s, if_neg (by decide), f_X6_isFull, o13, hn, if_pos (by rw [show (8 : Int32) = nI 8 from rfl, nI_ltq (by omega) (by omega)]; omega), bd_s, if_pos rfl, f_X6_add, nm_s, o13, hn, nI_gi (by omega) (by omega), g_nIc (by omega), nm_s, nI_gi (by omega) (by omega), nm_s, nm_s, mset_ne1 _ _ (by decide), mset_ne1 _ _ (by decide), o13, hn, nI_s (by omega), bd2_s, bd2_s]
      generalize hσ2 : mset (mset (mset σ1 14 n (nI g)) 15 n 3) 13 2 (nI (n + 1)) = σ2
      have e199 : σ2 199 = σ 199 := by
        funext q
        rw [← hσ2]
        simp (disch := omega) only [mset_ne1, h1]
      rw [rc_ok (nI_ge0 (by omega)) hc hx (by rw [e199]; exact g1) (by rw [e199]; exact g2), bt2_l, bt2_l, bd4_s, e_begin, bd_s]
      generalize hK : mset (mset σ2 199 1 (nI ((nx + 1) % 9))) 199 2 (nI (min (c + 1) 8)) = K
      have k220 : ∀ q, K 220 q = σ 220 q := fun q => by
        rw [← hK, ← hσ2]
        simp (disch := omega) only [mset_ne1, h1]
      have e37 : cpR K 220 0 221 0 134 220 37 = nI n := by rw [cpR_o (by decide), k220, hg]
      rw [f_X13_buys, (hW _).2, bd_s, if_neg (by decide), nm_s, e37, if_neg (by rw [show (8 : Int32) = nI 8 from rfl, nI_inj (by omega) (by omega)]; omega), show (112 : Int32) + nI n = nI (112 + n) from nI_al (k := 112) (by omega), show (120 : Int32) + nI n = nI (120 + n) from nI_al (k := 120) (by omega), nI_gi (by omega) (by omega), g_nIc (by omega), nm_s, nI_gi (by omega) (by omega), g_nIc (by omega), nm_s, nm_s, mset_ne2 _ _ (by omega), mset_ne2 _ _ (by omega), e37, nI_s (by omega), f_X13_done, nm_s, bd2_s, bd2_s]
      generalize hσ4 : mset (mset (mset (mset (cpR K 220 0 221 0 134) 220 (112 + n) (nI g)) 220 (120 + n) 0) 220 37 (nI (n + 1))) 219 12 0 = σ4
      have rd : ∀ i q, i ≠ 219 → i ≠ 220 → i ≠ 221 → i ≠ 199 → i ≠ 13 → i ≠ 14 → i ≠ 15 → σ4 i q = σ1 i q := fun i q _ _ _ _ _ _ _ => by
        rw [← hσ4, ← hK, ← hσ2]
        simp (disch := omega) only [mset_ne1, cpR_o]
      have rs : ∀ i q, i ≠ 219 → i ≠ 220 → i ≠ 221 → i ≠ 199 → i ≠ 13 → i ≠ 14 → i ≠ 15 → (i < 1 + 18 * (nx + 2) ∨ 1 + 18 * (nx + 2) + 18 ≤ i) → σ4 i q = σ i q := fun i q p1 p2 p3 p4 p5 p6 p7 p8 => by rw [rd i q p1 p2 p3 p4 p5 p6 p7, h1 i p8]
      have r219 : ∀ q, q ≠ 12 → σ4 219 q = σ 219 q := fun q hq => by
        rw [← hσ4, ← hK, ← hσ2]
        simp (disch := omega) only [mset_ne1, mset_ne2, cpR_o, h1]
      have r220 : ∀ q, q ≠ 112 + n → q ≠ 120 + n → q ≠ 37 → σ4 220 q = σ 220 q := fun q p1 p2 p3 => by
        rw [← hσ4]
        simp (disch := omega) only [mset_ne1, mset_ne2, cpR_o, k220]
      have s37 : σ4 220 37 = nI (n + 1) := by
        rw [← hσ4]
        simp (disch := omega) only [mset_ne1, mset_same]
      have s112 : σ4 220 (112 + n) = nI g := by
        rw [← hσ4]
        simp (disch := omega) only [mset_ne1, mset_ne2, mset_same]
      have s120 : σ4 220 (120 + n) = nI 0 := by
        rw [← hσ4]
        simp (disch := omega) only [mset_ne1, mset_ne2, mset_same]; rfl
      have q13 : ∀ q, q ≠ 2 → σ4 13 q = σ 13 q := fun q hq => by
        rw [← hσ4, ← hK, ← hσ2]
        simp (disch := omega) only [mset_ne1, mset_ne2, cpR_o, h1]
      have q132 : σ4 13 2 = nI (n + 1) := by
        rw [← hσ4, ← hK, ← hσ2]
        simp (disch := omega) only [mset_ne1, mset_same, cpR_o]
      have q14 : ∀ q, q ≠ n → σ4 14 q = σ 14 q := fun q hq => by
        rw [← hσ4, ← hK, ← hσ2]
        simp (disch := omega) only [mset_ne1, mset_ne2, cpR_o, h1]
      have q14n : σ4 14 n = nI g := by
        rw [← hσ4, ← hK, ← hσ2]
        simp (disch := omega) only [mset_ne1, mset_same, cpR_o]
      have q15 : ∀ q, q ≠ n → σ4 15 q = σ 15 q := fun q hq => by
        rw [← hσ4, ← hK, ← hσ2]
        simp (disch := omega) only [mset_ne1, mset_ne2, cpR_o, h1]
      have q15n : σ4 15 n = nI 3 := by
        rw [← hσ4, ← hK, ← hσ2]
        simp (disch := omega) only [mset_ne1, mset_same, cpR_o]; rfl
      obtain ⟨a', ha'⟩ : ∃ a' : Nat → Nat, a' = fun j => if j = 112 + n then g else if j = 120 + n then 0 else if j = 37 then n + 1 else a j := ⟨_, rfl⟩
      have ha : ∀ j, j ≠ 112 + n → j ≠ 120 + n → j ≠ 37 → a' j = a j := fun j p1 p2 p3 => by rw [ha']; dsimp only; rw [if_neg p1, if_neg p2, if_neg p3]
      have ha1 : a' (112 + n) = g := by rw [ha']; dsimp only; rw [if_pos rfl]
      have ha2 : a' (120 + n) = 0 := by rw [ha']; dsimp only; rw [if_neg (by omega), if_pos rfl]
      have ha3 : a' 37 = n + 1 := by rw [ha']; dsimp only; rw [if_neg (by omega), if_neg (by omega), if_pos rfl]
      have h36 : a' 36 = a 36 := ha 36 (by omega) (by omega) (by omega)
      obtain ⟨b1, b2, b3, b4, b5, b6, b7, b8, b9⟩ := R.1
      obtain ⟨v1, v2, v3, v4, v5, v6, v7, v8⟩ := R.2.2
      have R' : nowR σ4 a' := by
        refine ⟨⟨fun i hi => ?_, ?_, ?_, fun p hp => ?_, ?_, ?_, fun i hi => ?_, ?_, fun i hi => ?_⟩, fun j j1 j2 j3 j4 => ?_, ⟨by omega, by omega, fun i j hi hj => ?_, fun i hi => ?_, fun p hp => ?_, fun p p1 p2 => ?_, fun i hi => ?_, fun i hi => ?_⟩⟩
        · rw [ha i (by omega) (by omega) (by omega)]
          exact (rs 3 i (by omega) (by omega) (by omega) (by omega) (by omega) (by omega) (by omega) (by omega)).trans (b1 i hi)
        · rw [roadsN_congr (b := a) (fun j hj => ha j (by omega) (by omega) (by omega))]
          exact (rs 2 4 (by omega) (by omega) (by omega) (by omega) (by omega) (by omega) (by omega) (by omega)).trans b2
        · rw [h36]
          exact (rs 7 5 (by omega) (by omega) (by omega) (by omega) (by omega) (by omega) (by omega) (by omega)).trans b3
        · rw [h36] at hp
          obtain ⟨p1, p2, p3, p4, p5⟩ := b4 p hp
          rw [ha (40 + p) (by omega) (by omega) (by omega), ha (52 + p) (by omega) (by omega) (by omega), ha (64 + p) (by omega) (by omega) (by omega), ha (76 + p) (by omega) (by omega) (by omega), ha (88 + p) (by omega) (by omega) (by omega), r220 (100 + p) (by omega) (by omega) (by omega)]
          exact ⟨(rs 8 p (by omega) (by omega) (by omega) (by omega) (by omega) (by omega) (by omega) (by omega)).trans p1, (rs 9 p (by omega) (by omega) (by omega) (by omega) (by omega) (by omega) (by omega) (by omega)).trans p2, (rs 10 p (by omega) (by omega) (by omega) (by omega) (by omega) (by omega) (by omega) (by omega)).trans p3, (rs 11 p (by omega) (by omega) (by omega) (by omega) (by omega) (by omega) (by omega) (by omega)).trans p4, (rs 12 p (by omega) (by omega) (by omega) (by omega) (by omega) (by omega) (by omega) (by omega)).trans p5⟩
        · rw [ha3]; exact q132
        · rw [r220 39 (by omega) (by omega) (by omega)]
          exact (q13 3 (by omega)).trans b6
        · rw [ha3] at hi
          by_cases hin : i = n
          · subst hin
            rw [ha1, ha2]
            exact ⟨q14n, q15n⟩
          · obtain ⟨p1, p2⟩ := b7 i (by omega)
            rw [ha (112 + i) (by omega) (by omega) (by omega), ha (120 + i) (by omega) (by omega) (by omega)]
            exact ⟨(q14 i hin).trans p1, (q15 i hin).trans p2⟩
        · rw [r220 38 (by omega) (by omega) (by omega)]
          exact (rs 16 2 (by omega) (by omega) (by omega) (by omega) (by omega) (by omega) (by omega) (by omega)).trans b8
        · obtain ⟨p1, p2⟩ := b9 i hi
          rw [ha (128 + i) (by omega) (by omega) (by omega), ha (131 + i) (by omega) (by omega) (by omega)]
          exact ⟨(rs 17 i (by omega) (by omega) (by omega) (by omega) (by omega) (by omega) (by omega) (by omega)).trans p1, (rs 18 i (by omega) (by omega) (by omega) (by omega) (by omega) (by omega) (by omega) (by omega)).trans p2⟩
        · by_cases k1 : j = 112 + n
          · subst k1; rw [s112, ha1]
          · by_cases k2 : j = 120 + n
            · subst k2; rw [s120, ha2]
            · by_cases k3 : j = 37
              · subst k3; rw [s37, ha3]
              · rw [r220 j k1 k2 k3, ha j k1 k2 k3]; exact R.2.1 j j1 j2 j3 j4
        · rw [ha (6 * i + j) (by omega) (by omega) (by omega), ha (6 * j + i) (by omega) (by omega) (by omega)]; exact v3 i j hi hj
        · rw [ha (6 * i + i) (by omega) (by omega) (by omega)]; exact v4 i hi
        · rw [h36] at hp
          rw [ha (40 + p) (by omega) (by omega) (by omega), ha (52 + p) (by omega) (by omega) (by omega), ha (64 + p) (by omega) (by omega) (by omega), ha (76 + p) (by omega) (by omega) (by omega), ha (88 + p) (by omega) (by omega) (by omega)]; exact v5 p hp
        · rw [h36] at p1
          rw [ha (76 + p) (by omega) (by omega) (by omega), ha (88 + p) (by omega) (by omega) (by omega), r220 (100 + p) (by omega) (by omega) (by omega)]; exact v6 p p1 p2
        · rw [ha3] at hi
          by_cases hin : i = n
          · subst hin
            rw [ha1, ha2]; omega
          · rw [ha (112 + i) (by omega) (by omega) (by omega), ha (120 + i) (by omega) (by omega) (by omega)]; exact v7 i (by omega)
        · rw [ha (128 + i) (by omega) (by omega) (by omega), ha (131 + i) (by omega) (by omega) (by omega), loadN_congr (b := a) h36 (fun p hp => ⟨ha _ (by omega) (by omega) (by omega), ha _ (by omega) (by omega) (by omega), ha _ (by omega) (by omega) (by omega)⟩) i]; exact v8 i hi
      have N' : notR σ4 := by
        obtain ⟨⟨n1, n2⟩, ⟨n3, n4⟩, ⟨t, t1, t2, t3, t4⟩, ⟨o, o1, o2, o3, o4⟩⟩ := N
        have u : ∀ i q, i = 0 ∨ (204 ≤ i ∧ i < 219) ∨ 222 ≤ i → σ4 i q = σ i q := fun i q hi => rs i q (by omega) (by omega) (by omega) (by omega) (by omega) (by omega) (by omega) (by omega)
        refine ⟨⟨?_, ?_⟩, ⟨?_, ?_⟩, ⟨t, t1, ?_, ?_, fun j hj => ?_⟩, ⟨o, o1, ?_, ?_, fun j hj => ?_⟩⟩
        · rw [u 0 7 (by omega), r219 8 (by omega)]; exact n1
        · rw [u 0 7 (by omega)]; exact n2
        · rw [u 0 8 (by omega), r219 9 (by omega)]; exact n3
        · rw [u 0 8 (by omega)]; exact n4
        · rw [u 204 2 (by omega)]; exact t2
        · rw [r219 7 (by omega)]; exact t3
        · rw [u 205 j (by omega), u 224 j (by omega)]; exact t4 j hj
        · rw [u 217 1 (by omega)]; exact o2
        · rw [r219 11 (by omega)]; exact o3
        · rw [u 218 j (by omega), u 225 j (by omega)]; exact o4 j hj
      obtain ⟨σ5, e5, i5, t5⟩ := mut_ok (σ4 := σ4) R Hh Sv (by rw [← hσ4, mset_same]) ((r219 3 (by omega)).trans g3) (by rw [← hσ4, ← hK]; simp (disch := omega) only [mset_ne1, mset_ne2, mset_same, cpR_o]) (by rw [← hσ4, ← hK]; simp (disch := omega) only [mset_ne1, mset_same, cpR_o]) (fun q hq => by rw [← hσ4]; simp (disch := omega) only [mset_ne1, cpR_i, k220]) (fun q => rs 222 q (by omega) (by omega) (by omega) (by omega) (by omega) (by omega) (by omega) (by omega)) (fun k o q p1 p2 p3 p4 => rs _ q (by omega) (by omega) (by omega) (by omega) (by omega) (by omega) (by omega) (by omega)) (blk_congr v1 (fun o q p1 _ _ _ => rd _ q (by omega) (by omega) (by omega) (by omega) (by omega) (by omega) (by omega)) (fun _ _ => rfl) hb) R' N' (rs 0 6 (by omega) (by omega) (by omega) (by omega) (by omega) (by omega) (by omega) (by omega)) (r219 5 (by omega)) (fun q => rs 223 q (by omega) (by omega) (by omega) (by omega) (by omega) (by omega) (by omega) (by omega)) (nI n)
      refine ⟨σ5, (nI n).toInt64, dd, ?_, i5⟩
      rw [e5, bd2_s, bd2_s, f_X13_thrown, t5, bd_s, if_pos rfl, if_pos rfl, lg_s, if_pos rfl]
  · have hW : ∀ τ : gM, f_X12_isWithin τ a1 1 3 = some 0 ∧ f_X13_in τ a1 1 3 = some 0 := hw
    refine ⟨cpR (mset (cpR σ1 220 0 221 0 134) 219 12 1) 221 0 220 0 134, lo, dd, ?_, fail_ok R N Hh Sv (hm 1)⟩
    rw [f_X3_addGlove, (hW _).1, bd_s, if_pos rfl, bd2_s, show f_X12_recorded σ1 (-3) = _ from rc_no 1 (by omega), bt2_r, bt2_r, if_pos rfl, bd4_s, e_begin, bd_s, f_X13_buys, (hW _).2, bd_s, if_pos rfl, f_X13_fails, nm_s, bd2_s, bd2_s, e_unkept (by rw [mset_same]; decide), bd2_s, bd2_s, f_X13_thrown, cpR_o (by decide), mset_same, bd_s, if_pos rfl, if_neg (by decide)]
