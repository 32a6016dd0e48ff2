theorem blk_202 {τ τ' : gM} {e : Nat → Int32} {a : Nat → Nat} {k : Nat} (hk : k ≤ 10) (h12 : a 36 ≤ 12) (h : ∀ j, j ≠ 202 → τ' j = τ j) (B : blkR τ k e a) : blkR τ' k e a := blk_congr h12 (fun o q h1 h2 h3 h4 => by rw [h _ (by omega)]) (fun _ _ => rfl) B
theorem gr_le {w1 w2 w3 u1 u2 u3 t t2 t3 r r3 x : Nat} (a1 : t ≤ u1) (a2 : t ≤ w1) (a3 : t = u1 ∨ t = w1) (b1 : t2 ≤ u2) (b2 : t + t2 ≤ w1) (b3 : t2 = u2 ∨ t + t2 = w1) (c1 : t3 ≤ u3) (c2 : t + t2 + t3 ≤ w1) (c3 : t3 = u3 ∨ t + t2 + t3 = w1) (d1 : t2 + r ≤ u2) (d2 : r ≤ w2) (d3 : t2 + r = u2 ∨ r = w2) (e1 : t3 + r3 ≤ u3) (e2 : r + r3 ≤ w2) (e3 : t3 + r3 = u3 ∨ r + r3 = w2) (f1 : t3 + r3 + x ≤ u3) (f2 : x ≤ w3) (f3 : t3 + r3 + x = u3 ∨ x = w3) :
    t + t2 + t3 + r + r3 + x = w1 + w2 + w3 ∨ t + t2 + t3 + r + r3 + x = u1 + u2 + u3 ∨ t + t2 + t3 + r + r3 + x = w1 + u2 + u3 ∨ t + t2 + t3 + r + r3 + x = w1 + w2 + u3 := by
  rcases a3 with a3 | a3 <;> rcases b3 with b3 | b3 <;> rcases c3 with c3 | c3 <;> rcases d3 with d3 | d3 <;> rcases e3 with e3 | e3 <;> rcases f3 with f3 | f3 <;> first | exact Or.inl (by omega) | exact Or.inr (Or.inl (by omega)) | exact Or.inr (Or.inr (Or.inl (by omega))) | exact Or.inr (Or.inr (Or.inr (by omega)))
theorem gr_eq {w1 w2 w3 u1 u2 u3 t t2 t3 r r3 x : Nat} {M : Int} (p1 : mnP t u1 w1) (p2 : mnP t2 u2 (w1 - t)) (p3 : mnP t3 u3 (w1 - t - t2)) (q1 : mnP r (u2 - t2) w2) (q2 : mnP r3 (u3 - t3) (w2 - r)) (y : mnP x (u3 - t3 - r3) w3)
    (m0 : 0 ≤ M) (m1 : (w1 : Int) + w2 + w3 - (u1 + u2 + u3) ≤ M) (m2 : (w2 : Int) + w3 - (u2 + u3) ≤ M) (m3 : (w3 : Int) - u3 ≤ M) (mm : M = 0 ∨ M = (w1 : Int) + w2 + w3 - (u1 + u2 + u3) ∨ M = (w2 : Int) + w3 - (u2 + u3) ∨ M = (w3 : Int) - u3) : ((t + t2 + t3 + r + r3 + x : Nat) : Int) = (w1 : Int) + w2 + w3 - M := by
  obtain ⟨a1, a2, a3⟩ := p1
  obtain ⟨b1, b2, b3⟩ := p2
  obtain ⟨c1, c2, c3⟩ := p3
  obtain ⟨d1, d2, d3⟩ := q1
  obtain ⟨e1, e2, e3⟩ := q2
  obtain ⟨f1, f2, f3⟩ := y
  have b2' : t + t2 ≤ w1 := by omega
  have b3' : t2 = u2 ∨ t + t2 = w1 := by
    rcases b3 with q | q
    · exact Or.inl q
    · exact Or.inr (by omega)
  have c2' : t + t2 + t3 ≤ w1 := by omega
  have c3' : t3 = u3 ∨ t + t2 + t3 = w1 := by
    rcases c3 with q | q
    · exact Or.inl q
    · exact Or.inr (by omega)
  have d1' : t2 + r ≤ u2 := by omega
  have d3' : t2 + r = u2 ∨ r = w2 := by
    rcases d3 with q | q
    · exact Or.inl (by omega)
    · exact Or.inr q
  have e1' : t3 + r3 ≤ u3 := by omega
  have e2' : r + r3 ≤ w2 := by omega
  have e3' : t3 + r3 = u3 ∨ r + r3 = w2 := by
    rcases e3 with q | q
    · exact Or.inl (by omega)
    · exact Or.inr (by omega)
  have f1' : t3 + r3 + x ≤ u3 := by omega
  have f3' : t3 + r3 + x = u3 ∨ x = w3 := by
    rcases f3 with q | q
    · exact Or.inl (by omega)
    · exact Or.inr q
  have key := gr_le a1 a2 a3 b1 b2' b3' c1 c2' c3' d1' d2 d3' e1' e2' e3' f1' f2 f3'
  clear a3 b3 c3 d3 e3 f3 b3' c3' d3' e3' f3' b2 c2 d1 e1 e2 f1
  -- the other side is linear
  have l0 : t + t2 + t3 + r + r3 + x ≤ w1 + w2 + w3 := by omega
  have l1 : t + t2 + t3 + r + r3 + x ≤ u1 + u2 + u3 := by omega
  have l2 : t + t2 + t3 + r + r3 + x ≤ w1 + u2 + u3 := by omega
  have l3 : t + t2 + t3 + r + r3 + x ≤ w1 + w2 + u3 := by omega
  clear a1 a2 b1 b2' c1 c2' d1' d2 e1' e2' f1' f2
  rcases mm with q | q | q | q <;> rcases key with k | k | k | k <;> omega
theorem d_greedy {τ : gM} {e : Nat → Int32} {a : Nat → Nat} (B : blkR τ 0 e a) (V : vdR e a) : ∃ τ' : gM, f_X4_handledGreedily τ = some (iI ((waN a : Int) - lfI a), τ') ∧ ∀ j, j ≠ 202 → τ' j = τ j := by
  have h12 : a 36 ≤ 12 := V.1
  have u1 := ugN_le V 1
  have u2 := ugN_le V 2
  have u3 := ugN_le V 3
  have w0 := wtN_le V 0
  have w1 := wtN_le V 1
  have w2 := wtN_le V 2
  have w3 := wtN_le V 3
  obtain ⟨m, hm⟩ := gFU_8
  have s2 : ∀ (n h : Nat) (σ : gM), h ≤ 3 → (∀ j, j ≠ 202 → σ j = τ j) → f_X4_handledGreedily_L2 (n + 1) (nI h) σ = f_X4_handledGreedily_L2 n (nI (h + 1)) (mset σ 202 h (nI (ugN a h))) := by
    intro n h σ hh ho
    rw [f_X4_handledGreedily_L2, if_neg (by rw [show (3 : Int32) = nI 3 from rfl, nI_ltq (by omega) (by omega)]; omega), d_uses (blk_202 (by omega) h12 ho B) V hh, bd_s]
    simp (disch := omega) only [nI_gi, g_nIc, nm_s, nI_s]
  have e8 : f_X4_handledGreedily_L2 gFU 1 τ = some (mset (mset (mset τ 202 1 (nI (ugN a 1))) 202 2 (nI (ugN a 2))) 202 3 (nI (ugN a 3))) := by
    rw [hm, show (1 : Int32) = nI 1 from rfl, s2 (m + 7) 1 _ (by omega) (fun _ _ => rfl), s2 (m + 6) 2 _ (by omega) (fun j hj => funext fun q => mset_ne1 _ _ hj), s2 (m + 5) 3 _ (by omega) (fun j hj => funext fun q => by rw [mset_ne1 _ _ hj, mset_ne1 _ _ hj]), f_X4_handledGreedily_L2, if_pos (by decide)]
  generalize h8 : mset (mset (mset τ 202 1 (nI (ugN a 1))) 202 2 (nI (ugN a 2))) 202 3 (nI (ugN a 3)) = σ8 at e8
  have o8 : ∀ j, j ≠ 202 → σ8 j = τ j := fun j hj => funext fun q => by rw [← h8, mset_ne1 _ _ hj, mset_ne1 _ _ hj, mset_ne1 _ _ hj]
  have c1 : σ8 202 1 = nI (ugN a 1) := by rw [← h8, mset_ne2 _ _ (by decide), mset_ne2 _ _ (by decide), mset_same]
  have c2 : σ8 202 2 = nI (ugN a 2) := by rw [← h8, mset_ne2 _ _ (by decide), mset_same]
  have c3 : σ8 202 3 = nI (ugN a 3) := by rw [← h8, mset_same]
  have B8 : blkR σ8 0 e a := blk_202 (by omega) h12 o8 B
  obtain ⟨t, t2, t3, σ1, p1, p2, p3, f1, o1, d2, d3⟩ := ho_1 c1 c2 c3 u1 u2 u3 w1
  have B1 : blkR σ1 0 e a := blk_202 (by omega) h12 o1 B8
  obtain ⟨r, r3, σ2, q1, q2, f2, o2, g3⟩ := ho_2 d2 d3 (by omega) (by omega) w2
  have B2 : blkR σ2 0 e a := blk_202 (by omega) h12 o2 B1
  obtain ⟨x, σ3, y1, f3, o3⟩ := ho_3 g3 (by omega) w3
  refine ⟨σ3, ?_, fun j hj => by rw [o3 j hj, o2 j hj, o1 j hj, o8 j hj]⟩
  unfold f_X4_handledGreedily
  have pp1 := p1.2.1
  have pp2 := p2.2.1
  have pp3 := p3.2.1
  have qq1 := q1.2.1
  have qq2 := q2.2.1
  have yy1 := y1.2.1
  have hL : f_X4_handledGreedily_L38 gFU (nI (wtN a 0)) 1 σ8 = some (nI (wtN a 0 + (t + t2 + t3) + (r + r3) + x), σ3) := by
    rw [hm, show (1 : Int32) = nI 1 from rfl, f_X4_handledGreedily_L38, if_neg (by decide), d_waitH B8 V (by omega), bd_s, f1, bd2_s, nm_s, nm_s, nI_al (by omega), nI_s (by omega), f_X4_handledGreedily_L38, if_neg (by decide), d_waitH B1 V (by omega), bd_s, f2, bd2_s, nm_s, nm_s, nI_al (by omega), nI_s (by omega), f_X4_handledGreedily_L38, if_neg (by decide), d_waitH B2 V (by omega), bd_s, f3, bd2_s, nm_s, nm_s, nI_al (by omega), nI_s (by omega), f_X4_handledGreedily_L38, if_pos (by decide)]
  rw [e8, bd_s, show f_X8_waitingOfHazard σ8 0 = _ from d_waitH (h := 0) B8 V (by omega), bd_s, hL, bd2_s, nI_iI]
  congr 3
  have g3' := wg_3 V
  have g2 : wgN a 2 = wtN a 2 + wgN a 3 := wg_s 2
  have g1 : wgN a 1 = wtN a 1 + wgN a 2 := wg_s 1
  have g0 : wgN a 0 = wtN a 0 + wgN a 1 := wg_s 0
  have gw := wa_0 (a := a)
  have k3 := us_3 V
  have k2 : usN a 2 = ugN a 2 + usN a 3 := us_s 2
  have k1 : usN a 1 = ugN a 1 + usN a 2 := us_s 1
  have n1 := mxI_p 0 (shI a 1)
  have n2 := mxI_p (mxI 0 (shI a 1)) (shI a 2)
  have n3 := mxI_p (mxI (mxI 0 (shI a 1)) (shI a 2)) (shI a 3)
  have z1 : shI a 1 = (wtN a 1 : Int) + wtN a 2 + wtN a 3 - (ugN a 1 + ugN a 2 + ugN a 3) := by unfold shI; omega
  have z2 : shI a 2 = (wtN a 2 : Int) + wtN a 3 - (ugN a 2 + ugN a 3) := by unfold shI; omega
  have z3 : shI a 3 = (wtN a 3 : Int) - ugN a 3 := by unfold shI; omega
  have zl : lfI a = mxI (mxI (mxI 0 (shI a 1)) (shI a 2)) (shI a 3) := rfl
  have zm : lfI a = 0 ∨ lfI a = shI a 1 ∨ lfI a = shI a 2 ∨ lfI a = shI a 3 := by
    rw [zl]
    rcases n3.2.2 with q | q
    · rcases n2.2.2 with q2 | q2
      · rcases n1.2.2 with q3 | q3
        · exact Or.inl (by rw [q, q2, q3])
        · exact Or.inr (Or.inl (by rw [q, q2, q3]))
      · exact Or.inr (Or.inr (Or.inl (by rw [q, q2])))
    · exact Or.inr (Or.inr (Or.inr q))
  have y0 : 0 ≤ lfI a := (lf_b V).1
  have y1' : shI a 1 ≤ lfI a := by rw [zl]; exact Int.le_trans n1.2.1 (Int.le_trans n2.1 n3.1)
  have y2' : shI a 2 ≤ lfI a := by rw [zl]; exact Int.le_trans n2.2.1 n3.1
  have y3' : shI a 3 ≤ lfI a := by rw [zl]; exact n3.2.1
  rw [z1] at y1' zm
  rw [z2] at y2' zm
  rw [z3] at y3' zm
  have G := gr_eq (M := lfI a) p1 p2 p3 q1 q2 y1 y0 y1' y2' y3' zm
  have W : waN a = wtN a 0 + wtN a 1 + wtN a 2 + wtN a 3 := by omega
  clear p1 p2 p3 q1 q2 y1 n1 n2 n3 z1 z2 z3 zl zm y0 y1' y2' y3' g0 g1 g2 g3' gw k1 k2 k3
  omega
