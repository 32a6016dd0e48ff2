theorem d_weightAt {σ : gM} {e : Nat → Int32} {a : Nat → Nat} (B : blkR σ 0 e a) (V : vdR e a) {w : Nat} (hw : w ≤ 2) : f_X8_weightAt σ (nI w) = some (nI (loadN a w)) := by
  obtain ⟨-, -, hn, hp, -⟩ := B
  obtain ⟨v1, -, -, -, v5, -⟩ := V
  unfold f_X8_weightAt
  rw [show f_X8_weightAt_L4 (nI w) σ gFU 0 0 = some (nI (loadN a w)) from
    loop_sum (F := fun n i v => f_X8_weightAt_L4 (nI w) σ n v i) (fin := fun v => v) (by omega) (Nat.le_trans (sm_le (B := 20) (fun i hi => ?_)) (by omega)) (fun n i v hi => ?_) (fun n v => ?_)]
  · rfl
  · have := v5 i hi
    split <;> omega
  · obtain ⟨p1, p2, p3, p4, p5⟩ := hp i hi
    obtain ⟨q1, q2, q3, q4, q5, q6⟩ := v5 i hi
    rw [f_X8_weightAt_L4, show σ 7 5 = nI (a 36) from hn]
    simp (disch := omega) only [nI_leq, if_neg, nI_gi, g_nIc, nm_s, nI_s]
    rw [show σ 11 i = _ from p4, show σ 8 i = _ from p1]
    simp only [wh_eq q6 hw]
    by_cases hc : a (76 + i) = 1 ∧ a (88 + i) = w
    · rw [if_pos hc, if_pos hc]
    · rw [if_neg hc, if_neg hc, nI_add0]
  · rw [f_X8_weightAt_L4, show σ 7 5 = nI (a 36) from hn, if_pos (by rw [nI_leq (by omega) (by omega)]; omega)]
theorem m_loadOf {σ : gM} {e : Nat → Int32} {a : Nat → Nat} (hr : rowR (σ 220) a) (V : vdR e a) {w : Nat} (hw : w ≤ 2) : f_X13_loadOf σ (nI w) = some (nI (loadN a w)) := by
  obtain ⟨v1, -, -, -, v5, -⟩ := V
  unfold f_X13_loadOf
  rw [show f_X13_loadOf_L4 (nI w) σ gFU 0 0 = some (nI (loadN a w)) from
    loop_sum (F := fun n i v => f_X13_loadOf_L4 (nI w) σ n v i) (fin := fun v => v) (by omega) (Nat.le_trans (sm_le (B := 20) (fun i hi => ?_)) (by omega)) (fun n i v hi => ?_) (fun n v => ?_)]
  · rfl
  · have := v5 i hi
    split <;> omega
  · obtain ⟨q1, q2, q3, q4, q5, q6⟩ := v5 i hi
    rw [f_X13_loadOf_L4, hr 36 (by omega) (by omega) (by omega) (by omega)]
    rw [show (76 : Int32) + nI i = nI (76 + i) from nI_al (k := 76) (by omega), show (88 : Int32) + nI i = nI (88 + i) from nI_al (k := 88) (by omega), show (40 : Int32) + nI i = nI (40 + i) from nI_al (k := 40) (by omega)]
    simp (disch := omega) only [nI_leq, if_neg, nI_gi, g_nIc, nm_s, nI_s]
    rw [hr (76 + i) (by omega) (by omega) (by omega) (by omega), hr (88 + i) (by omega) (by omega) (by omega) (by omega), hr (40 + i) (by omega) (by omega) (by omega) (by omega), nI_1']
    simp (disch := omega) only [nI_inj]
    by_cases h1 : a (76 + i) = 1
    · by_cases h2 : a (88 + i) = w
      · rw [if_pos h1, if_pos h2, if_pos ⟨h1, h2⟩]
      · rw [if_pos h1, if_neg h2, if_neg (fun h => h2 h.2)]; rfl
    · rw [if_neg h1, if_neg (fun h => h1 h.1)]; rfl
  · rw [f_X13_loadOf_L4, hr 36 (by omega) (by omega) (by omega) (by omega), if_pos (by rw [nI_leq (by omega) (by omega)]; omega)]
def pt (a : Nat → Nat) (j x : Nat) : Nat → Nat := fun i => if i = j then x else a i
theorem pt_s {a : Nat → Nat} {j x : Nat} : pt a j x j = x := if_pos rfl
theorem pt_n {a : Nat → Nat} {j x i : Nat} (h : i ≠ j) : pt a j x i = a i := if_neg h
theorem sk_ok {τ : gM} {k : Nat} (h : k < 3) : f_X12_isIndex τ (nI k) 3 = some 1 ∧ f_X13_isSack τ (nI k) = some 1 := ⟨ix_ok (N := 3) h (by omega), (ss_ok h).2⟩
theorem sk_no {τ : gM} {x : Int32} (h : ¬ vp_in x 3) : f_X12_isIndex τ x 3 = some 0 ∧ f_X13_isSack τ x = some 0 := ⟨ix_no (N := 3) h (by omega), (ss_no h).2⟩
theorem e_th (τ : gM) (x : Int32) : f_X13_fails τ x = some (0, mset τ 219 12 x) := rfl
theorem cap_ok {e : Nat → Int32} {a : Nat → Nat} (V : vdR e a) {k q : Nat} (hk : k < 3) (h1 : 1 ≤ q) (h2 : q ≤ 60) (hl : loadN a k ≤ q) :
    okD (fun τ => f_X3_changeCapacity τ (nI k) (nI q)) e a (nI (a (131 + k))) e (pt a (131 + k) q) ∧ okM (fun τ => f_X13_limits τ (nI k) (nI q)) e a (nI (a (131 + k))) e (pt a (131 + k) q) ∧ vdR e (pt a (131 + k) q) := by
  have hll : loadN a k ≤ 4096 := by omega
  have n36 : pt a (131 + k) q 36 = a 36 := pt_n (by omega)
  have n37 : pt a (131 + k) q 37 = a 37 := pt_n (by omega)
  obtain ⟨v1, v2, v3, v4, v5, v6, v7, v8⟩ := id V
  refine ⟨fun τ B => ?_, fun τ hr => ?_, ⟨by omega, by omega, fun i j hi hj => ?_, fun i hi => ?_, fun p hp => ?_, fun p p1 p2 => ?_, fun i hi => ?_, fun i hi => ?_⟩⟩
  · obtain ⟨b1, b2, b3, b4, b5, b6, b7, b8, b9⟩ := id B
    refine ⟨mset τ 18 k (nI q), ?_, fun i hi => funext fun z => mset_ne1 _ _ (by omega), ?_⟩
    · show f_X3_changeCapacity τ (nI k) (nI q) = _
      unfold f_X3_changeCapacity
      rw [(sk_ok hk).1, bd_s, if_neg (by decide), show f_X12_isWithin τ (nI q) 1 60 = _ from (wi_ok (lo := 1) (hi := 60) h1 h2 (by omega)).1, bd_s, if_neg (by decide), d_weightAt B V (by omega), bd_s, if_pos (by rw [nI_leq hll (by omega)]; exact hl), f_X11_resize, nI_gi (by omega) (by omega), g_nIc (by omega), nm_s, nI_gi (by omega) (by omega), nm_s, bd2_s, show τ 18 k = _ from (b9 k hk).2]
    · have rd : ∀ i z, i ≠ 18 → mset τ 18 k (nI q) i z = τ i z := fun i z hi => mset_ne1 _ _ hi
      refine ⟨fun i hi => ?_, ?_, ?_, fun p hp => ?_, ?_, ?_, fun i hi => ?_, ?_, fun i hi => ?_⟩
      · rw [pt_n (by omega)]; exact (rd 3 i (by decide)).trans (b1 i hi)
      · rw [roadsN_congr (b := a) (fun j hj => pt_n (by omega))]; exact (rd 2 4 (by decide)).trans b2
      · rw [n36]; exact (rd 7 5 (by decide)).trans b3
      · rw [n36] at hp
        obtain ⟨p1, p2, p3, p4, p5⟩ := b4 p hp
        rw [pt_n (by omega), pt_n (by omega), pt_n (by omega), pt_n (by omega), pt_n (by omega)]
        exact ⟨(rd 8 p (by decide)).trans p1, (rd 9 p (by decide)).trans p2, (rd 10 p (by decide)).trans p3, (rd 11 p (by decide)).trans p4, (rd 12 p (by decide)).trans p5⟩
      · rw [n37]; exact (rd 13 2 (by decide)).trans b5
      · exact (rd 13 3 (by decide)).trans b6
      · rw [n37] at hi
        rw [pt_n (by omega), pt_n (by omega)]
        exact ⟨(rd 14 i (by decide)).trans (b7 i hi).1, (rd 15 i (by decide)).trans (b7 i hi).2⟩
      · exact (rd 16 2 (by decide)).trans b8
      · rw [pt_n (by omega)]
        refine ⟨(rd 17 i (by decide)).trans (b9 i hi).1, ?_⟩
        by_cases hik : i = k
        · subst hik
          rw [pt_s]; exact mset_same _ _ _ _
        · rw [pt_n (by omega)]; exact (mset_ne2 _ _ hik).trans (b9 i hi).2
  · obtain ⟨hr, he⟩ := hr
    have e3 : τ 220 (131 + k) = nI (a (131 + k)) := hr _ (by omega) (by omega) (by omega) (by omega)
    refine ⟨mset (mset τ 220 (131 + k) (nI q)) 219 12 0, ?_, fun i z p1 p2 p3 => ?_, mset_same _ _ _ _, fun j j1 j2 j3 j4 => ?_, fun j j1 j2 => ?_⟩
    · show f_X13_limits τ (nI k) (nI q) = _
      unfold f_X13_limits
      rw [(sk_ok hk).2, bd_s, if_neg (by decide), show f_X13_in τ (nI q) 1 60 = _ from (wi_ok (lo := 1) (hi := 60) h1 h2 (by omega)).2, bd_s, if_neg (by decide), m_loadOf hr V (by omega), bd_s, if_pos (by rw [nI_leq hll (by omega)]; exact hl), show (131 : Int32) + nI k = nI (131 + k) from nI_al (k := 131) (by omega), nI_gi (by omega) (by omega), g_nIc (by omega), nm_s, nI_gi (by omega) (by omega), nm_s, f_X13_done, nm_s, bd2_s, e3]
    · by_cases h9 : i = 219
      · subst h9
        rw [mset_ne2 _ _ (fun e => p3 ⟨rfl, e⟩), mset_ne1 _ _ p1]
      · rw [mset_ne1 _ _ h9, mset_ne1 _ _ p1]
    · rw [mset_ne1 _ _ (by decide)]
      by_cases hj : j = 131 + k
      · subst hj; rw [mset_same, pt_s]
      · rw [mset_ne2 _ _ hj, pt_n hj]; exact hr j j1 j2 j3 j4
    · rw [mset_ne1 _ _ (by decide), mset_ne2 _ _ (by omega)]; exact he j j1 j2
  · rw [pt_n (by omega), pt_n (by omega)]; exact v3 i j hi hj
  · rw [pt_n (by omega)]; exact v4 i hi
  · rw [n36] at hp
    rw [pt_n (by omega), pt_n (by omega), pt_n (by omega), pt_n (by omega), pt_n (by omega)]; exact v5 p hp
  · rw [n36] at p1
    rw [pt_n (by omega), pt_n (by omega)]; exact v6 p p1 p2
  · rw [n37] at hi
    rw [pt_n (by omega), pt_n (by omega)]; exact v7 i hi
  · rw [pt_n (by omega), loadN_congr (b := a) n36 (fun p hp => ⟨pt_n (by omega), pt_n (by omega), pt_n (by omega)⟩) i]
    by_cases hik : i = k
    · subst hik
      rw [pt_s]; exact ⟨(v8 i hi).1, h1, h2, hl⟩
    · rw [pt_n (by omega)]; exact v8 i hi
theorem thr {τ : gM} {i q : Nat} {x : Int32} (h : ¬ (i = 219 ∧ q = 12)) : mset τ 219 12 x i q = τ i q := by
  by_cases h9 : i = 219
  · subst h9; exact mset_ne2 _ _ (fun e => h ⟨rfl, e⟩)
  · exact mset_ne1 _ _ h9
theorem k_T_3 : turnOk f_T_3 := by
  intro σ lo dd a1 a2 a3 I
  obtain ⟨a, c, nx, R, N, Hh, Sv⟩ := I
  have V := R.2.2
  show invOk (bd4 (bt2 (fD (fun τ => f_X3_changeCapacity τ a1 a2) σ) (fun r σ1 => some (0, σ1, r.toInt64, dd)) (fun n σ1 => if n = 0 then some (1, σ1, lo, dd) else if n = 1 then some (2, σ1, lo, dd) else if n = 2 then some (3, σ1, lo, dd) else none)) fun r1 σ2 lo3 dd4 => bd2 (fM (fun τ => f_X13_limits τ a1 a2) σ2) fun r6 σ8 => bd (f_X13_thrown σ8) fun r9 => if r9 = r1 then if r1 = 0 then if (lg_cmp lo3 r6.toInt64) = 0 then some (σ8, lo3, dd4) else none else some (σ8, lo3, dd4) else none)
  have no : ∀ (n : Nat) (m : Int32), n ≤ 2 → m = nI (n + 1) → noD (fun τ => f_X3_changeCapacity τ a1 a2) (σ 220) a n → noM (fun τ => f_X13_limits τ a1 a2) (σ 220) a m → invOk (bd4 (bt2 (fD (fun τ => f_X3_changeCapacity τ a1 a2) σ) (fun r σ1 => some (0, σ1, r.toInt64, dd)) (fun n σ1 => if n = 0 then some (1, σ1, lo, dd) else if n = 1 then some (2, σ1, lo, dd) else if n = 2 then some (3, σ1, lo, dd) else none)) fun r1 σ2 lo3 dd4 => bd2 (fM (fun τ => f_X13_limits τ a1 a2) σ2) fun r6 σ8 => bd (f_X13_thrown σ8) fun r9 => if r9 = r1 then if r1 = 0 then if (lg_cmp lo3 r6.toInt64) = 0 then some (σ8, lo3, dd4) else none else some (σ8, lo3, dd4) else none) := by
    intro n m hn hm hD hM
    subst hm
    have hz : ¬ nI (n + 1) = 0 := by rw [show (0 : Int32) = nI 0 from rfl, nI_inj (by omega) (by omega)]; omega
    obtain ⟨K, σ5, p1, p2, p3, p4⟩ := chg_no (n := n) R N Hh Sv (by omega) hz hD hM
    refine ⟨σ5, lo, dd, ?_, p4⟩
    rw [p1, bt2_r]
    rcases (show n = 0 ∨ n = 1 ∨ n = 2 by omega) with rfl | rfl | rfl
    · rw [if_pos rfl, bd4_s, p2, bd2_s, f_X13_thrown, p3, bd_s, if_pos (by decide), if_neg (by decide)]
    · rw [if_neg (by decide), if_pos rfl, bd4_s, p2, bd2_s, f_X13_thrown, p3, bd_s, if_pos (by decide), if_neg (by decide)]
    · rw [if_neg (by decide), if_neg (by decide), if_pos rfl, bd4_s, p2, bd2_s, f_X13_thrown, p3, bd_s, if_pos (by decide), if_neg (by decide)]
  by_cases h : vp_in a1 3
  · obtain ⟨k, hk, rfl⟩ := vp_ex h
    rcases wi_no (x := a2) (lo := 1) (hi := 60) (by omega) (by omega) with ⟨q, w1, w2, rfl⟩ | hw
    · have hb := (V.2.2.2.2.2.2.2 k hk).2.2
      by_cases hl : loadN a k ≤ q
      · obtain ⟨c1, c2, c3⟩ := cap_ok V hk w1 w2 hl
        obtain ⟨K, σ5, p1, p2, p3, p4⟩ := chg_ok R N Hh Sv (nI_ge0 (j := a (131 + k)) (by omega)) c1 c2 c3
        refine ⟨σ5, (nI (a (131 + k))).toInt64, dd, ?_, p4⟩
        rw [p1, bt2_l, bd4_s, p2, bd2_s, f_X13_thrown, p3, bd_s, if_pos rfl, if_pos rfl, lg_s, if_pos rfl]
      · refine no 2 3 (by omega) rfl (fun τ B => ⟨τ, ?_, fun _ _ _ _ => rfl⟩) (fun τ hr => ⟨0, mset τ 219 12 3, ?_, fun i z _ p => thr p, mset_same _ _ _ _⟩)
        · show f_X3_changeCapacity τ (nI k) (nI q) = _
          unfold f_X3_changeCapacity
          rw [(sk_ok hk).1, bd_s, if_neg (by decide), show f_X12_isWithin τ (nI q) 1 60 = _ from (wi_ok (lo := 1) (hi := 60) w1 w2 (by omega)).1, bd_s, if_neg (by decide), d_weightAt B V (by omega), bd_s, if_neg (by rw [nI_leq (by omega) (by omega)]; exact hl)]; rfl
        · show f_X13_limits τ (nI k) (nI q) = _
          unfold f_X13_limits
          rw [(sk_ok hk).2, bd_s, if_neg (by decide), show f_X13_in τ (nI q) 1 60 = _ from (wi_ok (lo := 1) (hi := 60) w1 w2 (by omega)).2, bd_s, if_neg (by decide), m_loadOf hr.1 V (by omega), bd_s, if_neg (by rw [nI_leq (by omega) (by omega)]; exact hl)]; rfl
    · refine no 1 2 (by omega) rfl (fun τ B => ⟨τ, ?_, fun _ _ _ _ => rfl⟩) (fun τ hr => ⟨0, mset τ 219 12 2, ?_, fun i z _ p => thr p, mset_same _ _ _ _⟩)
      · show f_X3_changeCapacity τ (nI k) a2 = _
        unfold f_X3_changeCapacity
        rw [(sk_ok hk).1, bd_s, if_neg (by decide), show f_X12_isWithin τ a2 1 60 = _ from (hw τ).1, bd_s, if_pos rfl]; rfl
      · show f_X13_limits τ (nI k) a2 = _
        unfold f_X13_limits
        rw [(sk_ok hk).2, bd_s, if_neg (by decide), show f_X13_in τ a2 1 60 = _ from (hw τ).2, bd_s, if_pos rfl]; rfl
  · refine no 0 1 (by omega) rfl (fun τ B => ⟨τ, ?_, fun _ _ _ _ => rfl⟩) (fun τ hr => ⟨0, mset τ 219 12 1, ?_, fun i z _ p => thr p, mset_same _ _ _ _⟩)
    · show f_X3_changeCapacity τ a1 a2 = _
      unfold f_X3_changeCapacity
      rw [(sk_no h).1, bd_s, if_pos rfl]; rfl
    · show f_X13_limits τ a1 a2 = _
      unfold f_X13_limits
      rw [(sk_no h).2, bd_s, if_pos rfl]; rfl
