/-! a sack is carried -/
def dvB (a : Nat → Nat) (k d p : Nat) : Bool := decide (a (76 + p) = 1) && (decide (a (88 + p) = k) && decide (a (64 + p) = d))
theorem dvB_t {a : Nat → Nat} {k d p : Nat} : (dvB a k d p = true) = (a (76 + p) = 1 ∧ a (88 + p) = k ∧ a (64 + p) = d) := by
  unfold dvB; simp
/-- the row when the sack k has come to d and the first n parcels have been looked at -/
def cyA (a : Nat → Nat) (k d n : Nat) : Nat → Nat := fun j => if 76 ≤ j ∧ j < 76 + n ∧ dvB a k d (j - 76) = true then 2 else pt a (128 + k) d j
theorem cyA_n {a : Nat → Nat} {k d n j : Nat} (h : j < 76 ∨ 88 ≤ j) (h2 : j ≠ 128 + k) (hn : n ≤ 12) : cyA a k d n j = a j := by
  unfold cyA
  rw [if_neg (by omega), pt_n h2]
theorem cyA_k {a : Nat → Nat} {k d n : Nat} (hn : n ≤ 12) : cyA a k d n (128 + k) = d := by
  unfold cyA
  rw [if_neg (by omega), pt_s]
theorem cyA_p {a : Nat → Nat} {k d n p : Nat} (hp : p < 12) : cyA a k d n (76 + p) = if p < n ∧ dvB a k d p = true then 2 else a (76 + p) := by
  unfold cyA
  rw [show 76 + p - 76 = p by omega, pt_n (by omega)]
  by_cases h : p < n ∧ dvB a k d p = true
  · rw [if_pos ⟨by omega, by omega, h.2⟩, if_pos h]
  · rw [if_neg (fun q => h ⟨by omega, q.2.2⟩), if_neg h]
theorem cyA_0 {a : Nat → Nat} {k d : Nat} : cyA a k d 0 = pt a (128 + k) d := funext fun j => if_neg (by omega)
theorem cyA_s {a : Nat → Nat} {k d n : Nat} (hn : n < 12) : cyA a k d (n + 1) = if dvB a k d n = true then pt (cyA a k d n) (76 + n) 2 else cyA a k d n := by
  by_cases h : dvB a k d n = true
  · rw [if_pos h]
    funext j
    by_cases hj : j = 76 + n
    · subst hj
      rw [pt_s, cyA_p hn, if_pos ⟨by omega, h⟩]
    · rw [pt_n hj]
      unfold cyA
      by_cases c : 76 ≤ j ∧ j < 76 + n ∧ dvB a k d (j - 76) = true
      · rw [if_pos c, if_pos ⟨c.1, by omega, c.2.2⟩]
      · rw [if_neg c, if_neg (fun q => c ⟨q.1, by omega, q.2.2⟩)]
  · rw [if_neg h]
    funext j
    unfold cyA
    by_cases c : 76 ≤ j ∧ j < 76 + n ∧ dvB a k d (j - 76) = true
    · rw [if_pos c, if_pos ⟨c.1, by omega, c.2.2⟩]
    · rw [if_neg c, if_neg (fun q => c ⟨q.1, by
        by_cases e : j = 76 + n
        · subst e; rw [show 76 + n - 76 = n by omega] at q; exact absurd q.2.2 h
        · omega, q.2.2⟩)]
def dvN (a : Nat → Nat) (k d n : Nat) : Nat := sm (fun p => if dvB a k d p = true then 1 else 0) n
theorem dvN_le {a : Nat → Nat} {k d n : Nat} (hn : n ≤ 12) : dvN a k d n ≤ 12 := Nat.le_trans (sm_le (B := 1) (fun i _ => by split <;> omega)) (by omega)
theorem cy_V {e : Nat → Int32} {a : Nat → Nat} (V : vdR e a) {k d : Nat} (hk : k < 3) (hd : d ≤ 5) {x : Int32} : vdR (pe e 38 x) (cyA a k d (a 36)) := by
  obtain ⟨v1, v2, v3, v4, v5, v6, v7, v8⟩ := V
  have ha : ∀ j, j < 76 ∨ (88 ≤ j ∧ j < 128) ∨ 131 ≤ j → cyA a k d (a 36) j = a j := fun j hj => cyA_n (by omega) (by omega) v1
  have n36 := ha 36 (by omega)
  refine ⟨by omega, by rw [ha 37 (by omega)]; exact v2, fun p q hp hq => ?_, fun p hp => ?_, fun q hq => ?_, fun q q1 q2 => ?_, fun i hi => ?_, fun i hi => ?_⟩
  · rw [ha (6 * p + q) (by omega), ha (6 * q + p) (by omega)]; exact v3 p q hp hq
  · rw [ha _ (by omega)]; exact v4 p hp
  · rw [n36] at hq
    rw [ha (40 + q) (by omega), ha (52 + q) (by omega), ha (64 + q) (by omega), ha (88 + q) (by omega), cyA_p (by omega)]
    obtain ⟨w1, w2, w3, w4, w5, w6⟩ := v5 q hq
    exact ⟨w1, w2, w3, w4, by split <;> omega, w6⟩
  · rw [n36] at q1
    rw [ha (88 + q) (by omega), cyA_p (by omega), if_neg (by omega), pe_n (by omega)]; exact v6 q q1 q2
  · rw [ha 37 (by omega)] at hi
    rw [ha (112 + i) (by omega), ha (120 + i) (by omega)]; exact v7 i hi
  · rw [ha (131 + i) (by omega)]
    obtain ⟨w1, w2, w3, w4⟩ := v8 i hi
    refine ⟨?_, w2, w3, ?_⟩
    · by_cases h : i = k
      · subst h; rw [cyA_k v1]; exact hd
      · rw [cyA_n (by omega) (by omega) v1]; exact w1
    · refine Nat.le_trans ?_ w4
      unfold loadN
      rw [n36]
      refine sm_mon (fun q hq => ?_)
      rw [cyA_p (by omega), ha (88 + q) (by omega), ha (40 + q) (by omega)]
      by_cases c : q < a 36 ∧ dvB a k d q = true
      · rw [if_pos c, if_neg (by omega)]; exact Nat.zero_le _
      · rw [if_neg c]; exact Nat.le_refl _
theorem wh_2 {s k : Nat} (h : s = 2) : wh s k = -2 := by
  subst h; rfl
/-- the depot's deliveries -/
theorem d_deliver {τ : gM} {e : Nat → Int32} {a : Nat → Nat} (V : vdR e a) {k d : Nat} (hk : k < 3) (hd : d ≤ 5) (h5 : τ 7 5 = nI (a 36)) (h11 : ∀ p, p < a 36 → τ 11 p = wh (a (76 + p)) (a (88 + p))) (h10 : ∀ p, p < a 36 → τ 10 p = nI (a (64 + p))) : ∃ τ' : gM, f_X8_deliverFrom τ (nI k) (nI d) = some (nI (dvN a k d (a 36)), τ') ∧ (∀ j, j ≠ 11 → τ' j = τ j) ∧ ∀ p, p < a 36 → τ' 11 p = wh (cyA a k d (a 36) (76 + p)) (a (88 + p)) := by
  have h12 : a 36 ≤ 12 := V.1
  unfold f_X8_deliverFrom
  refine Exists.elim (loop_mex (F := fun n i (s : Int32 × gM) => f_X8_deliverFrom_L5 (nI k) (nI d) n s.1 i s.2) (N := a 36) (I := fun i s => s.1 = nI (dvN a k d i) ∧ (∀ j, j ≠ 11 → s.2 j = τ j) ∧ ∀ p, p < a 36 → s.2 11 p = wh (cyA a k d i (76 + p)) (a (88 + p))) (Q := fun r => ∃ τ' : gM, r = (nI (dvN a k d (a 36)), τ') ∧ (∀ j, j ≠ 11 → τ' j = τ j) ∧ ∀ p, p < a 36 → τ' 11 p = wh (cyA a k d (a 36) (76 + p)) (a (88 + p))) (by omega) (fun n i s hi hI => Or.inr ?_) (fun n s hI => ?_) (s := ((0 : Int32), τ)) ⟨rfl, fun _ _ => rfl, fun p hp => by rw [cyA_p (by omega), if_neg (by omega)]; exact h11 p hp⟩) ?_
  rotate_right
  · rintro r ⟨e1, τ', e2, e3, e4⟩
    refine ⟨τ', ?_, e3, e4⟩
    rw [show f_X8_deliverFrom_L5 (nI k) (nI d) gFU 0 0 τ = some r from e1, e2]; rfl
  · obtain ⟨c, s⟩ := s
    obtain ⟨rfl, s1, s2⟩ := hI
    have s1 : ∀ j, j ≠ 11 → s j = τ j := s1
    have s2 : ∀ p, p < a 36 → s 11 p = wh (cyA a k d i (76 + p)) (a (88 + p)) := s2
    obtain ⟨w1, w2, w3, w4, w5, w6⟩ := V.2.2.2.2.1 i hi
    have bn := dvN_le (a := a) (k := k) (d := d) (n := i) (by omega)
    have ei : cyA a k d i (76 + i) = a (76 + i) := by rw [cyA_p (by omega), if_neg (by omega)]
    have eN : dvN a k d (i + 1) = dvN a k d i + if dvB a k d i = true then 1 else 0 := rfl
    have keep : dvB a k d i ≠ true → nI (dvN a k d i) = nI (dvN a k d (i + 1)) ∧ (∀ j, j ≠ 11 → s j = τ j) ∧ ∀ p, p < a 36 → s 11 p = wh (cyA a k d (i + 1) (76 + p)) (a (88 + p)) := fun h => by
      refine ⟨by rw [eN, if_neg h, Nat.add_zero], s1, fun p hp => ?_⟩
      rw [cyA_s (by omega), if_neg h]; exact s2 p hp
    show ∃ s' : Int32 × gM, f_X8_deliverFrom_L5 (nI k) (nI d) (n + 1) (nI (dvN a k d i)) (nI i) s = f_X8_deliverFrom_L5 (nI k) (nI d) n s'.1 (nI (i + 1)) s'.2 ∧ _
    rw [f_X8_deliverFrom_L5, s1 7 (by decide), h5, if_neg (by rw [nI_leq (by omega) (by omega)]; omega)]
    simp (disch := omega) only [nI_gi, g_nIc, nm_s, nI_s]
    rw [s2 i hi, ei, s1 10 (by decide), h10 i hi]
    simp only [wh_eq w6 (show k ≤ 2 by omega)]
    simp (disch := omega) only [nI_inj]
    by_cases c1 : a (76 + i) = 1 ∧ a (88 + i) = k
    · rw [if_pos c1]
      by_cases c2 : a (64 + i) = d
      · have hB : dvB a k d i = true := by rw [dvB_t]; exact ⟨c1.1, c1.2, c2⟩
        refine ⟨(nI (dvN a k d i + 1), mset s 11 i (-2)), by rw [if_pos c2], by rw [eN, if_pos hB], fun j hj => funext fun q => (mset_ne1 _ _ hj).trans (congrFun (s1 j hj) q), fun p hp => ?_⟩
        show mset s 11 i (-2) 11 p = _
        rw [cyA_s (by omega), if_pos hB]
        by_cases h : p = i
        · subst h; rw [mset_same, pt_s]; rfl
        · rw [mset_ne2 _ _ h, pt_n (by omega)]; exact s2 p hp
      · exact ⟨(nI (dvN a k d i), s), by rw [if_neg c2], keep (by rw [ne_eq, dvB_t]; exact fun h => c2 h.2.2)⟩
    · exact ⟨(nI (dvN a k d i), s), by rw [if_neg c1], keep (by rw [ne_eq, dvB_t]; exact fun h => c1 ⟨h.1, h.2.1⟩)⟩
  · obtain ⟨c, s⟩ := s
    obtain ⟨rfl, s1, s2⟩ := hI
    have s1 : ∀ j, j ≠ 11 → s j = τ j := s1
    refine ⟨(nI (dvN a k d (a 36)), s), ?_, s, rfl, s1, s2⟩
    show f_X8_deliverFrom_L5 (nI k) (nI d) (n + 1) (nI (dvN a k d (a 36))) (nI (a 36)) s = _
    rw [f_X8_deliverFrom_L5, s1 7 (by decide), h5, if_pos (by rw [nI_leq (by omega) (by omega)]; omega)]
