/-! loops over any state, with a way out -/
theorem loop_mex {α β : Type} {F : Nat → Int32 → α → Option β} {N : Nat} {I : Nat → α → Prop} {Q : β → Prop} (hN : N < 4000)
    (hs : ∀ n i s, i < N → I i s → (∃ r, F (n + 1) (nI i) s = some r ∧ Q r) ∨ ∃ s', F (n + 1) (nI i) s = F n (nI (i + 1)) s' ∧ I (i + 1) s') (he : ∀ n s, I N s → ∃ r, F (n + 1) (nI N) s = some r ∧ Q r) {s : α} (h0 : I 0 s) : ∃ r, F gFU 0 s = some r ∧ Q r := by
  have key : ∀ k i n s, i + k = N → k < n → I i s → ∃ r, F n (nI i) s = some r ∧ Q r := by
    intro k
    induction k with
    | zero =>
      intro i n s hi hn h
      obtain ⟨m, rfl⟩ : ∃ m, n = m + 1 := ⟨n - 1, by omega⟩
      have hi : i = N := by omega
      subst hi
      exact he m s h
    | succ k ih =>
      intro i n s hi hn h
      obtain ⟨m, rfl⟩ : ∃ m, n = m + 1 := ⟨n - 1, by omega⟩
      rcases hs m i s (by omega) h with q | ⟨s', q1, q2⟩
      · exact q
      · rw [q1]
        exact ih (i + 1) m s' (by omega) (by omega) q2
  exact key N 0 gFU s (by omega) (by rw [gFU_eq]; omega) h0
/-- -1 for what is not reached -/
def oD (x : Nat) : Int32 := if x = 1000 then -1 else nI x
theorem oD_eq {x : Nat} (h : x ≤ 4096) : (oD x = -1) = (x = 1000) := by
  unfold oD
  by_cases h0 : x = 1000
  · simp [h0]
  · rw [if_neg h0]
    refine propext ⟨fun e => ?_, fun e => absurd e h0⟩
    have h2 := congrArg Int32.toInt e
    rw [g_nIt h] at h2
    have : ((-1 : Int32)).toInt = -1 := by decide
    omega
theorem oD_n {x : Nat} (h : x ≠ 1000) : oD x = nI x := if_neg h
def rdsR (τ : gM) (a : Nat → Nat) : Prop := (∀ i, i < 36 → τ 3 i = nI (a i)) ∧ (∀ i j, i < 6 → j < 6 → a (6 * i + j) ≤ 20) ∧ ∀ i, i < 6 → a (6 * i + i) = 0
theorem rds_of {τ : gM} {e : Nat → Int32} {a : Nat → Nat} (B : blkR τ 0 e a) (V : vdR e a) : rdsR τ a := ⟨B.1, fun i j hi hj => (V.2.2.1 i j hi hj).1, V.2.2.2.1⟩
/-- the nearest unsettled place of the first n: 0 for none -/
def nOp (d t : Nat → Nat) : Nat → Nat
  | 0 => 0
  | i + 1 => if d i = 1000 then nOp d t i else if t i = 0 then (if nOp d t i = 0 then i + 1 else if d (nOp d t i - 1) ≤ d i then nOp d t i else i + 1) else nOp d t i
theorem nOp_le (d t : Nat → Nat) : ∀ n, nOp d t n ≤ n
  | 0 => Nat.le_refl _
  | n + 1 => by
    have := nOp_le d t n
    unfold nOp
    split
    · omega
    · split
      · split
        · omega
        · split <;> omega
      · omega
theorem nOp_0 {d t : Nat → Nat} : ∀ n, nOp d t n = 0 → ∀ i, i < n → d i = 1000 ∨ t i ≠ 0
  | 0, _, _, h => absurd h (Nat.not_lt_zero _)
  | n + 1, h, i, hi => by
    have ih := nOp_0 (d := d) (t := t) n
    unfold nOp at h
    by_cases h1 : d n = 1000
    · rw [if_pos h1] at h
      by_cases e : i = n
      · subst e; exact Or.inl h1
      · exact ih h i (by omega)
    · rw [if_neg h1] at h
      by_cases h2 : t n = 0
      · rw [if_pos h2] at h
        by_cases h3 : nOp d t n = 0
        · rw [if_pos h3] at h; omega
        · rw [if_neg h3] at h
          split at h <;> omega
      · rw [if_neg h2] at h
        by_cases e : i = n
        · subst e; exact Or.inr h2
        · exact ih h i (by omega)
theorem nOp_p {d t : Nat → Nat} : ∀ n, nOp d t n ≠ 0 → d (nOp d t n - 1) ≠ 1000 ∧ t (nOp d t n - 1) = 0 ∧ ∀ i, i < n → d i ≠ 1000 → t i = 0 → d (nOp d t n - 1) ≤ d i
  | 0, h => absurd rfl h
  | n + 1, h => by
    have ih := nOp_p (d := d) (t := t) n
    have z := nOp_0 (d := d) (t := t) n
    by_cases h1 : d n = 1000
    · have e : nOp d t (n + 1) = nOp d t n := if_pos h1
      rw [e] at h ⊢
      obtain ⟨q1, q2, q3⟩ := ih h
      refine ⟨q1, q2, fun i hi k1 k2 => ?_⟩
      by_cases e : i = n
      · subst e; exact absurd h1 k1
      · exact q3 i (by omega) k1 k2
    · by_cases h2 : t n = 0
      · by_cases h3 : nOp d t n = 0
        · have e : nOp d t (n + 1) = n + 1 := (if_neg h1).trans ((if_pos h2).trans (if_pos h3))
          rw [e]
          refine ⟨h1, h2, fun i hi k1 k2 => ?_⟩
          by_cases e : i = n
          · subst e; exact Nat.le_refl _
          · rcases z h3 i (by omega) with q | q
            · exact absurd q k1
            · exact absurd k2 q
        · obtain ⟨q1, q2, q3⟩ := ih h3
          by_cases h4 : d (nOp d t n - 1) ≤ d n
          · have e : nOp d t (n + 1) = nOp d t n := (if_neg h1).trans ((if_pos h2).trans ((if_neg h3).trans (if_pos h4)))
            rw [e]
            refine ⟨q1, q2, fun i hi k1 k2 => ?_⟩
            by_cases e : i = n
            · subst e; exact h4
            · exact q3 i (by omega) k1 k2
          · have e : nOp d t (n + 1) = n + 1 := (if_neg h1).trans ((if_pos h2).trans ((if_neg h3).trans (if_neg h4)))
            rw [e]
            refine ⟨h1, h2, fun i hi k1 k2 => ?_⟩
            by_cases e : i = n
            · subst e; exact Nat.le_refl _
            · have := q3 i (by omega) k1 k2
              show d n ≤ d i
              omega
      · have e : nOp d t (n + 1) = nOp d t n := (if_neg h1).trans (if_neg h2)
        rw [e] at h ⊢
        obtain ⟨q1, q2, q3⟩ := ih h
        refine ⟨q1, q2, fun i hi k1 k2 => ?_⟩
        by_cases e : i = n
        · subst e; exact absurd k2 h2
        · exact q3 i (by omega) k1 k2
theorem e_nearest {τ : gM} {d t : Nat → Nat} (hd : ∀ v, v < 6 → τ 4 v = oD (d v)) (hb : ∀ v, v < 6 → d v ≤ 1000) (ht : ∀ v, v < 6 → τ 5 v = nI (t v)) (ht1 : ∀ v, v < 6 → t v ≤ 1) : f_X9_nearestOpen τ = some (oI (nOp d t 6)) := by
  unfold f_X9_nearestOpen
  rw [show f_X9_nearestOpen_L4 τ gFU (-1) 0 = some (oI (nOp d t 6)) from
    loop_val (F := fun n i v => f_X9_nearestOpen_L4 τ n v i) (N := 6) (val := fun i => oI (nOp d t i)) (by omega) (fun n i hi => ?_) (fun n => ?_)]
  · rfl
  · have hle := nOp_le d t i
    have b1 := hb i hi
    have b2 := ht1 i hi
    show f_X9_nearestOpen_L4 τ (n + 1) (oI (nOp d t i)) (nI i) = f_X9_nearestOpen_L4 τ n (oI (if d i = 1000 then nOp d t i else if t i = 0 then (if nOp d t i = 0 then i + 1 else if d (nOp d t i - 1) ≤ d i then nOp d t i else i + 1) else nOp d t i)) (nI (i + 1))
    rw [f_X9_nearestOpen_L4, show (6 : Int32) = nI 6 from rfl]
    simp (disch := omega) only [nI_leq, if_neg, nI_gi, g_nIc, nm_s, nI_s]
    rw [hd i hi, ht i hi, show (0 : Int32) = nI 0 from rfl]
    simp (disch := omega) only [oD_eq, nI_inj, oI_eq]
    by_cases h1 : d i = 1000
    · rw [if_pos h1, if_pos h1]
    · rw [if_neg h1, if_neg h1]
      by_cases h2 : t i = 0
      · rw [if_pos h2, if_pos h2]
        by_cases h3 : nOp d t i = 0
        · rw [if_pos h3, if_pos h3]; rfl
        · rw [if_neg h3, if_neg h3]
          have e : oI (nOp d t i) = nI (nOp d t i - 1) := if_neg h3
          have b3 := hb (nOp d t i - 1) (by omega)
          obtain ⟨q1, -, -⟩ := nOp_p (d := d) (t := t) i h3
          rw [e, nI_gi (by omega) (by omega), g_nIc (by omega), hd (nOp d t i - 1) (by omega), oD_n q1, oD_n h1]
          simp (disch := omega) only [nI_leq]
          by_cases h4 : d (nOp d t i - 1) ≤ d i
          · rw [if_pos h4, if_pos h4, e]
          · rw [if_neg h4, if_neg h4]; rfl
      · rw [if_neg h2, if_neg h2]
  · show f_X9_nearestOpen_L4 τ (n + 1) (oI (nOp d t 6)) (nI 6) = _
    rw [f_X9_nearestOpen_L4, if_pos (by decide)]
theorem e_goOn {τ : gM} {a d : Nat → Nat} (hR : rdsR τ a) (hd : ∀ v, v < 6 → τ 4 v = oD (d v)) (hb : ∀ v, v < 6 → d v = 1000 ∨ d v ≤ 120) {m : Nat} (hm : m < 6) (hmd : d m < 1000) : ∃ τ' : gM, f_X9_goOnFrom τ (nI m) = some τ' ∧ (∀ j, j ≠ 4 → τ' j = τ j) ∧ ∀ v, v < 6 → τ' 4 v = oD (rlx a d m v) := by
  obtain ⟨r1, r2, r3⟩ := hR
  have em : rlx a d m m = d m := if_pos (r3 m hm)
  unfold f_X9_goOnFrom
  refine Exists.elim (loop_mex (F := fun n i τ => f_X9_goOnFrom_L2 (nI m) n i τ) (N := 6) (I := fun i s => (∀ j, j ≠ 4 → s j = τ j) ∧ ∀ v, v < 6 → s 4 v = oD (if v < i then rlx a d m v else d v)) (Q := fun s => (∀ j, j ≠ 4 → s j = τ j) ∧ ∀ v, v < 6 → s 4 v = oD (rlx a d m v)) (by omega) (fun n i s hi hI => Or.inr ?_) (fun n s hI => ?_) (s := τ) ⟨fun _ _ => rfl, fun v hv => by rw [if_neg (by omega)]; exact hd v hv⟩) ?_
  rotate_right
  · rintro r ⟨e1, e2, e3⟩
    exact ⟨r, by rw [e1]; rfl, e2, e3⟩
  · obtain ⟨s1, s2⟩ := hI
    have w := r2 m i hm hi
    have bm := hb m hm
    have bi := hb i hi
    have s4i : s 4 i = oD (d i) := by rw [s2 i hi, if_neg (by omega)]
    have s4m : s 4 m = nI (d m) := by
      rw [s2 m hm, ← oD_n (show d m ≠ 1000 by omega)]
      split
      · rw [em]
      · rfl
    show ∃ s', f_X9_goOnFrom_L2 (nI m) (n + 1) (nI i) s = f_X9_goOnFrom_L2 (nI m) n (nI (i + 1)) s' ∧ _
    have keep : rlx a d m i = d i → (∀ j, j ≠ 4 → s j = τ j) ∧ ∀ v, v < 6 → s 4 v = oD (if v < i + 1 then rlx a d m v else d v) := fun hk => ⟨s1, fun v hv => by
      by_cases h : v = i
      · subst h; rw [if_pos (by omega), hk]; exact s4i
      · rw [s2 v hv]
        by_cases h2 : v < i
        · rw [if_pos h2, if_pos (by omega)]
        · rw [if_neg h2, if_neg (by omega)]⟩
    have new : rlx a d m i = d m + a (6 * m + i) → (∀ j, j ≠ 4 → mset s 4 i (nI (d m + a (6 * m + i))) j = τ j) ∧ ∀ v, v < 6 → mset s 4 i (nI (d m + a (6 * m + i))) 4 v = oD (if v < i + 1 then rlx a d m v else d v) := fun hk => ⟨fun j hj => funext fun q => by rw [mset_ne1 _ _ hj, s1 j hj], fun v hv => by
      by_cases h : v = i
      · subst h; rw [mset_same, if_pos (by omega), hk, oD_n (by omega)]
      · rw [mset_ne2 _ _ h, s2 v hv]
        by_cases h2 : v < i
        · rw [if_pos h2, if_pos (by omega)]
        · rw [if_neg h2, if_neg (by omega)]⟩
    rw [f_X9_goOnFrom_L2, if_neg (by rw [show (6 : Int32) = nI 6 from rfl, nI_leq (by omega) (by omega)]; omega), ix36 hm hi]
    simp (disch := omega) only [nI_gi, g_nIc, nm_s]
    rw [s1 3 (by decide), r1 (6 * m + i) (by omega), s4m, s4i, nI_al (by omega), show (0 : Int32) = nI 0 from rfl]
    simp (disch := omega) only [nI_leq, oD_eq, nI_s]
    by_cases h1 : a (6 * m + i) ≤ 0
    · exact ⟨s, by rw [if_pos h1], keep (if_pos (by omega))⟩
    · rw [if_neg h1]
      by_cases h2 : d i = 1000
      · exact ⟨_, by rw [if_pos h2], new ((if_neg (by omega)).trans (if_neg (by omega)))⟩
      · rw [if_neg h2, oD_n h2]
        simp (disch := omega) only [nI_leq]
        by_cases h3 : d i ≤ d m + a (6 * m + i)
        · exact ⟨s, by rw [if_pos h3], keep ((if_neg (by omega)).trans (if_pos h3))⟩
        · exact ⟨_, by rw [if_neg h3], new ((if_neg (by omega)).trans (if_neg h3))⟩
  · refine ⟨s, ?_, hI.1, fun v hv => ?_⟩
    · show f_X9_goOnFrom_L2 (nI m) (n + 1) (nI 6) s = _
      rw [f_X9_goOnFrom_L2, if_pos (by decide)]
    · rw [hI.2 v hv, if_pos hv]
theorem e_measure {τ : gM} {a : Nat → Nat} (hR : rdsR τ a) {s : Nat} (hs : s < 6) : ∃ (τ' : gM) (d : Nat → Nat), f_X9_measureFrom τ (nI s) = some τ' ∧ (∀ j, j ≠ 4 → j ≠ 5 → τ' j = τ j) ∧ spR a s d ∧ ∀ v, v < 6 → τ' 4 v = oD (d v) := by
  obtain ⟨r1, r2, r3⟩ := id hR
  unfold f_X9_measureFrom
  refine Exists.elim (loop_mex (F := fun n i τ => f_X9_measureFrom_L2 (nI s) n i τ) (N := 6) (I := fun i z => (∀ j, j ≠ 4 → j ≠ 5 → z j = τ j) ∧ ∀ v, v < i → z 4 v = -1 ∧ z 5 v = 0) (Q := fun z => (∀ j, j ≠ 4 → j ≠ 5 → z j = τ j) ∧ ∀ v, v < 6 → z 4 v = -1 ∧ z 5 v = 0) (by omega) (fun n i z hi hI => Or.inr ?_) (fun n z hI => ?_) (s := τ) ⟨fun _ _ _ => rfl, fun v hv => absurd hv (Nat.not_lt_zero _)⟩) ?_
  rotate_right
  · rintro σ8 ⟨e1, e2, e3⟩
    rw [show f_X9_measureFrom_L2 (nI s) gFU 0 τ = some σ8 from e1, bd_s, nI_gi (by omega) (by omega), g_nIc (by omega), nm_s]
    have I0 : ∃ t : Nat → Nat, (∀ j, j ≠ 4 → j ≠ 5 → mset σ8 4 s 0 j = τ j) ∧ ∃ d : Nat → Nat, djI a s 0 d (fun v => t v = 1) ∧ (∀ v, v < 6 → mset σ8 4 s 0 4 v = oD (d v)) ∧ (∀ v, v < 6 → mset σ8 4 s 0 5 v = nI (t v) ∧ t v ≤ 1) ∧ sm t 6 = 0 := by
      refine ⟨fun _ => 0, fun j j1 j2 => funext fun q => by rw [mset_ne1 _ _ j1, e2 j j1 j2], fun v => if v = s then 0 else 1000, ?_, fun v hv => ?_, fun v hv => ⟨?_, Nat.zero_le _⟩, rfl⟩
      · have := dj_0 (a := a) hs
        unfold djI at this ⊢
        simpa using this
      · by_cases h : v = s
        · subst h
          show mset σ8 4 v 0 4 v = oD (if v = v then 0 else 1000)
          rw [mset_same, if_pos rfl]; rfl
        · show mset σ8 4 s 0 4 v = oD (if v = s then 0 else 1000)
          rw [mset_ne2 _ _ h, (e3 v hv).1, if_neg h]; rfl
      · rw [mset_ne1 _ _ (by decide), (e3 v hv).2]; rfl
    refine Exists.elim (loop_mex (F := fun n i τ => f_X9_measureFrom_L37 n i τ) (N := 6) (I := fun i z => ∃ t : Nat → Nat, (∀ j, j ≠ 4 → j ≠ 5 → z j = τ j) ∧ ∃ d : Nat → Nat, djI a s i d (fun v => t v = 1) ∧ (∀ v, v < 6 → z 4 v = oD (d v)) ∧ (∀ v, v < 6 → z 5 v = nI (t v) ∧ t v ≤ 1) ∧ sm t 6 = i)
      (Q := fun r => ∃ (z : gM) (d : Nat → Nat), (r = .inl z ∨ r = .inr z) ∧ (∀ j, j ≠ 4 → j ≠ 5 → z j = τ j) ∧ spR a s d ∧ ∀ v, v < 6 → z 4 v = oD (d v)) (by omega) (fun n i z hi hI => ?_) (fun n z hI => ?_) (s := mset σ8 4 s 0) I0) ?_
    rotate_right
    · rintro r ⟨f1, f2⟩
      obtain ⟨z, d, hz, z1, z2, z3⟩ := f2
      rw [show f_X9_measureFrom_L37 gFU 0 (mset σ8 4 s 0) = some r from f1]
      rcases hz with rfl | rfl
      · exact ⟨z, d, rfl, z1, z2, z3⟩
      · exact ⟨z, d, rfl, z1, z2, z3⟩
    · obtain ⟨t, t1, d, D, t2, t3, t4⟩ := hI
      have hdb : ∀ v, v < 6 → d v = 1000 ∨ d v ≤ 20 * i := D.2.2.2.2
      have hb : ∀ v, v < 6 → d v ≤ 1000 := fun v hv => by have := hdb v hv; omega
      have hn := e_nearest (τ := z) (d := d) (t := t) t2 hb (fun v hv => (t3 v hv).1) (fun v hv => (t3 v hv).2)
      have hle := nOp_le d t 6
      by_cases h0 : nOp d t 6 = 0
      · refine Or.inl ⟨.inl z, ?_, z, d, Or.inl rfl, t1, dj_end (by omega) D (fun v hv => ?_), t2⟩
        · show f_X9_measureFrom_L37 (n + 1) (nI i) z = _
          rw [f_X9_measureFrom_L37, if_neg (by rw [show (6 : Int32) = nI 6 from rfl, nI_leq (by omega) (by omega)]; omega), hn, bd_s, h0, if_pos (show oI 0 = (-1 : Int32) from rfl)]
        · have := (t3 v hv).2
          rcases nOp_0 (d := d) (t := t) 6 h0 v hv with q | q
          · exact Or.inr q
          · exact Or.inl (by show t v = 1; omega)
      · obtain ⟨m, hm⟩ : ∃ m, nOp d t 6 = m + 1 := ⟨_, (Nat.succ_pred_eq_of_ne_zero h0).symm⟩
        obtain ⟨q1, q2, q3⟩ := nOp_p (d := d) (t := t) 6 h0
        rw [hm] at q1 q2 q3 hn hle
        have hm6 : m < 6 := by omega
        have q1 : d m ≠ 1000 := q1
        have q2 : t m = 0 := q2
        have q3 : ∀ v, v < 6 → d v ≠ 1000 → t v = 0 → d m ≤ d v := q3
        have hmd : d m < 1000 := by have := hb m hm6; omega
        have eo : oI (m + 1) = nI m := if_neg (Nat.succ_ne_zero m)
        have ho : ¬ oI (m + 1) = -1 := by rw [oI_eq (by omega)]; omega
        rw [eo] at hn ho
        have hR2 : rdsR (mset z 5 m 1) a := ⟨fun q hq => by rw [mset_ne1 _ _ (by decide), t1 3 (by decide) (by decide)]; exact r1 q hq, r2, r3⟩
        obtain ⟨z', g1, g2, g3⟩ := e_goOn (d := d) hR2 (fun v hv => by rw [mset_ne1 _ _ (by decide)]; exact t2 v hv) (fun v hv => by have := hdb v hv; omega) hm6 hmd
        refine Or.inr ⟨z', ?_, fun v => if v = m then 1 else t v, fun j j1 j2 => ?_, fun v => rlx a d m v, ?_, g3, fun v hv => ?_, ?_⟩
        · show f_X9_measureFrom_L37 (n + 1) (nI i) z = f_X9_measureFrom_L37 n (nI (i + 1)) z'
          rw [f_X9_measureFrom_L37, if_neg (by rw [show (6 : Int32) = nI 6 from rfl, nI_leq (by omega) (by omega)]; omega), hn, bd_s, if_neg ho, nI_gi (by omega) (by omega), g_nIc (by omega), nm_s, show vp_nar .boolean 1 = (1 : Int32) from by decide, g1, bd_s, nm_s, nI_s (by omega)]
        · rw [g2 j j1]
          funext q
          rw [mset_ne1 _ _ j2, t1 j j1 j2]
        · have D2 := dj_s (m := m) hs (by omega) r2 r3 D hm6 (by show ¬ t m = 1; omega) hmd (fun v hv hS hv2 => q3 v hv (by omega) (by have := (t3 v hv).2; have : ¬ t v = 1 := hS; omega))
          have eS : (fun v => (if v = m then 1 else t v) = 1) = (fun v => (fun v => t v = 1) v ∨ v = m) := by
            funext v
            by_cases h : v = m
            · simp [h]
            · simp [h]
          rw [eS]
          exact D2
        · rw [g2 5 (by decide)]
          show mset z 5 m 1 5 v = nI (if v = m then 1 else t v) ∧ (if v = m then 1 else t v) ≤ 1
          by_cases h : v = m
          · subst h
            rw [mset_same, if_pos rfl]
            exact ⟨rfl, by omega⟩
          · rw [mset_ne2 _ _ h, if_neg h]; exact t3 v hv
        · rw [sm_one (f := fun v => if v = m then 1 else t v) (g := t) (k := m) hm6 (fun v hv h => if_neg h) (by show (if m = m then 1 else t m) = t m + 1; rw [if_pos rfl, q2]), t4]
    · obtain ⟨t, t1, d, D, t2, t3, t4⟩ := hI
      refine ⟨.inr z, ?_, z, d, Or.inr rfl, t1, dj_end (by omega) D (fun v hv => Or.inl ?_), t2⟩
      · show f_X9_measureFrom_L37 (n + 1) (nI 6) z = _
        rw [f_X9_measureFrom_L37, if_pos (by decide)]
      · show t v = 1
        have b := (t3 v hv).2
        by_cases h : t v = 1
        · exact h
        · have := sm_lt' (f := t) (g := fun _ => 1) (k := v) (n := 6) hv (fun j hj => (t3 j hj).2) (by show t v < 1; omega)
          have e : sm (fun _ => 1) 6 = 6 := rfl
          omega
  · obtain ⟨z1, z2⟩ := hI
    refine ⟨mset (mset z 4 i (-1)) 5 i 0, ?_, fun j j1 j2 => funext fun q => by rw [mset_ne1 _ _ j2, mset_ne1 _ _ j1, z1 j j1 j2], fun v hv => ?_⟩
    · show f_X9_measureFrom_L2 (nI s) (n + 1) (nI i) z = f_X9_measureFrom_L2 (nI s) n (nI (i + 1)) _
      rw [f_X9_measureFrom_L2, if_neg (by rw [show (6 : Int32) = nI 6 from rfl, nI_leq (by omega) (by omega)]; omega), nI_gi (by omega) (by omega), g_nIc (by omega), nm_s, nI_gi (by omega) (by omega), nm_s, nm_s, show vp_nar .boolean 0 = (0 : Int32) from by decide, nI_s (by omega)]
    · by_cases h : v = i
      · subst h
        rw [mset_ne1 _ _ (by decide), mset_same, mset_same]; exact ⟨rfl, rfl⟩
      · rw [mset_ne1 _ _ (by decide), mset_ne2 _ _ h, mset_ne2 _ _ h, mset_ne1 _ _ (by decide)]; exact z2 v (by omega)
  · refine ⟨z, ?_, hI⟩
    show f_X9_measureFrom_L2 (nI s) (n + 1) (nI 6) z = _
    rw [f_X9_measureFrom_L2, if_pos (by decide)]

