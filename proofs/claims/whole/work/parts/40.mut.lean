/-! a change that is recorded -/
def shR (σ : gM) (n : Nat) : gM := rset σ 222 (fun q => if q < n then σ 222 (q + 134) else σ 222 q)
theorem shR_0 {σ : gM} : shR σ 0 = σ := by
  funext i q
  unfold shR
  by_cases hi : i = 222
  · subst hi
    rw [rset_eq, if_neg (by omega)]
  · rw [rset_ne _ _ hi]
theorem shR_s {σ : gM} {n : Nat} : mset (shR σ n) 222 n (shR σ n 222 (n + 134)) = shR σ (n + 1) := by
  funext i q
  by_cases hi : i = 222
  · subst hi
    by_cases hq : q = n
    · subst hq
      rw [mset_same]
      unfold shR
      rw [rset_eq, rset_eq, if_neg (by omega), if_pos (by omega)]
    · rw [mset_ne2 _ _ hq]
      unfold shR
      rw [rset_eq, rset_eq]
      by_cases h : q < n
      · rw [if_pos h, if_pos (by omega)]
      · rw [if_neg h, if_neg (by omega)]
  · rw [mset_ne1 _ _ hi]
    unfold shR
    rw [rset_ne _ _ hi, rset_ne _ _ hi]
theorem e_shift {σ : gM} (v : Int32) : f_X13_kept_L33 v gFU 0 σ = some (shR σ 938) := by
  have h := loop_val (F := fun n i s => f_X13_kept_L33 v n i s) (N := 938) (val := fun n => shR σ n) (r := shR σ 938) (by omega) (fun n i hi => ?_) (fun n => ?_)
  · have h : f_X13_kept_L33 v gFU 0 (shR σ 0) = some (shR σ 938) := h
    rw [shR_0] at h
    exact h
  · show f_X13_kept_L33 v (n + 1) (nI i) (shR σ i) = f_X13_kept_L33 v n (nI (i + 1)) (shR σ (i + 1))
    rw [f_X13_kept_L33, if_neg (by rw [show (938 : Int32) = nI 938 from rfl, nI_leq (by omega) (by omega)]; omega), show nI i + 134 = nI (i + 134) from nI_al (i := 134) (by omega), nI_gi (by omega) (by omega), nI_gi (by omega) (by omega), g_nIc (by omega), g_nIc (by omega), nm_s, nm_s, nI_s (by omega), shR_s]
  · show f_X13_kept_L33 v (n + 1) (nI 938) (shR σ 938) = _
    rw [f_X13_kept_L33, if_pos (by decide)]
theorem e_kept {σ : gM} {v : Int32} {c : Nat} (hc : c ≤ 8) (ht : σ 219 12 = 0) (h3 : σ 219 3 = nI c) : ∃ σ' : gM, f_X13_kept σ v = some (v, σ') ∧ (∀ i q, i ≠ 222 → ¬ (i = 219 ∧ q = 3) → σ' i q = σ i q) ∧ σ' 219 3 = nI (min (c + 1) 8) ∧
    (c < 8 → ∀ i q, q < 134 → (i < c → σ' 222 (134 * i + q) = σ 222 (134 * i + q)) ∧ (i = c → σ' 222 (134 * i + q) = σ 221 q)) ∧
    (c = 8 → ∀ i q, q < 134 → (i < 7 → σ' 222 (134 * i + q) = σ 222 (134 * (i + 1) + q)) ∧ (i = 7 → σ' 222 (134 * i + q) = σ 221 q)) := by
  have hm : ∀ k : Nat, k ≤ 7 → nI k * 134 = nI (134 * k) := fun k hk => by
    rw [show (134 : Int32) = nI 134 from rfl, nI_mul (by omega) (by omega) (by omega), Nat.mul_comm]
  unfold f_X13_kept
  rw [if_pos ht, h3, show (8 : Int32) = nI 8 from rfl]
  simp (disch := omega) only [nI_inj]
  by_cases h8 : c = 8
  · subst h8
    rw [if_pos rfl, e_shift, bd_s, nm_s]
    have e7 : mset (shR σ 938) 219 3 ((shR σ 938 219 3) - 1) 219 3 = nI 7 := by
      rw [mset_same]
      unfold shR
      rw [rset_ne _ _ (by decide), h3]; rfl
    rw [e7, hm 7 (by omega), show f_X13_copy _ 221 134 0 222 1072 (nI (134 * 7)) = _ from e_copy (s := 0) (t := 134 * 7) (by decide) (by decide) (by decide) (by decide) (by decide), bd_s, nm_s]
    refine ⟨_, rfl, fun i q h1 h2 => ?_, ?_, fun h => absurd h (by omega), fun _ i q hq => ⟨fun hi => ?_, fun hi => ?_⟩⟩
    · by_cases h9 : i = 219
      · subst h9
        have hq : q ≠ 3 := fun e => h2 ⟨rfl, e⟩
        rw [mset_ne2 _ _ hq]
        unfold cpR shR
        rw [rset_ne _ _ (by decide), mset_ne2 _ _ hq, rset_ne _ _ (by decide)]
      · rw [mset_ne1 _ _ h9]
        unfold cpR shR
        rw [rset_ne _ _ h1, mset_ne1 _ _ h9, rset_ne _ _ h1]
    · rw [mset_same]
      unfold cpR
      rw [rset_ne _ _ (by decide), e7]; rfl
    · rw [mset_ne1 _ _ (by decide)]
      unfold cpR
      rw [rset_eq, if_neg (by omega), mset_ne1 _ _ (by decide)]
      unfold shR
      rw [rset_eq, if_pos (by omega)]
      exact congrArg (σ 222) (by omega)
    · subst hi
      rw [mset_ne1 _ _ (by decide)]
      unfold cpR
      rw [rset_eq, if_pos (by omega), mset_ne1 _ _ (by decide)]
      unfold shR
      rw [rset_ne _ _ (by decide)]
      exact congrArg (σ 221) (by omega)
  · rw [if_neg h8, hm c (by omega), show f_X13_copy σ 221 134 0 222 1072 (nI (134 * c)) = _ from e_copy (s := 0) (t := 134 * c) (by decide) (by decide) (by omega) (by decide) (by decide), bd_s, nm_s]
    refine ⟨_, rfl, fun i q h1 h2 => ?_, ?_, fun _ i q hq => ⟨fun hi => ?_, fun hi => ?_⟩, fun h => absurd h h8⟩
    · by_cases h9 : i = 219
      · subst h9
        have hq : q ≠ 3 := fun e => h2 ⟨rfl, e⟩
        rw [mset_ne2 _ _ hq]
        unfold cpR
        rw [rset_ne _ _ (by decide)]
      · rw [mset_ne1 _ _ h9]
        unfold cpR
        rw [rset_ne _ _ h1]
    · rw [mset_same]
      unfold cpR
      rw [rset_ne _ _ (by decide), h3, nI_s (by omega)]
      exact congrArg nI (by omega)
    · rw [mset_ne1 _ _ (by decide)]
      unfold cpR
      rw [rset_eq, if_neg (by omega)]
    · subst hi
      rw [mset_ne1 _ _ (by decide)]
      unfold cpR
      rw [rset_eq, if_pos (by omega)]
      exact congrArg (σ 221) (by omega)
theorem e_keep {σ : gM} {c nx : Nat} (hc : c ≤ 8) (hx : nx ≤ 8) (h1 : σ 199 1 = nI nx) (h2 : σ 199 2 = nI c) : f_X7_keep σ = some (mset (mset σ 199 1 (nI ((nx + 1) % 9))) 199 2 (nI (min (c + 1) 8))) := by
  have e1 : (nI nx + 1) - (nI nx + 1) / 9 * 9 = nI ((nx + 1) % 9) := by
    rcases (show nx = 0 ∨ nx = 1 ∨ nx = 2 ∨ nx = 3 ∨ nx = 4 ∨ nx = 5 ∨ nx = 6 ∨ nx = 7 ∨ nx = 8 by omega) with rfl | rfl | rfl | rfl | rfl | rfl | rfl | rfl | rfl <;> decide
  have e2 : (if 8 < (nI c + 1) then 8 else (nI c + 1)) = nI (min (c + 1) 8) := by
    rcases (show c = 0 ∨ c = 1 ∨ c = 2 ∨ c = 3 ∨ c = 4 ∨ c = 5 ∨ c = 6 ∨ c = 7 ∨ c = 8 by omega) with rfl | rfl | rfl | rfl | rfl | rfl | rfl | rfl | rfl <;> decide
  unfold f_X7_keep
  rw [nm_s, nm_s, h1, e1, mset_ne2 _ _ (by decide), h2, e2]
/-- after a recorded change the invariant holds again -/
theorem mut_ok {σ σ4 : gM} {a a' : Nat → Nat} {c nx : Nat} (R : nowR σ a) (Hh : hisR σ c nx) (Sv : savR σ)
    (t0 : σ4 219 12 = 0) (t3 : σ4 219 3 = nI c) (t1 : σ4 199 1 = nI ((nx + 1) % 9)) (t2 : σ4 199 2 = nI (min (c + 1) 8)) (f3 : ∀ q, q < 134 → σ4 221 q = σ 220 q) (f4 : ∀ q, σ4 222 q = σ 222 q)
    (f5 : ∀ k o q, 1 ≤ k → k < 11 → k ≠ nx + 2 → o < 18 → σ4 (1 + 18 * k + o) q = σ (1 + 18 * k + o) q) (fb : blkR σ4 (nx + 2) (σ 220) a) (R' : nowR σ4 a') (N' : notR σ4) (s0 : σ4 0 6 = σ 0 6) (s1 : σ4 219 5 = σ 219 5) (s2 : ∀ q, σ4 223 q = σ 223 q) (v : Int32) :
    ∃ σ5 : gM, f_X13_kept σ4 v = some (v, σ5) ∧ inv σ5 ∧ σ5 219 12 = 0 := by
  obtain ⟨hc, hx, g1, g2, g3, g4⟩ := Hh
  obtain ⟨σ5, ek, k1, k2, k3, k4⟩ := e_kept (v := v) hc t0 t3
  have hblk : ∀ k o q, k < 11 → o < 18 → σ5 (1 + 18 * k + o) q = σ4 (1 + 18 * k + o) q := fun k o q hk ho => k1 _ q (by omega) (by omega)
  have hr5 : ∀ q, q < 134 → σ5 220 q = σ4 220 q := fun q _ => k1 220 q (by decide) (by omega)
  refine ⟨σ5, ek, ⟨a', min (c + 1) 8, (nx + 1) % 9, ⟨blk_congr R'.2.2.1 (fun o q h1 _ _ _ => hblk 0 o q (by omega) h1) hr5 R'.1, row_congr hr5 R'.2.1, vd_congr hr5 R'.2.2⟩, ?_, ⟨by omega, by omega, ?_, ?_, k2, fun i hi => ?_⟩, ?_⟩, ?_⟩
  · obtain ⟨⟨n1, n2⟩, ⟨n3, n4⟩, ⟨t, p1, p2, p3, p4⟩, ⟨o, o1, o2, o3, o4⟩⟩ := N'
    refine ⟨⟨?_, ?_⟩, ⟨?_, ?_⟩, ⟨t, p1, ?_, ?_, fun j hj => ?_⟩, ⟨o, o1, ?_, ?_, fun j hj => ?_⟩⟩
    · rw [k1 0 7 (by decide) (by decide), k1 219 8 (by decide) (by decide)]; exact n1
    · rw [k1 0 7 (by decide) (by decide)]; exact n2
    · rw [k1 0 8 (by decide) (by decide), k1 219 9 (by decide) (by decide)]; exact n3
    · rw [k1 0 8 (by decide) (by decide)]; exact n4
    · rw [k1 204 2 (by decide) (by decide)]; exact p2
    · rw [k1 219 7 (by decide) (by decide)]; exact p3
    · rw [k1 205 j (by decide) (by omega), k1 224 j (by decide) (by omega)]; exact p4 j hj
    · rw [k1 217 1 (by decide) (by decide)]; exact o2
    · rw [k1 219 11 (by decide) (by decide)]; exact o3
    · rw [k1 218 j (by decide) (by omega), k1 225 j (by decide) (by omega)]; exact o4 j hj
  · rw [k1 199 1 (by decide) (by decide)]; exact t1
  · rw [k1 199 2 (by decide) (by decide)]; exact t2
  · -- the rows of the history
    have hmod : ∀ x : Nat, x % 9 < 9 := fun x => Nat.mod_lt _ (by omega)
    by_cases h8 : c = 8
    · subst h8
      by_cases h7 : i = 7
      · subst h7
        have hq : ∀ q, q < 134 → σ5 222 (134 * 7 + q) = σ 220 q := fun q hq => ((k4 rfl 7 q hq).2 rfl).trans (f3 q hq)
        have e : 2 + ((nx + 1) % 9 + 9 - min (8 + 1) 8 + 7) % 9 = nx + 2 := by omega
        rw [e]
        exact ⟨a, blk_congr R.2.2.1 (fun o q h1 _ _ _ => hblk (nx + 2) o q (by omega) h1) hq fb, row_congr hq R.2.1, vd_congr hq R.2.2⟩
      · obtain ⟨b, b1, b2, b3⟩ := g4 (i + 1) (by omega)
        have hq : ∀ q, q < 134 → σ5 222 (134 * i + q) = σ 222 (134 * (i + 1) + q) := fun q hq => ((k4 rfl i q hq).1 (by omega)).trans (f4 _)
        have e : 2 + ((nx + 1) % 9 + 9 - min (8 + 1) 8 + i) % 9 = 2 + (nx + 9 - 8 + (i + 1)) % 9 := by omega
        rw [e]
        exact ⟨b, blk_congr b3.1 (fun o q h1 _ _ _ => (hblk _ o q (by omega) h1).trans (f5 _ o q (by omega) (by omega) (by omega) h1)) hq b1, row_congr hq b2, vd_congr hq b3⟩
    · by_cases h7 : i = c
      · subst h7
        have hq : ∀ q, q < 134 → σ5 222 (134 * i + q) = σ 220 q := fun q hq => ((k3 (by omega) i q hq).2 rfl).trans (f3 q hq)
        have e : 2 + ((nx + 1) % 9 + 9 - min (i + 1) 8 + i) % 9 = nx + 2 := by omega
        rw [e]
        exact ⟨a, blk_congr R.2.2.1 (fun o q h1 _ _ _ => hblk (nx + 2) o q (by omega) h1) hq fb, row_congr hq R.2.1, vd_congr hq R.2.2⟩
      · obtain ⟨b, b1, b2, b3⟩ := g4 i (by omega)
        have hq : ∀ q, q < 134 → σ5 222 (134 * i + q) = σ 222 (134 * i + q) := fun q hq => ((k3 (by omega) i q hq).1 (by omega)).trans (f4 _)
        have e : 2 + ((nx + 1) % 9 + 9 - min (c + 1) 8 + i) % 9 = 2 + (nx + 9 - c + i) % 9 := by omega
        rw [e]
        exact ⟨b, blk_congr b3.1 (fun o q h1 _ _ _ => (hblk _ o q (by omega) h1).trans (f5 _ o q (by omega) (by omega) (by omega) h1)) hq b1, row_congr hq b2, vd_congr hq b3⟩
  · rcases Sv with ⟨u1, u2⟩ | ⟨u1, u2, b, b1, b2, b3⟩
    · exact Or.inl ⟨(k1 0 6 (by decide) (by decide)).trans (s0.trans u1), (k1 219 5 (by decide) (by decide)).trans (s1.trans u2)⟩
    · have hq : ∀ q, q < 134 → σ5 223 q = σ 223 q := fun q _ => (k1 223 q (by decide) (by omega)).trans (s2 q)
      exact Or.inr ⟨(k1 0 6 (by decide) (by decide)).trans (s0.trans u1), (k1 219 5 (by decide) (by decide)).trans (s1.trans u2), b, blk_congr b3.1 (fun o q h1 _ _ _ => (hblk 1 o q (by omega) h1).trans (f5 1 o q (by omega) (by omega) (by omega) h1)) hq b1, row_congr hq b2, vd_congr hq b3⟩
  · rw [k1 219 12 (by decide) (by decide)]; exact t0
