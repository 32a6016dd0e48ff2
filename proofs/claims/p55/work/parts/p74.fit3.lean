/-! what fits, by a table -/
/-- one parcel of weight v more -/
def enT (T : Nat → Nat) (v x : Nat) : Nat := if v ≤ x then (if T x < T (x - v) + 1 then T (x - v) + 1 else T x) else T x
theorem d_enter {v : Nat} {T : Nat → Nat} (hv : 1 ≤ v) : ∀ (k n : Nat) (σ : gM), v - 1 + k ≤ 60 → k < n → (∀ x, x ≤ v - 1 + k → σ 203 x = nI (T x) ∧ T x ≤ 100) → ∃ σ' : gM, f_X4_enter_L2 (nI v) n (nI (v - 1 + k)) σ = some σ' ∧ (∀ j, j ≠ 203 → σ' j = σ j) ∧ ∀ x, σ' 203 x = if v ≤ x ∧ x ≤ v - 1 + k then nI (enT T v x) else σ 203 x := by
  intro k
  induction k with
  | zero =>
    intro n σ hk hn hT
    obtain ⟨m, rfl⟩ : ∃ m, n = m + 1 := ⟨n - 1, by omega⟩
    refine ⟨σ, ?_, fun _ _ => rfl, fun x => ?_⟩
    · rw [f_X4_enter_L2, if_pos (by rw [nI_ltq (by omega) (by omega)]; omega)]
    · rw [if_neg (by omega)]
  | succ k ih =>
    intro n σ hk hn hT
    obtain ⟨m, rfl⟩ : ∃ m, n = m + 1 := ⟨n - 1, by omega⟩
    have ev : v - 1 + (k + 1) = v + k := by omega
    rw [ev] at hT hk ⊢
    obtain ⟨h1, b1⟩ := hT (v + k) (by omega)
    obtain ⟨h2, b2⟩ := hT k (by omega)
    have hE : enT T v (v + k) = if T (v + k) < T k + 1 then T k + 1 else T (v + k) := by
      unfold enT
      rw [if_pos (by omega), show v + k - v = k by omega]
    have e0 : nI (v + k) + (-1) = nI (v - 1 + k) := by
      rw [show v + k = v - 1 + k + 1 by omega]
      exact (Int32.sub_eq_add_neg _ _).symm.trans (nI_p (by omega))
    obtain ⟨σ', e1, e2, e3⟩ := ih m (mset σ 203 (v + k) (nI (enT T v (v + k)))) (by omega) (by omega) (fun x hx => by rw [mset_ne2 _ _ (by omega)]; exact hT x (by omega))
    refine ⟨σ', ?_, fun j hj => by rw [e2 j hj]; exact funext fun q => mset_ne1 _ _ hj, fun x => ?_⟩
    · rw [← e1, f_X4_enter_L2, if_neg (by rw [nI_ltq (by omega) (by omega)]; omega), nI_subn (by omega) (by omega), show v + k - v = k by omega, e0]
      simp (disch := omega) only [nI_gi, g_nIc, nm_s]
      rw [h1, h2, nI_s (by omega)]
      simp (disch := omega) only [nI_ltq]
      rw [hE]
      by_cases c : T (v + k) < T k + 1
      · rw [if_pos c, if_pos c]
      · rw [if_neg c, if_neg c]
    · rw [e3 x]
      by_cases hx : x = v + k
      · subst hx
        rw [if_neg (by omega), mset_same, if_pos (by omega)]
      · rw [mset_ne2 _ _ hx]
        by_cases c : v ≤ x ∧ x ≤ v - 1 + k
        · rw [if_pos c, if_pos (by omega)]
        · rw [if_neg c, if_neg (by omega)]
/-- a parcel of weight v into the table up to r -/
theorem d_enterR {σ : gM} {T : Nat → Nat} {v r : Nat} (hv : 1 ≤ v) (hv2 : v ≤ 20) (hr : r ≤ 60) (hT : ∀ x, x ≤ r → σ 203 x = nI (T x) ∧ T x ≤ 100) : ∃ σ' : gM, f_X4_enter σ (nI v) (nI r) = some σ' ∧ (∀ j, j ≠ 203 → σ' j = σ j) ∧ ∀ x, x ≤ r → σ' 203 x = nI (enT T v x) := by
  unfold f_X4_enter
  by_cases h : v ≤ r
  · obtain ⟨σ', e1, e2, e3⟩ := d_enter (T := T) hv (r - (v - 1)) gFU σ (by omega) (by rw [gFU_eq]; omega) (fun x hx => hT x (by omega))
    rw [show v - 1 + (r - (v - 1)) = r by omega] at e1 e3
    refine ⟨σ', by rw [e1]; rfl, e2, fun x hx => ?_⟩
    rw [e3 x]
    by_cases c : v ≤ x
    · rw [if_pos ⟨c, hx⟩]
    · rw [if_neg (by omega), (hT x hx).1, enT, if_neg c]
  · obtain ⟨m, hm⟩ := gFU_8
    refine ⟨σ, ?_, fun _ _ => rfl, fun x hx => by rw [(hT x hx).1, enT, if_neg (by omega)]⟩
    rw [hm, f_X4_enter_L2, if_pos (by rw [nI_ltq (by omega) (by omega)]; omega)]; rfl
theorem cw_ins {e : Nat → Int32} {a : Nat → Nat} (V : vdR e a) {i x K : Nat} (hi : i < a 36) (hK : 20 ≤ K) : gsL (Pl (cwN a (i + 1)) K) x = if a (76 + i) = 0 then enT (fun x => gsL (Pl (cwN a i) K) x) (a (40 + i)) x else gsL (Pl (cwN a i) K) x := by
  obtain ⟨q1, q2, q3, q4, q5, q6⟩ := V.2.2.2.2.1 i hi
  have eN : ∀ w, cwN a (i + 1) w = cwN a i w + if a (76 + i) = 0 ∧ a (40 + i) = w then 1 else 0 := fun w => rfl
  by_cases h : a (76 + i) = 0
  · have e1 : Pl (cwN a (i + 1)) K = insL (a (40 + i)) (Pl (cwN a i) K) := by
      refine Pl_ins q1 ?_ (fun w hw => ?_) (by omega)
      · rw [eN, if_pos ⟨h, rfl⟩]
      · rw [eN, if_neg (fun q => hw q.2.symm), Nat.add_zero]
    rw [if_pos h, e1, gs_ins (Pl_srt K)]
    rfl
  · have e1 : Pl (cwN a (i + 1)) K = Pl (cwN a i) K := by
      refine Pl_congr (fun w _ _ => ?_)
      rw [eN, if_neg (fun q => h q.1), Nat.add_zero]
    rw [if_neg h, e1]
theorem d_fitT {τ : gM} {e : Nat → Int32} {a : Nat → Nat} (B : blkR τ 0 e a) (V : vdR e a) {k : Nat} (hk : k < 3) : ∃ τ' : gM, f_X4_fittingByTable τ (nI k) = some (nI (fitN a (a (131 + k) - loadN a k)), τ') ∧ ∀ j, j ≠ 203 → τ' j = τ j := by
  have h12 : a 36 ≤ 12 := V.1
  obtain ⟨v1, v2, v3, v4⟩ := V.2.2.2.2.2.2.2 k hk
  unfold f_X4_fittingByTable
  rw [d_room B V hk, bd_s]
  generalize hc : a (131 + k) - loadN a k = c
  have hc60 : c ≤ 60 := by omega
  rw [show f_X12_isIndex τ (nI c) 61 = _ from ix_ok (N := 61) (by omega) (by omega), bd_s, if_neg (by decide)]
  have hbl : ∀ i x, gsL (Pl (cwN a i) 20) x ≤ x := fun i x => gs_le (fun y hy => (Pl_mem hy).1)
  refine Exists.elim (loop_mex (F := fun n i (σ : gM) => f_X4_fittingByTable_L23 (nI c) n i σ) (N := c + 1) (I := fun i z => (∀ j, j ≠ 203 → z j = τ j) ∧ ∀ x, x < i → z 203 x = 0) (Q := fun z => (∀ j, j ≠ 203 → z j = τ j) ∧ ∀ x, x ≤ c → z 203 x = 0) (by omega) (fun n i z hi hI => Or.inr ?_) (fun n z hI => ?_) (s := τ) ⟨fun _ _ => rfl, fun x hx => absurd hx (Nat.not_lt_zero _)⟩) ?_
  rotate_right
  · rintro z0 ⟨e0, y1, y2⟩
    rw [show f_X4_fittingByTable_L23 (nI c) gFU 0 τ = some z0 from e0, bd_s]
    refine Exists.elim (loop_mex (F := fun n i (σ : gM) => f_X4_fittingByTable_L46 (nI c) n i σ) (N := a 36) (I := fun i z => (∀ j, j ≠ 203 → z j = τ j) ∧ ∀ x, x ≤ c → z 203 x = nI (gsL (Pl (cwN a i) 20) x)) (Q := fun z => (∀ j, j ≠ 203 → z j = τ j) ∧ ∀ x, x ≤ c → z 203 x = nI (gsL (Pl (cwN a (a 36)) 20) x)) (by omega) (fun n i z hi hI => Or.inr ?_) (fun n z hI => ?_) (s := z0) ⟨y1, fun x hx => ?_⟩) ?_
    rotate_right
    · rintro z ⟨e1, w1, w2⟩
      refine ⟨z, ?_, w1⟩
      rw [show f_X4_fittingByTable_L46 (nI c) gFU 0 z0 = some z from e1, bd_s, nI_gi (by omega) (by omega), g_nIc (by omega), w2 c (Nat.le_refl _)]; rfl
    · obtain ⟨s1, s2⟩ := hI
      obtain ⟨q1, q2, q3, q4, q5, q6⟩ := V.2.2.2.2.1 i hi
      have Bz : blkR z 0 e a := blk_congr h12 (fun o q h1 h2 h3 h4 => by rw [s1 _ (by omega)]) (fun _ _ => rfl) B
      obtain ⟨p1, p2, p3, p4, p5⟩ := Bz.2.2.2.1 i hi
      have p1 : z 8 i = nI (a (40 + i)) := p1
      have p4 : z 11 i = wh (a (76 + i)) (a (88 + i)) := p4
      by_cases h : a (76 + i) = 0
      · obtain ⟨z', f1, f2, f3⟩ := d_enterR (σ := z) (T := fun x => gsL (Pl (cwN a i) 20) x) (v := a (40 + i)) (r := c) q1 q2 hc60 (fun x hx => ⟨s2 x hx, by have := hbl i x; omega⟩)
        refine ⟨z', ?_, fun j hj => (f2 j hj).trans (s1 j hj), fun x hx => ?_⟩
        · show f_X4_fittingByTable_L46 (nI c) (n + 1) (nI i) z = f_X4_fittingByTable_L46 (nI c) n (nI (i + 1)) z'
          rw [f_X4_fittingByTable_L46, d_size Bz, bd_s, if_neg (by rw [nI_leq (by omega) (by omega)]; omega), f_X8_whereIs, nI_gi (by omega) (by omega), g_nIc (by omega), p4, bd_s, if_pos (by rw [wh_in q6]; exact h), f_X8_weightOf, nI_gi (by omega) (by omega), g_nIc (by omega), p1, bd_s, f1, bd_s, nm_s, nI_s (by omega)]
        · rw [f3 x hx, cw_ins V hi (Nat.le_refl 20), if_pos h]
      · refine ⟨z, ?_, s1, fun x hx => ?_⟩
        · show f_X4_fittingByTable_L46 (nI c) (n + 1) (nI i) z = f_X4_fittingByTable_L46 (nI c) n (nI (i + 1)) z
          rw [f_X4_fittingByTable_L46, d_size Bz, bd_s, if_neg (by rw [nI_leq (by omega) (by omega)]; omega), f_X8_whereIs, nI_gi (by omega) (by omega), g_nIc (by omega), p4, bd_s, if_neg (by rw [wh_in q6]; exact h), nm_s, nI_s (by omega)]
        · rw [s2 x hx, cw_ins V hi (Nat.le_refl 20), if_neg h]
    · obtain ⟨s1, s2⟩ := hI
      have Bz : blkR z 0 e a := blk_congr h12 (fun o q h1 h2 h3 h4 => by rw [s1 _ (by omega)]) (fun _ _ => rfl) B
      refine ⟨z, ?_, s1, s2⟩
      show f_X4_fittingByTable_L46 (nI c) (n + 1) (nI (a 36)) z = _
      rw [f_X4_fittingByTable_L46, d_size Bz, bd_s, if_pos (by rw [nI_leq (by omega) (by omega)]; omega)]
    · have h0 : gsL (Pl (cwN a 0) 20) x = 0 := by
        rw [Pl_congr (f := cwN a 0) (g := fun _ => 0) (k := 20) (fun w _ _ => rfl)]
        rfl
      rw [y2 x hx, h0]; rfl
  · obtain ⟨z1, z2⟩ := hI
    refine ⟨mset z 203 i 0, ?_, fun j hj => funext fun q => by rw [mset_ne1 _ _ hj, z1 j hj], fun x hx => ?_⟩
    · show f_X4_fittingByTable_L23 (nI c) (n + 1) (nI i) z = f_X4_fittingByTable_L23 (nI c) n (nI (i + 1)) _
      rw [f_X4_fittingByTable_L23, if_neg (by rw [nI_ltq (by omega) (by omega)]; omega), nI_gi (by omega) (by omega), g_nIc (by omega), nm_s, nm_s, nI_s (by omega)]
    · by_cases h : x = i
      · subst h; rw [mset_same]
      · rw [mset_ne2 _ _ h]; exact z2 x (by omega)
  · obtain ⟨z1, z2⟩ := hI
    refine ⟨z, ?_, z1, fun x hx => z2 x (by omega)⟩
    show f_X4_fittingByTable_L23 (nI c) (n + 1) (nI (c + 1)) z = _
    rw [f_X4_fittingByTable_L23, if_pos (by rw [nI_ltq (by omega) (by omega)]; omega)]
