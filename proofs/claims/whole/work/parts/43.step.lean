/-! the changes, each told apart from the notes that are taken of it: the depot's on its block, the reference's on its row; e holds the row's numbers without a bound (38, 39, 100 .. 111) -/
def rowE (r e : Nat → Int32) (a : Nat → Nat) : Prop := rowR r a ∧ ∀ j, j < 134 → (j = 38 ∨ j = 39 ∨ (100 ≤ j ∧ j < 112)) → r j = e j
def okD (D : gM → Option (Int32 × gM)) (e : Nat → Int32) (a : Nat → Nat) (v : Int32) (e' : Nat → Int32) (a' : Nat → Nat) : Prop := ∀ τ : gM, blkR τ 0 e a → ∃ τ2 : gM, D τ = some (v, τ2) ∧ (∀ i, 19 ≤ i ∨ i = 0 → τ2 i = τ i) ∧ blkR τ2 0 e' a'
def noD (D : gM → Option (Int32 × gM)) (e : Nat → Int32) (a : Nat → Nat) (n : Nat) : Prop := ∀ τ : gM, blkR τ 0 e a → ∃ τ2 : gM, D τ = some (-2 - nI n, τ2) ∧ ∀ i, i ≠ 4 → i ≠ 5 → i ≠ 6 → τ2 i = τ i
def okM (M : gM → Option (Int32 × gM)) (e : Nat → Int32) (a : Nat → Nat) (v : Int32) (e' : Nat → Int32) (a' : Nat → Nat) : Prop := ∀ τ : gM, rowE (τ 220) e a → ∃ τ2 : gM, M τ = some (v, τ2) ∧ (∀ i q, i ≠ 220 → i ≠ 226 → ¬ (i = 219 ∧ q = 12) → τ2 i q = τ i q) ∧ τ2 219 12 = 0 ∧ rowE (τ2 220) e' a'
def noM (M : gM → Option (Int32 × gM)) (e : Nat → Int32) (a : Nat → Nat) (m : Int32) : Prop := ∀ τ : gM, rowE (τ 220) e a → ∃ (w : Int32) (τ2 : gM), M τ = some (w, τ2) ∧ (∀ i q, i ≠ 226 → ¬ (i = 219 ∧ q = 12) → τ2 i q = τ i q) ∧ τ2 219 12 = m
def fD (D : gM → Option (Int32 × gM)) (σ : gM) : Option ((Int32 × gM) ⊕ (Nat × gM)) := bd (f_X7_prepare σ) fun σ2 => bd2 (D σ2) fun r4 σ5 => bt2 (f_X12_recorded σ5 r4) (fun r7 σ8 => some (.inl (r7, σ8))) (fun n9 σ8 => some (.inr (n9, σ8)))
def fM (M : gM → Option (Int32 × gM)) (σ : gM) : Option (Int32 × gM) := bd (f_X13_begin σ) fun σ2 => bd2 (M σ2) fun r4 σ5 => bd2 (f_X13_kept σ5 r4) fun r7 σ8 => some (r7, σ8)
theorem blk_e {σ : gM} {k : Nat} {r r' : Nat → Int32} {a : Nat → Nat} (h36 : a 36 ≤ 12) (hr : ∀ j, j < 134 → (j = 38 ∨ j = 39 ∨ (100 ≤ j ∧ j < 112)) → r' j = r j) (B : blkR σ k r a) : blkR σ k r' a := by
  obtain ⟨b1, b2, b3, b4, b5, b6, b7, b8, b9⟩ := B
  refine ⟨b1, b2, b3, fun p hp => ?_, b5, b6.trans (hr 39 (by omega) (by omega)).symm, b7, b8.trans (hr 38 (by omega) (by omega)).symm, b9⟩
  obtain ⟨p1, p2, p3, p4, p5⟩ := b4 p hp
  exact ⟨p1, p2, p3, p4, p5.trans (hr _ (by omega) (by omega)).symm⟩
theorem chg_no {D M : gM → Option (Int32 × gM)} {σ : gM} {a : Nat → Nat} {c nx n : Nat} {m : Int32} (R : nowR σ a) (N : notR σ) (Hh : hisR σ c nx) (Sv : savR σ) (hn : n ≤ 4) (hm : ¬ m = 0) (hD : noD D (σ 220) a n) (hM : noM M (σ 220) a m) :
    ∃ (K σ5 : gM), fD D σ = some (.inr (n, K)) ∧ fM M K = some (0, σ5) ∧ σ5 219 12 = m ∧ inv σ5 := by
  obtain ⟨σ1, ep, h1, hb⟩ := e_prepare R Hh
  obtain ⟨hc, hx, g1, g2, g3, g4⟩ := id Hh
  have B1 : blkR σ1 0 (σ 220) a := blk_congr R.2.2.1 (fun o q p1 _ _ _ => by rw [h1 _ (by omega)]) (fun _ _ => rfl) R.1
  obtain ⟨K, eD, hK⟩ := hD σ1 B1
  have k220 : ∀ q, K 220 q = σ 220 q := fun q => by rw [hK 220 (by omega) (by omega) (by omega), h1 220 (by omega)]
  have hrow : rowE (cpR K 220 0 221 0 134 220) (σ 220) a := by
    have e : cpR K 220 0 221 0 134 220 = σ 220 := by rw [cpR_o (by decide)]; exact funext k220
    rw [e]
    exact ⟨R.2.1, fun _ _ _ => rfl⟩
  obtain ⟨w, τ2, eM, hτ, ht⟩ := hM _ hrow
  refine ⟨K, cpR τ2 221 0 220 0 134, ?_, ?_, ?_, fail_ok R N Hh Sv (fun i q hi hb => ?_)⟩
  · unfold fD
    rw [ep, bd_s, eD, bd2_s, rc_no n hn]; rfl
  · unfold fM
    rw [e_begin, bd_s, eM, bd2_s, e_unkept (by rw [ht]; exact hm)]; rfl
  · rw [cpR_o (by decide)]; exact ht
  · have h221 : i ≠ 221 := fun e => hi (by unfold irr; omega)
    have h226 : i ≠ 226 := fun e => hi (by unfold irr; omega)
    have hk : K i q = σ i q := by
      rw [hK i (fun e => hi (by unfold irr; omega)) (fun e => hi (by unfold irr; omega)) (fun e => hi (by unfold irr; omega)), h1 i hb]
    by_cases h220 : i = 220
    · subst h220
      by_cases hq : q < 134
      · rw [cpR_i hq, hτ 221 q (by decide) (by omega), cpR_i hq]; exact hk
      · rw [cpR_x (by omega), hτ 220 q (by decide) (by omega), cpR_o (by decide)]; exact hk
    · rw [cpR_o h220, hτ i q h226 (fun e => hi (by unfold irr; omega)), cpR_o h221]; exact hk
theorem chg_ok {D M : gM → Option (Int32 × gM)} {σ : gM} {a a' : Nat → Nat} {e' : Nat → Int32} {c nx : Nat} {v : Int32} (R : nowR σ a) (N : notR σ) (Hh : hisR σ c nx) (Sv : savR σ) (hv : 0 ≤ v) (hD : okD D (σ 220) a v e' a') (hM : okM M (σ 220) a v e' a') (hV : vdR e' a') :
    ∃ (K σ5 : gM), fD D σ = some (.inl (v, K)) ∧ fM M K = some (v, σ5) ∧ σ5 219 12 = 0 ∧ inv σ5 := by
  obtain ⟨σ1, ep, h1, hb⟩ := e_prepare R Hh
  obtain ⟨hc, hx, g1, g2, g3, g4⟩ := id Hh
  have B1 : blkR σ1 0 (σ 220) a := blk_congr R.2.2.1 (fun o q p1 _ _ _ => by rw [h1 _ (by omega)]) (fun _ _ => rfl) R.1
  obtain ⟨σ2, eD, h2, B2⟩ := hD σ1 B1
  have e199 : σ2 199 = σ 199 := by rw [h2 199 (by omega), h1 199 (by omega)]
  generalize hK : mset (mset σ2 199 1 (nI ((nx + 1) % 9))) 199 2 (nI (min (c + 1) 8)) = K
  have kk : ∀ i q, i ≠ 199 → K i q = σ2 i q := fun i q hi => by
    rw [← hK, mset_ne1 _ _ hi, mset_ne1 _ _ hi]
  have k220 : ∀ q, K 220 q = σ 220 q := fun q => by rw [kk 220 q (by decide), h2 220 (by omega), h1 220 (by omega)]
  have hrow : rowE (cpR K 220 0 221 0 134 220) (σ 220) a := by
    have e : cpR K 220 0 221 0 134 220 = σ 220 := by rw [cpR_o (by decide)]; exact funext k220
    rw [e]
    exact ⟨R.2.1, fun _ _ _ => rfl⟩
  obtain ⟨σ4, eM, h4, t4, r4, s4⟩ := hM _ hrow
  -- what is read of σ4
  have rd : ∀ i q, i ≠ 199 → i ≠ 220 → i ≠ 221 → i ≠ 226 → ¬ (i = 219 ∧ q = 12) → σ4 i q = σ2 i q := fun i q p1 p2 p3 p4 p5 => by
    rw [h4 i q p2 p4 p5, cpR_o p3, kk i q p1]
  have rs : ∀ i q, i ≠ 199 → i ≠ 220 → i ≠ 221 → i ≠ 226 → ¬ (i = 219 ∧ q = 12) → 19 ≤ i ∨ i = 0 → (i < 1 + 18 * (nx + 2) ∨ 1 + 18 * (nx + 2) + 18 ≤ i) → σ4 i q = σ i q := fun i q p1 p2 p3 p4 p5 p6 p7 => by
    rw [rd i q p1 p2 p3 p4 p5, h2 i p6, h1 i p7]
  have V' : vdR (σ4 220) a' := by
    obtain ⟨v1, v2, v3, v4, v5, v6, v7, v8⟩ := hV
    exact ⟨v1, v2, v3, v4, v5, fun p p1 p2 => ⟨(v6 p p1 p2).1, (s4 _ (by omega) (by omega)).trans (v6 p p1 p2).2⟩, v7, v8⟩
  have B4 : blkR σ4 0 (σ4 220) a' := blk_e V'.1 (fun j p1 p2 => s4 j p1 p2) (blk_congr V'.1 (fun o q p1 _ _ _ => rd _ q (by omega) (by omega) (by omega) (by omega) (by omega)) (fun _ _ => rfl) B2)
  have N' : notR σ4 := by
    obtain ⟨⟨n1, n2⟩, ⟨n3, n4⟩, ⟨t, t1, t2, t3, t4⟩, ⟨o, o1, o2, o3, o4⟩⟩ := N
    have u : ∀ i q, i = 0 ∨ (204 ≤ i ∧ i < 219) ∨ (222 ≤ i ∧ i ≠ 226) → σ4 i q = σ i q := fun i q hi => rs i q (by omega) (by omega) (by omega) (by omega) (by omega) (by omega) (by omega)
    have u9 : ∀ q, q ≠ 12 → σ4 219 q = σ 219 q := fun q hq => rs 219 q (by omega) (by omega) (by omega) (by omega) (by omega) (by omega) (by omega)
    refine ⟨⟨?_, ?_⟩, ⟨?_, ?_⟩, ⟨t, t1, ?_, ?_, fun j hj => ?_⟩, ⟨o, o1, ?_, ?_, fun j hj => ?_⟩⟩
    · rw [u 0 7 (by omega), u9 8 (by omega)]; exact n1
    · rw [u 0 7 (by omega)]; exact n2
    · rw [u 0 8 (by omega), u9 9 (by omega)]; exact n3
    · rw [u 0 8 (by omega)]; exact n4
    · rw [u 204 2 (by omega)]; exact t2
    · rw [u9 7 (by omega)]; exact t3
    · rw [u 205 j (by omega), u 224 j (by omega)]; exact t4 j hj
    · rw [u 217 1 (by omega)]; exact o2
    · rw [u9 11 (by omega)]; exact o3
    · rw [u 218 j (by omega), u 225 j (by omega)]; exact o4 j hj
  obtain ⟨σ5, e5, i5, t5⟩ := mut_ok (σ4 := σ4) (a' := a') R Hh Sv t4 ((rs 219 3 (by omega) (by omega) (by omega) (by omega) (by omega) (by omega) (by omega)).trans g3)
    (by rw [h4 199 1 (by omega) (by omega) (by omega), cpR_o (by decide), ← hK, mset_ne2 _ _ (by omega), mset_same])
    (by rw [h4 199 2 (by omega) (by omega) (by omega), cpR_o (by decide), ← hK, mset_same])
    (fun q hq => by rw [h4 221 q (by omega) (by omega) (by omega), cpR_i hq]; exact k220 q)
    (fun q => rs 222 q (by omega) (by omega) (by omega) (by omega) (by omega) (by omega) (by omega))
    (fun k o q p1 p2 p3 p4 => rs _ q (by omega) (by omega) (by omega) (by omega) (by omega) (by omega) (by omega))
    (blk_congr R.2.2.1 (fun o q p1 _ _ _ => by rw [rd _ q (by omega) (by omega) (by omega) (by omega) (by omega), h2 _ (by omega)]) (fun _ _ => rfl) hb)
    ⟨B4, r4, V'⟩ N' (rs 0 6 (by omega) (by omega) (by omega) (by omega) (by omega) (by omega) (by omega)) (rs 219 5 (by omega) (by omega) (by omega) (by omega) (by omega) (by omega) (by omega)) (fun q => rs 223 q (by omega) (by omega) (by omega) (by omega) (by omega) (by omega) (by omega)) v
  refine ⟨K, σ5, ?_, ?_, t5, i5⟩
  · unfold fD
    rw [ep, bd_s, eD, bd2_s, rc_ok hv hc hx (by rw [e199]; exact g1) (by rw [e199]; exact g2), hK]; rfl
  · unfold fM
    rw [e_begin, bd_s, eM, bd2_s, e5]; rfl
