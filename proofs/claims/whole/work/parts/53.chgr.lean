/-! a change that is right on both sides: done on both, or refused on both -/
def chgR (D M : gM → Option (Int32 × gM)) (c : Nat → Nat) : Prop := ∀ (e : Nat → Int32) (a : Nat → Nat), vdR e a → (∃ (v : Int32) (e' : Nat → Int32) (a' : Nat → Nat), 0 ≤ v ∧ okD D e a v e' a' ∧ okM M e a v e' a' ∧ vdR e' a') ∨ ∃ n : Nat, n ≤ 4 ∧ 1 ≤ c n ∧ c n ≤ 9 ∧ noD D e a n ∧ noM M e a (nI (c n))
theorem chg_turn {D M : gM → Option (Int32 × gM)} {c : Nat → Nat} {h : Nat → gM → Option (Int32 × gM × Int64 × UInt64)} {σ : gM} {lo : Int64} {dd : UInt64} (hc : chgR D M c) (I : inv σ) (hh : ∀ n τ, n ≤ 4 → 1 ≤ c n → h n τ = some (nI (c n), τ, lo, dd)) : invOk (bd4 (bt2 (fD D σ) (fun r σ1 => some (0, σ1, r.toInt64, dd)) h) fun r1 σ2 lo3 dd4 => bd2 (fM M σ2) fun r6 σ8 => bd (f_X13_thrown σ8) fun r9 => if r9 = r1 then if r1 = 0 then if (lg_cmp lo3 r6.toInt64) = 0 then some (σ8, lo3, dd4) else none else some (σ8, lo3, dd4) else none) := by
  obtain ⟨a, cc, nx, R, N, Hh, Sv⟩ := I
  rcases hc (σ 220) a R.2.2 with ⟨v, e', a', hv, h1, h2, h3⟩ | ⟨n, hn, c1, c9, h1, h2⟩
  · obtain ⟨K, σ5, p1, p2, p3, p4⟩ := chg_ok R N Hh Sv hv h1 h2 h3
    refine ⟨σ5, v.toInt64, dd, ?_, p4⟩
    rw [p1, bt2_l, bd4_s, p2, bd2_s, f_X13_thrown, p3, bd_s, if_pos rfl, if_pos rfl, lg_s, if_pos rfl]
  · have hz : ¬ nI (c n) = 0 := by rw [show (0 : Int32) = nI 0 from rfl, nI_inj (by omega) (by omega)]; omega
    obtain ⟨K, σ5, p1, p2, p3, p4⟩ := chg_no R N Hh Sv hn hz h1 h2
    refine ⟨σ5, lo, dd, ?_, p4⟩
    rw [p1, bt2_r, hh n K hn c1, bd4_s, p2, bd2_s, f_X13_thrown, p3, bd_s, if_pos rfl, if_neg hz]
theorem noD_i {D : gM → Option (Int32 × gM)} {e : Nat → Int32} {a : Nat → Nat} {n : Nat} (h : ∀ τ, blkR τ 0 e a → D τ = some (-2 - nI n, τ)) : noD D e a n := fun τ B => ⟨τ, h τ B, fun _ _ _ _ => rfl⟩
theorem noM_i {M : gM → Option (Int32 × gM)} {e : Nat → Int32} {a : Nat → Nat} {m : Int32} (h : ∀ τ, rowR (τ 220) a → M τ = some (0, mset τ 219 12 m)) : noM M e a m := fun τ hr => ⟨0, mset τ 219 12 m, h τ hr.1, fun _ _ _ p => thr p, mset_same _ _ _ _⟩
theorem okM_i {M : gM → Option (Int32 × gM)} {e e' : Nat → Int32} {a a' : Nat → Nat} {v : Int32} (h : ∀ τ, rowE (τ 220) e a → ∃ τ' : gM, M τ = some (v, mset τ' 219 12 0) ∧ (∀ i, i ≠ 220 → i ≠ 226 → τ' i = τ i) ∧ rowE (τ' 220) e' a') : okM M e a v e' a' := by
  intro τ hr
  obtain ⟨τ', h1, h2, h3⟩ := h τ hr
  refine ⟨_, h1, fun i q p1 p2 p3 => ?_, mset_same _ _ _ _, ?_⟩
  · rw [thr p3, h2 i p1 p2]
  · rw [show mset τ' 219 12 0 220 = τ' 220 from funext fun q => mset_ne1 _ _ (by decide)]; exact h3
theorem rowE_m {τ : gM} {e : Nat → Int32} {a : Nat → Nat} {j y : Nat} {x : Int32} (h : rowE (τ 220) e a) (hx : x = nI y) (hj : j ≠ 38 ∧ j ≠ 39 ∧ ¬ (100 ≤ j ∧ j < 112)) : rowE (mset τ 220 j x 220) e (pt a j y) := by
  obtain ⟨hr, he⟩ := h
  refine ⟨fun i i1 i2 i3 i4 => ?_, fun i i1 i2 => ?_⟩
  · by_cases hi : i = j
    · subst hi; rw [mset_same, pt_s, hx]
    · rw [mset_ne2 _ _ hi, pt_n hi]; exact hr i i1 i2 i3 i4
  · rw [mset_ne2 _ _ (by omega)]; exact he i i1 i2
theorem rowE_e {τ : gM} {e : Nat → Int32} {a : Nat → Nat} {j : Nat} {x : Int32} (h : rowE (τ 220) e a) (hj : j = 38 ∨ j = 39 ∨ (100 ≤ j ∧ j < 112)) : rowE (mset τ 220 j x 220) (pe e j x) a := by
  obtain ⟨hr, he⟩ := h
  refine ⟨fun i i1 i2 i3 i4 => ?_, fun i i1 i2 => ?_⟩
  · rw [mset_ne2 _ _ (by omega)]; exact hr i i1 i2 i3 i4
  · by_cases hi : i = j
    · subst hi; rw [mset_same, pe_s]
    · rw [mset_ne2 _ _ hi, pe_n hi]; exact he i i1 i2
theorem d_size {τ : gM} {e : Nat → Int32} {a : Nat → Nat} (B : blkR τ 0 e a) : f_X8_size τ = some (nI (a 36)) := by
  unfold f_X8_size
  rw [show τ 7 5 = _ from B.2.2.1]
theorem m_par_ok {τ : gM} {a : Nat → Nat} (hr : rowR (τ 220) a) (h36 : a 36 ≤ 12) {j : Nat} (h : j < a 36) : f_X13_isParcel τ (nI j) = some 1 := by
  unfold f_X13_isParcel
  rw [hr 36 (by omega) (by omega) (by omega) (by omega), in_ok h (by omega)]; rfl
theorem m_par_no {τ : gM} {a : Nat → Nat} (hr : rowR (τ 220) a) (h36 : a 36 ≤ 12) {x : Int32} (h : ¬ vp_in x (a 36)) : f_X13_isParcel τ x = some 0 := by
  unfold f_X13_isParcel
  rw [hr 36 (by omega) (by omega) (by omega) (by omega), in_no h (by omega)]; rfl
/-- the parcels of a block are changed, nothing else -/
theorem blk_par {τ τ2 : gM} {e e2 : Nat → Int32} {a a2 : Nat → Nat} (B : blkR τ 0 e a) (h : ∀ i, i < 7 ∨ 12 < i → τ2 i = τ i) (h5 : τ2 7 5 = nI (a2 36)) (ha : ∀ j, j < 36 ∨ j = 37 ∨ 112 ≤ j → a2 j = a j) (he : e2 38 = e 38 ∧ e2 39 = e 39) (hM : a 37 ≤ 8)
    (hp : ∀ p, p < a2 36 → τ2 8 p = nI (a2 (40 + p)) ∧ τ2 9 p = nI (a2 (52 + p)) ∧ τ2 10 p = nI (a2 (64 + p)) ∧ τ2 11 p = wh (a2 (76 + p)) (a2 (88 + p)) ∧ τ2 12 p = e2 (100 + p)) : blkR τ2 0 e2 a2 := by
  obtain ⟨b1, b2, b3, b4, b5, b6, b7, b8, b9⟩ := B
  refine ⟨fun i hi => ?_, ?_, h5, hp, ?_, ?_, fun i hi => ?_, ?_, fun i hi => ?_⟩
  · rw [ha i (by omega), h _ (by omega)]; exact b1 i hi
  · rw [roadsN_congr (b := a) (fun j hj => ha j (by omega)), h _ (by omega)]; exact b2
  · rw [ha 37 (by omega), h _ (by omega)]; exact b5
  · rw [he.2, h _ (by omega)]; exact b6
  · rw [ha 37 (by omega)] at hi
    rw [ha (112 + i) (by omega), ha (120 + i) (by omega), h _ (by omega), h _ (by omega)]; exact b7 i hi
  · rw [he.1, h _ (by omega)]; exact b8
  · rw [ha (128 + i) (by omega), ha (131 + i) (by omega), h _ (by omega), h _ (by omega)]; exact b9 i hi
