theorem cpR_o {σ : gM} {ja s jb t n i : Nat} (h : i ≠ jb) : cpR σ ja s jb t n i = σ i := by
  unfold cpR
  rw [rset_ne _ _ h]
theorem cpR_i {σ : gM} {ja jb n q : Nat} (h : q < n) : cpR σ ja 0 jb 0 n jb q = σ ja q := by
  unfold cpR
  rw [rset_eq, if_pos (by omega)]
  exact congrArg (σ ja) (by omega)
theorem cpR_x {σ : gM} {ja jb n q : Nat} (h : n ≤ q) : cpR σ ja 0 jb 0 n jb q = σ jb q := by
  unfold cpR
  rw [rset_eq, if_neg (by omega)]
/-- the memory after a refused change: made ready, noted before, thrown, put back -/
theorem fail_mem {σ σ1 : gM} {nx : Nat} (hx : nx ≤ 8) (h1 : ∀ i, i < 1 + 18 * (nx + 2) ∨ 1 + 18 * (nx + 2) + 18 ≤ i → σ1 i = σ i) (x : Int32) : ∀ i q, ¬ irr i q → (i < 1 + 18 * (nx + 2) ∨ 1 + 18 * (nx + 2) + 18 ≤ i) → cpR (mset (cpR σ1 220 0 221 0 134) 219 12 x) 221 0 220 0 134 i q = σ i q := by
  intro i q hi hb
  have h221 : i ≠ 221 := fun e => hi (by unfold irr; omega)
  rw [← h1 i hb]
  by_cases h220 : i = 220
  · subst h220
    by_cases hq : q < 134
    · rw [cpR_i hq, mset_ne1 _ _ (by decide), cpR_i hq]
    · rw [cpR_x (by omega), mset_ne1 _ _ (by decide), cpR_o (by decide)]
  · rw [cpR_o h220]
    by_cases h219 : i = 219
    · subst h219
      have hq : q ≠ 12 := fun e => hi (by unfold irr; omega)
      rw [mset_ne2 _ _ hq, cpR_o (by decide)]
    · rw [mset_ne1 _ _ h219, cpR_o h221]
theorem ac_no {σ : gM} (n : Nat) (h : n ≤ 4) : f_X12_accepted σ (-2 - nI n) = some (.inr n) := by
  rcases (show n = 0 ∨ n = 1 ∨ n = 2 ∨ n = 3 ∨ n = 4 by omega) with rfl | rfl | rfl | rfl | rfl <;> rfl
theorem rc_no {σ : gM} (n : Nat) (h : n ≤ 4) : f_X12_recorded σ (-2 - nI n) = some (.inr (n, σ)) := by
  unfold f_X12_recorded
  rw [ac_no n h]; rfl
theorem rc_ok {σ : gM} {x : Int32} (hx : 0 ≤ x) {c nx : Nat} (hc : c ≤ 8) (hn : nx ≤ 8) (h1 : σ 199 1 = nI nx) (h2 : σ 199 2 = nI c) : f_X12_recorded σ x = some (.inl (x, mset (mset σ 199 1 (nI ((nx + 1) % 9))) 199 2 (nI (min (c + 1) 8)))) := by
  unfold f_X12_recorded
  rw [ac_ok hx, bt_l, e_keep hc hn h1 h2]; rfl

theorem wi_ok {τ : gM} {lo hi g : Nat} (h1 : lo ≤ g) (h2 : g ≤ hi) (hh : hi ≤ 4096) : f_X12_isWithin τ (nI g) (nI lo) (nI hi) = some 1 := by
  unfold f_X12_isWithin
  simp (disch := omega) only [nI_ltq]
  rw [if_neg (by omega), if_neg (by omega)]
theorem wi_no {x : Int32} {lo hi : Nat} (hh : hi ≤ 4096) (hl : lo ≤ 4096) : (∃ g, lo ≤ g ∧ g ≤ hi ∧ x = nI g) ∨ ∀ τ : gM, f_X12_isWithin τ x (nI lo) (nI hi) = some 0 := by
  by_cases h1 : x < nI lo
  · refine Or.inr (fun τ => ?_)
    unfold f_X12_isWithin
    rw [if_pos h1]
  · by_cases h2 : nI hi < x
    · refine Or.inr (fun τ => ?_)
      unfold f_X12_isWithin
      rw [if_neg h1, if_pos h2]
    · refine Or.inl ?_
      rw [Int32.lt_iff_toInt_lt, g_nIt hl] at h1
      rw [Int32.lt_iff_toInt_lt, g_nIt hh] at h2
      refine ⟨x.toInt.toNat, by omega, by omega, ?_⟩
      apply g_toInt_inj
      rw [g_nIt (by omega)]
      omega
theorem e_prepare {σ : gM} {e : Nat → Int32} {a : Nat → Nat} {c nx : Nat} (R : nowR σ e a) (Hh : hisD σ c nx) : ∃ σ1 : gM, f_X7_prepare σ = some σ1 ∧ (∀ i, i < 1 + 18 * (nx + 2) ∨ 1 + 18 * (nx + 2) + 18 ≤ i → σ1 i = σ i) ∧ blkR σ1 (nx + 2) e a := by
  obtain ⟨hc, hx, g1, -⟩ := Hh
  obtain ⟨σ1, e1, h1, h2⟩ := e_copyFrom (σ := σ) (kt := nx + 2) (ko := 0) (by omega)
  refine ⟨σ1, ?_, h1, h2 _ _ R.2.2.1 R.2.2.2.1 R.1⟩
  unfold f_X7_prepare
  rw [g1, nI_gi (by omega) (by omega), g_nIc (by omega), e1]; rfl
