theorem wi_ok {τ : gM} {lo hi g : Nat} (h1 : lo ≤ g) (h2 : g ≤ hi) (hh : hi ≤ 4096) : f_X12_isWithin τ (nI g) (nI lo) (nI hi) = some 1 ∧ f_X13_in τ (nI g) (nI lo) (nI hi) = some 1 := by
  unfold f_X12_isWithin f_X13_in
  simp (disch := omega) only [nI_ltq]
  rw [if_neg (by omega), if_neg (by omega)]
  exact ⟨rfl, rfl⟩
theorem wi_no {x : Int32} {lo hi : Nat} (hh : hi ≤ 4096) (hl : lo ≤ 4096) : (∃ g, lo ≤ g ∧ g ≤ hi ∧ x = nI g) ∨ ∀ τ : gM, f_X12_isWithin τ x (nI lo) (nI hi) = some 0 ∧ f_X13_in τ x (nI lo) (nI hi) = some 0 := by
  by_cases h1 : x < nI lo
  · refine Or.inr (fun τ => ?_)
    unfold f_X12_isWithin f_X13_in
    rw [if_pos h1]
    exact ⟨rfl, rfl⟩
  · by_cases h2 : nI hi < x
    · refine Or.inr (fun τ => ?_)
      unfold f_X12_isWithin f_X13_in
      rw [if_neg h1, if_pos h2]
      exact ⟨rfl, rfl⟩
    · rw [Int32.lt_iff_toInt_lt, g_nIt hl] at h1
      rw [Int32.lt_iff_toInt_lt, g_nIt hh] at h2
      refine Or.inl ⟨x.toInt.toNat, by omega, by omega, ?_⟩
      apply g_toInt_inj
      rw [g_nIt (by omega)]
      omega
theorem e_prepare {σ : gM} {a : Nat → Nat} {c nx : Nat} (R : nowR σ a) (Hh : hisR σ c nx) : ∃ σ1 : gM, f_X7_prepare σ = some σ1 ∧ (∀ i, i < 1 + 18 * (nx + 2) ∨ 1 + 18 * (nx + 2) + 18 ≤ i → σ1 i = σ i) ∧ blkR σ1 (nx + 2) (σ 220) a := by
  obtain ⟨hc, hx, g1, -⟩ := Hh
  obtain ⟨σ1, e, h1, h2⟩ := e_copyFrom (σ := σ) (kt := nx + 2) (ko := 0) (by omega)
  refine ⟨σ1, ?_, h1, h2 _ _ R.2.2.1 R.2.2.2.1 R.1⟩
  unfold f_X7_prepare
  rw [g1, nI_gi (by omega) (by omega), g_nIc (by omega), e]; rfl
theorem e_begin {σ : gM} : f_X13_begin σ = some (cpR σ 220 0 221 0 134) := by
  unfold f_X13_begin
  rw [show f_X13_copy σ 220 134 0 221 134 0 = _ from e_copy (s := 0) (t := 0) (by decide) (by decide) (by decide) (by decide) (by decide)]; rfl
theorem e_unkept {σ : gM} {v : Int32} (h : ¬ σ 219 12 = 0) : f_X13_kept σ v = some (0, cpR σ 221 0 220 0 134) := by
  unfold f_X13_kept
  rw [if_neg h, show f_X13_copy σ 221 134 0 220 134 0 = _ from e_copy (s := 0) (t := 0) (by decide) (by decide) (by decide) (by decide) (by decide)]; rfl
theorem cpR_o {σ : gM} {ja s jb t n i : Nat} (h : i ≠ jb) : cpR σ ja s jb t n i = σ i := by
  unfold cpR
  rw [rset_ne _ _ h]
theorem cpR_i {σ : gM} {ja jb n q : Nat} (h : q < n) : cpR σ ja 0 jb 0 n jb q = σ ja q := by
  unfold cpR
  rw [rset_eq, if_pos (by omega)]
  exact congrArg (σ ja) (by omega)
theorem cpR_x {σ : gM} {ja jb n q : Nat} (h : n ≤ q) : cpR σ ja 0 jb 0 n jb q = σ jb q := by
  unfold cpR
  rw [rset_eq, if_neg (by omega)]
/-- a change that is refused -/
theorem fail_ok {σ σ' : gM} {a : Nat → Nat} {c nx : Nat} (R : nowR σ a) (N : notR σ) (Hh : hisR σ c nx) (Sv : savR σ) (h : ∀ i q, ¬ irr i q → (i < 1 + 18 * (nx + 2) ∨ 1 + 18 * (nx + 2) + 18 ≤ i) → σ' i q = σ i q) : inv σ' := by
  -- the ring's row that was made ready is none of the history's
  obtain ⟨hc, hx, g1, g2, g3, g4⟩ := Hh
  have e07 := h 0 7 (by unfold irr; omega) (by omega)
  have e08 := h 0 8 (by unfold irr; omega) (by omega)
  have hr : ∀ q, q < 134 → σ' 220 q = σ 220 q := fun q _ => h 220 q (by unfold irr; omega) (by omega)
  obtain ⟨⟨n1, n2⟩, ⟨n3, n4⟩, ⟨t, t1, t2, t3, t4⟩, ⟨o, o1, o2, o3, o4⟩⟩ := N
  refine ⟨a, c, nx, ⟨blk_congr R.2.2.1 (fun o q h1 h2 h3 h4 => h _ q (by unfold irr; omega) (by omega)) hr R.1, row_congr hr R.2.1, vd_congr hr R.2.2⟩, ⟨⟨?_, ?_⟩, ⟨?_, ?_⟩, ⟨t, t1, ?_, ?_, fun j hj => ?_⟩, ⟨o, o1, ?_, ?_, fun j hj => ?_⟩⟩, ⟨hc, hx, ?_, ?_, ?_, fun i hi => ?_⟩, ?_⟩
  · rw [e07, h 219 8 (by unfold irr; omega) (by omega)]; exact n1
  · rw [e07]; exact n2
  · rw [e08, h 219 9 (by unfold irr; omega) (by omega)]; exact n3
  · rw [e08]; exact n4
  · rw [h 204 2 (by unfold irr; omega) (by omega)]; exact t2
  · rw [h 219 7 (by unfold irr; omega) (by omega)]; exact t3
  · rw [h 205 j (by unfold irr; omega) (by omega), h 224 j (by unfold irr; omega) (by omega)]; exact t4 j hj
  · rw [h 217 1 (by unfold irr; omega) (by omega)]; exact o2
  · rw [h 219 11 (by unfold irr; omega) (by omega)]; exact o3
  · rw [h 218 j (by unfold irr; omega) (by omega), h 225 j (by unfold irr; omega) (by omega)]; exact o4 j hj
  · rw [h 199 1 (by unfold irr; omega) (by omega)]; exact g1
  · rw [h 199 2 (by unfold irr; omega) (by omega)]; exact g2
  · rw [h 219 3 (by unfold irr; omega) (by omega)]; exact g3
  · obtain ⟨b, b1, b2, b3⟩ := g4 i hi
    have hr : ∀ q, q < 134 → σ' 222 (134 * i + q) = σ 222 (134 * i + q) := fun q _ => h 222 _ (by unfold irr; omega) (by omega)
    have hm : (nx + 9 - c + i) % 9 < 9 := Nat.mod_lt _ (by omega)
    have hne : (nx + 9 - c + i) % 9 ≠ nx := by omega
    exact ⟨b, blk_congr b3.1 (fun o q h1 h2 h3 h4 => h _ q (by unfold irr; omega) (by omega)) hr b1, row_congr hr b2, vd_congr hr b3⟩
  · rcases Sv with ⟨s1, s2⟩ | ⟨s1, s2, b, b1, b2, b3⟩
    · exact Or.inl ⟨(h 0 6 (by unfold irr; omega) (by omega)).trans s1, (h 219 5 (by unfold irr; omega) (by omega)).trans s2⟩
    · have hr : ∀ q, q < 134 → σ' 223 q = σ 223 q := fun q _ => h 223 _ (by unfold irr; omega) (by omega)
      exact Or.inr ⟨(h 0 6 (by unfold irr; omega) (by omega)).trans s1, (h 219 5 (by unfold irr; omega) (by omega)).trans s2, b, blk_congr b3.1 (fun o q h1 h2 h3 h4 => h _ q (by unfold irr; omega) (by omega)) hr b1, row_congr hr b2, vd_congr hr b3⟩
/-- the memory after a refused change: made ready, noted before, thrown, put back -/
theorem fail_mem {σ σ1 : gM} {nx : Nat} (hx : nx ≤ 8) (h1 : ∀ i, i < 1 + 18 * (nx + 2) ∨ 1 + 18 * (nx + 2) + 18 ≤ i → σ1 i = σ i) (x : Int32) : ∀ i q, ¬ irr i q → (i < 1 + 18 * (nx + 2) ∨ 1 + 18 * (nx + 2) + 18 ≤ i) → cpR (mset (cpR σ1 220 0 221 0 134) 219 12 x) 221 0 220 0 134 i q = σ i q := by
  intro i q hi hb
  have h221 : i ≠ 221 := fun e => hi (by unfold irr; omega)
  rw [← h1 i hb]
  by_cases h220 : i = 220
  · subst h220
    by_cases hq : q < 134
    · rw [cpR_i hq, mset_ne1 _ _ (by decide), cpR_i hq]
    · rw [cpR_x (by omega), mset_ne1 _ _ (by decide), cpR_o (by decide)]
  · rw [cpR_o h220]
    by_cases h219 : i = 219
    · subst h219
      have hq : q ≠ 12 := fun e => hi (by unfold irr; omega)
      rw [mset_ne2 _ _ hq, cpR_o (by decide)]
    · rw [mset_ne1 _ _ h219, cpR_o h221]
theorem ac_no {σ : gM} (n : Nat) (h : n ≤ 4) : f_X12_accepted σ (-2 - nI n) = some (.inr n) := by
  rcases (show n = 0 ∨ n = 1 ∨ n = 2 ∨ n = 3 ∨ n = 4 by omega) with rfl | rfl | rfl | rfl | rfl <;> rfl
theorem rc_no {σ : gM} (n : Nat) (h : n ≤ 4) : f_X12_recorded σ (-2 - nI n) = some (.inr (n, σ)) := by
  unfold f_X12_recorded
  rw [ac_no n h]; rfl
theorem rc_ok {σ : gM} {x : Int32} (hx : 0 ≤ x) {c nx : Nat} (hc : c ≤ 8) (hn : nx ≤ 8) (h1 : σ 199 1 = nI nx) (h2 : σ 199 2 = nI c) : f_X12_recorded σ x = some (.inl (x, mset (mset σ 199 1 (nI ((nx + 1) % 9))) 199 2 (nI (min (c + 1) 8)))) := by
  unfold f_X12_recorded
  rw [ac_ok hx, bt_l, e_keep hc hn h1 h2]; rfl
