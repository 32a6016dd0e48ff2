theorem e_rank {σ : gM} {a : Nat → Nat} (R : nowR σ a) {p : Nat} (hp : p < a 36) : f_X13_rank σ (nI p) = some (nI (rkN a p)) := by
  have hN : a 36 ≤ 12 := R.2.2.1
  have hr := R.2.1
  unfold f_X13_rank
  rw [show f_X13_rank_L4 (nI p) σ gFU 0 0 = some (nI (rkN a p)) from
    loop_sum (F := fun n i v => f_X13_rank_L4 (nI p) σ n v i) (fin := fun v => v) (by omega) (Nat.le_trans (sm_le (B := 1) (fun i hi => by split <;> (try split) <;> omega)) (by omega)) (fun n i v hi => ?_) (fun n v => ?_)]
  · rfl
  · obtain ⟨-, -, -, -, q5, q6⟩ := R.2.2.2.2.2.2.1 i hi
    show f_X13_rank_L4 (nI p) σ (n + 1) v (nI i) = f_X13_rank_L4 (nI p) σ n (v + nI (if a (76 + i) = 2 then 0 else if ahB a i p = true then 1 else 0)) (nI (i + 1))
    rw [f_X13_rank_L4, hr 36 (by omega) (by omega) (by omega) (by omega), show (76 : Int32) + nI i = nI (76 + i) from nI_al (k := 76) (by omega)]
    simp (disch := omega) only [nI_leq, if_neg, nI_gi, g_nIc, nm_s, nI_s]
    rw [hr (76 + i) (by omega) (by omega) (by omega) (by omega), e_ahead R hi hp, bd_s, show (2 : Int32) = nI 2 from rfl]
    simp (disch := omega) only [nI_inj]
    by_cases h1 : a (76 + i) = 2
    · rw [if_pos h1, if_pos h1]; rfl
    · rw [if_neg h1, if_neg h1]
      by_cases h2 : ahB a i p = true
      · rw [if_pos h2, if_pos h2, if_neg (by decide)]; rfl
      · rw [if_neg h2, if_neg h2, if_pos rfl]; rfl
  · show f_X13_rank_L4 (nI p) σ (n + 1) v (nI (a 36)) = _
    rw [f_X13_rank_L4, hr 36 (by omega) (by omega) (by omega) (by omega), if_pos (by rw [nI_leq (by omega) (by omega)]; omega)]
def hvB (a : Nat → Nat) (x : Int32) (j : Nat) : Bool := decide (a (76 + j) ≠ 2) && decide (nI (rkN a j) = x)
def hvR (a : Nat → Nat) (x : Int32) : Int32 ⊕ Unit := fnd (hvB a x) (fun j => .inl (nI j)) (.inr ()) 0 (a 36)
theorem e_atRank {σ : gM} {a : Nat → Nat} (R : nowR σ a) (x : Int32) : f_X8_atRank_L2 x σ gFU 0 = some (hvR a x) ∧ f_X13_heaviest_L2 x σ gFU 0 = some (hvR a x) := by
  have hN : a 36 ≤ 12 := R.2.2.1
  have hn : σ 7 5 = nI (a 36) := R.1.2.2.1
  have hr := R.2.1
  refine ⟨loop_find (F := fun n i => f_X8_atRank_L2 x σ n i) (by omega) (fun n i hi => ?_) (fun n => ?_), loop_find (F := fun n i => f_X13_heaviest_L2 x σ n i) (by omega) (fun n i hi => ?_) (fun n => ?_)⟩
  · obtain ⟨-, -, -, p4, -⟩ := R.1.2.2.2.1 i hi
    obtain ⟨-, -, -, -, q5, q6⟩ := R.2.2.2.2.2.2.1 i hi
    show f_X8_atRank_L2 x σ (n + 1) (nI i) = if hvB a x i = true then some (.inl (nI i)) else f_X8_atRank_L2 x σ n (nI (i + 1))
    rw [f_X8_atRank_L2, hn]
    simp (disch := omega) only [nI_leq, if_neg, nI_gi, g_nIc, nm_s, nI_s]
    rw [show σ 11 i = _ from p4, e_rankOf R hi, bd_s]
    simp only [wh_out q6 q5]
    by_cases h1 : a (76 + i) = 2
    · rw [if_pos h1, if_neg (by unfold hvB; simp [h1])]
    · rw [if_neg h1]
      by_cases h2 : nI (rkN a i) = x
      · rw [if_pos h2, if_pos (by unfold hvB; simp [h1, h2])]
      · rw [if_neg h2, if_neg (by unfold hvB; simp [h1, h2])]
  · show f_X8_atRank_L2 x σ (n + 1) (nI (a 36)) = _
    rw [f_X8_atRank_L2, hn, if_pos (by rw [nI_leq (by omega) (by omega)]; omega)]
  · obtain ⟨-, -, -, -, q5, q6⟩ := R.2.2.2.2.2.2.1 i hi
    show f_X13_heaviest_L2 x σ (n + 1) (nI i) = if hvB a x i = true then some (.inl (nI i)) else f_X13_heaviest_L2 x σ n (nI (i + 1))
    rw [f_X13_heaviest_L2, hr 36 (by omega) (by omega) (by omega) (by omega), show (76 : Int32) + nI i = nI (76 + i) from nI_al (k := 76) (by omega)]
    simp (disch := omega) only [nI_leq, if_neg, nI_gi, g_nIc, nm_s, nI_s]
    rw [hr (76 + i) (by omega) (by omega) (by omega) (by omega), e_rank R hi, bd_s, show (2 : Int32) = nI 2 from rfl]
    simp (disch := omega) only [nI_inj]
    by_cases h1 : a (76 + i) = 2
    · rw [if_pos h1, if_neg (by unfold hvB; simp [h1])]
    · rw [if_neg h1]
      by_cases h2 : nI (rkN a i) = x
      · rw [if_pos h2, if_pos (by unfold hvB; simp [h1, h2])]
      · rw [if_neg h2, if_neg (by unfold hvB; simp [h1, h2])]
  · show f_X13_heaviest_L2 x σ (n + 1) (nI (a 36)) = _
    rw [f_X13_heaviest_L2, hr 36 (by omega) (by omega) (by omega) (by omega), if_pos (by rw [nI_leq (by omega) (by omega)]; omega)]
