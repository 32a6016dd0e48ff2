theorem nI_mul {k i : Nat} (hk : k ≤ 4096) (hi : i ≤ 4096) (h : k * i ≤ 4096) : nI k * nI i = nI (k * i) := by
  apply g_toInt_inj
  rw [Int32.toInt_mul, g_nIt hk, g_nIt hi, g_nIt h]
  have e : (k : Int) * (i : Int) = ((k * i : Nat) : Int) := by simp
  rw [e]
  unfold Int.bmod
  dsimp only
  split <;> omega
theorem ix36 {i j : Nat} (hi : i < 6) (hj : j < 6) : (nI i * 6) + nI j = nI (6 * i + j) := by
  rw [show (6 : Int32) = nI 6 from rfl, nI_mul (by omega) (by omega) (by omega), nI_al (by omega), Nat.mul_comm i 6]
theorem ixr {i j : Nat} (hi : i < 6) (hj : j < 6) : ((0 : Int32) + ((6 : Int32) * nI i)) + nI j = nI (6 * i + j) := by
  rw [show (6 : Int32) = nI 6 from rfl, nI_mul (by omega) (by omega) (by omega), show (0 : Int32) = nI 0 from rfl, nI_al (by omega), nI_al (by omega), Nat.zero_add]
theorem e_joins {σ : gM} {k : Nat} {r : Nat → Int32} {a : Nat → Nat} (B : blkR σ 0 r a) (hv : vdR r a) {i j : Nat} (hi : i < 6) (hj : j < 6) : f_X9_joins σ (nI i) (nI j) = some (if a (6 * i + j) = 0 then 0 else 1) := by
  have hb := (hv.2.2.1 i j hi hj).1
  unfold f_X9_joins
  rw [ix36 hi hj, nI_gi (by omega) (by omega), g_nIc (by omega), show σ 3 (6 * i + j) = _ from B.1 (6 * i + j) (by omega), show (0 : Int32) = nI 0 from rfl]
  simp (disch := omega) only [nI_leq]
  by_cases h : a (6 * i + j) = 0
  · rw [if_pos h, if_pos (by omega)]
  · rw [if_neg h, if_neg (by omega)]
theorem e_length {σ : gM} {r : Nat → Int32} {a : Nat → Nat} (B : blkR σ 0 r a) (hv : vdR r a) {i j : Nat} (hi : i < 6) (hj : j < 6) : f_X9_lengthBetween σ (nI i) (nI j) = some (if a (6 * i + j) = 0 then -1 else nI (a (6 * i + j))) := by
  unfold f_X9_lengthBetween
  rw [e_joins (k := 0) B hv hi hj, bd_s]
  by_cases h : a (6 * i + j) = 0
  · rw [if_pos h, if_pos rfl, if_pos h]
  · rw [if_neg h, if_neg (by decide), if_neg h, ix36 hi hj, nI_gi (by omega) (by omega), g_nIc (by omega), show σ 3 (6 * i + j) = _ from B.1 (6 * i + j) (by omega)]
theorem roadsN_le (a : Nat → Nat) : ∀ n, n ≤ 6 → sm (fun i => sm (fun j => if 0 < a (6 * i + j) then 1 else 0) i) n ≤ 36 := by
  intro n hn
  refine Nat.le_trans (sm_le (B := 6) (fun i hi => ?_)) (by omega)
  exact Nat.le_trans (sm_le (B := 1) (fun j hj => by split <;> omega)) (by omega)
