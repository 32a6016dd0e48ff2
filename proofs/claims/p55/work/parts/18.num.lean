/-! numbers -/
theorem g_nIt {t : Nat} (h : t ≤ 4096) : (nI t).toInt = t := by
  unfold nI
  rw [Int32.toInt_ofNat_of_lt (by omega)]
theorem g_nIc {t : Nat} (h : t ≤ 4096) : (nI t).toNatClampNeg = t := by
  rw [Int32.toNatClampNeg, g_nIt h]
  rfl
theorem g_vin {t L : Nat} (h : t ≤ 4096) (hL : t < L) : vp_in (nI t) L := by
  unfold vp_in
  rw [g_nIc h]
  intro q
  rcases q with q | q
  · rw [Int32.lt_iff_toInt_lt, g_nIt h] at q
    simp at q
    omega
  · omega
theorem g_nIadd {t j : Nat} (h : t + j ≤ 4096) : nI t + nI j = nI (t + j) := by
  apply g_toInt_inj
  rw [Int32.toInt_add, g_nIt (by omega), g_nIt (by omega), g_nIt h]
  unfold Int.bmod
  dsimp only
  split <;> omega
theorem g_nIsub {t j : Nat} (h : t ≤ 4096) (hj : j ≤ 4096) : (nI t - nI j).toInt = (t : Int) - j := by
  rw [Int32.toInt_sub, g_nIt h, g_nIt hj]
  unfold Int.bmod
  dsimp only
  split <;> omega
