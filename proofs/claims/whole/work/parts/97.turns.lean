theorem h_turns : ∀ (σ : gM) (lo : Int64) (dd : UInt64) (x a1 a2 a3 : Int32), inv σ → invOk (f_T σ lo dd x a1 a2 a3) := by
  intro σ lo dd x a1 a2 a3 I
  unfold f_T
  by_cases c0 : x &&& 63 = 0
  · rw [if_pos c0]; exact k_T_0 σ lo dd a1 a2 a3 I
  rw [if_neg c0]
  by_cases c1 : x &&& 63 = 1
  · rw [if_pos c1]; exact k_T_1 σ lo dd a1 a2 a3 I
  rw [if_neg c1]
  by_cases c2 : x &&& 63 = 2
  · rw [if_pos c2]; exact k_T_2 σ lo dd a1 a2 a3 I
  rw [if_neg c2]
  by_cases c3 : x &&& 63 = 3
  · rw [if_pos c3]; exact k_T_3 σ lo dd a1 a2 a3 I
  rw [if_neg c3]
  by_cases c4 : x &&& 63 = 4
  · rw [if_pos c4]; exact k_T_4 σ lo dd a1 a2 a3 I
  rw [if_neg c4]
  by_cases c5 : x &&& 63 = 5
  · rw [if_pos c5]; exact k_T_5 σ lo dd a1 a2 a3 I
  rw [if_neg c5]
  by_cases c6 : x &&& 63 = 6
  · rw [if_pos c6]; exact k_T_6 σ lo dd a1 a2 a3 I
  rw [if_neg c6]
  by_cases c7 : x &&& 63 = 7
  · rw [if_pos c7]; exact k_T_7 σ lo dd a1 a2 a3 I
  rw [if_neg c7]
  by_cases c8 : x &&& 63 = 8
  · rw [if_pos c8]; exact k_T_8 σ lo dd a1 a2 a3 I
  rw [if_neg c8]
  by_cases c9 : x &&& 63 = 9
  · rw [if_pos c9]; exact k_T_9 σ lo dd a1 a2 a3 I
  rw [if_neg c9]
  by_cases c10 : x &&& 63 = 10
  · rw [if_pos c10]; exact k_T_10 σ lo dd a1 a2 a3 I
  rw [if_neg c10]
  by_cases c11 : x &&& 63 = 11
  · rw [if_pos c11]; exact k_T_11 σ lo dd a1 a2 a3 I
  rw [if_neg c11]
  by_cases c12 : x &&& 63 = 12
  · rw [if_pos c12]; exact k_T_12 σ lo dd a1 a2 a3 I
  rw [if_neg c12]
  by_cases c13 : x &&& 63 = 13
  · rw [if_pos c13]; exact k_T_13 σ lo dd a1 a2 a3 I
  rw [if_neg c13]
  by_cases c14 : x &&& 63 = 14
  · rw [if_pos c14]; exact k_T_14 σ lo dd a1 a2 a3 I
  rw [if_neg c14]
  by_cases c15 : x &&& 63 = 15
  · rw [if_pos c15]; exact k_T_15 σ lo dd a1 a2 a3 I
  rw [if_neg c15]
  by_cases c16 : x &&& 63 = 16
  · rw [if_pos c16]; exact k_T_16 σ lo dd a1 a2 a3 I
  rw [if_neg c16]
  by_cases c17 : x &&& 63 = 17
  · rw [if_pos c17]; exact k_T_17 σ lo dd a1 a2 a3 I
  rw [if_neg c17]
  by_cases c18 : x &&& 63 = 18
  · rw [if_pos c18]; exact k_T_18 σ lo dd a1 a2 a3 I
  rw [if_neg c18]
  by_cases c19 : x &&& 63 = 19
  · rw [if_pos c19]; exact k_T_19 σ lo dd a1 a2 a3 I
  rw [if_neg c19]
  by_cases c20 : x &&& 63 = 20
  · rw [if_pos c20]; exact k_T_20 σ lo dd a1 a2 a3 I
  rw [if_neg c20]
  by_cases c21 : x &&& 63 = 21
  · rw [if_pos c21]; exact k_T_21 σ lo dd a1 a2 a3 I
  rw [if_neg c21]
  by_cases c22 : x &&& 63 = 22
  · rw [if_pos c22]; exact k_T_22 σ lo dd a1 a2 a3 I
  rw [if_neg c22]
  by_cases c23 : x &&& 63 = 23
  · rw [if_pos c23]; exact k_T_23 σ lo dd a1 a2 a3 I
  rw [if_neg c23]
  by_cases c24 : x &&& 63 = 24
  · rw [if_pos c24]; exact k_T_24 σ lo dd a1 a2 a3 I
  rw [if_neg c24]
  by_cases c25 : x &&& 63 = 25
  · rw [if_pos c25]; exact k_T_25 σ lo dd a1 a2 a3 I
  rw [if_neg c25]
  by_cases c26 : x &&& 63 = 26
  · rw [if_pos c26]; exact k_T_26 σ lo dd a1 a2 a3 I
  rw [if_neg c26]
  by_cases c27 : x &&& 63 = 27
  · rw [if_pos c27]; exact k_T_27 σ lo dd a1 a2 a3 I
  rw [if_neg c27]
  by_cases c28 : x &&& 63 = 28
  · rw [if_pos c28]; exact k_T_28 σ lo dd a1 a2 a3 I
  rw [if_neg c28]
  by_cases c29 : x &&& 63 = 29
  · rw [if_pos c29]; exact k_T_29 σ lo dd a1 a2 a3 I
  rw [if_neg c29]
  by_cases c30 : x &&& 63 = 30
  · rw [if_pos c30]; exact k_T_30 σ lo dd a1 a2 a3 I
  rw [if_neg c30]
  by_cases c31 : x &&& 63 = 31
  · rw [if_pos c31]; exact k_T_31 σ lo dd a1 a2 a3 I
  rw [if_neg c31]
  by_cases c32 : x &&& 63 = 32
  · rw [if_pos c32]; exact k_T_32 σ lo dd a1 a2 a3 I
  rw [if_neg c32]
  by_cases c33 : x &&& 63 = 33
  · rw [if_pos c33]; exact k_T_33 σ lo dd a1 a2 a3 I
  rw [if_neg c33]
  by_cases c34 : x &&& 63 = 34
  · rw [if_pos c34]; exact k_T_34 σ lo dd a1 a2 a3 I
  rw [if_neg c34]
  by_cases c35 : x &&& 63 = 35
  · rw [if_pos c35]; exact k_T_35 σ lo dd a1 a2 a3 I
  rw [if_neg c35]
  by_cases c36 : x &&& 63 = 36
  · rw [if_pos c36]; exact k_T_36 σ lo dd a1 a2 a3 I
  rw [if_neg c36]
  by_cases c37 : x &&& 63 = 37
  · rw [if_pos c37]; exact k_T_37 σ lo dd a1 a2 a3 I
  rw [if_neg c37]
  by_cases c38 : x &&& 63 = 38
  · rw [if_pos c38]; exact k_T_38 σ lo dd a1 a2 a3 I
  rw [if_neg c38]
  by_cases c39 : x &&& 63 = 39
  · rw [if_pos c39]; exact k_T_39 σ lo dd a1 a2 a3 I
  rw [if_neg c39]
  by_cases c40 : x &&& 63 = 40
  · rw [if_pos c40]; exact k_T_40 σ lo dd a1 a2 a3 I
  rw [if_neg c40]
  by_cases c41 : x &&& 63 = 41
  · rw [if_pos c41]; exact k_T_41 σ lo dd a1 a2 a3 I
  rw [if_neg c41]
  by_cases c42 : x &&& 63 = 42
  · rw [if_pos c42]; exact k_T_42 σ lo dd a1 a2 a3 I
  rw [if_neg c42]
  by_cases c43 : x &&& 63 = 43
  · rw [if_pos c43]; exact k_T_43 σ lo dd a1 a2 a3 I
  rw [if_neg c43]
  by_cases c44 : x &&& 63 = 44
  · rw [if_pos c44]; exact k_T_44 σ lo dd a1 a2 a3 I
  rw [if_neg c44]
  by_cases c45 : x &&& 63 = 45
  · rw [if_pos c45]; exact k_T_45 σ lo dd a1 a2 a3 I
  rw [if_neg c45]
  by_cases c46 : x &&& 63 = 46
  · rw [if_pos c46]; exact k_T_46 σ lo dd a1 a2 a3 I
  rw [if_neg c46]
  by_cases c47 : x &&& 63 = 47
  · rw [if_pos c47]; exact k_T_47 σ lo dd a1 a2 a3 I
  rw [if_neg c47]
  by_cases c48 : x &&& 63 = 48
  · rw [if_pos c48]; exact k_T_48 σ lo dd a1 a2 a3 I
  rw [if_neg c48]
  by_cases c49 : x &&& 63 = 49
  · rw [if_pos c49]; exact k_T_49 σ lo dd a1 a2 a3 I
  rw [if_neg c49]
  by_cases c50 : x &&& 63 = 50
  · rw [if_pos c50]; exact k_T_50 σ lo dd a1 a2 a3 I
  rw [if_neg c50]
  by_cases c51 : x &&& 63 = 51
  · rw [if_pos c51]; exact k_T_51 σ lo dd a1 a2 a3 I
  rw [if_neg c51]
  exact ⟨σ, lo, dd, rfl, I⟩
theorem f_run_ok {L : Nat} {xs : Nat → Int32} (hL : L ≤ 2048) : f_run L xs 513 0 σ0 0 0 = some () := run_ok h_turns 512 0 σ0 0 0 inv_0 (by omega)
