/-! THE INVARIANT -/
def hisR (σ : gM) (c nx : Nat) : Prop := c ≤ 8 ∧ nx ≤ 8 ∧ σ 199 1 = nI nx ∧ σ 199 2 = nI c ∧ σ 219 3 = nI c ∧
  ∀ i, i < c → ∃ b, blkR σ (2 + (nx + 9 - c + i) % 9) (fun q => σ 222 (134 * i + q)) b ∧ rowR (fun q => σ 222 (134 * i + q)) b ∧ vdR (fun q => σ 222 (134 * i + q)) b
def savR (σ : gM) : Prop := (σ 0 6 = 0 ∧ σ 219 5 = 0) ∨ (σ 0 6 = 1 ∧ σ 219 5 = 1 ∧ ∃ b, blkR σ 1 (σ 223) b ∧ rowR (σ 223) b ∧ vdR (σ 223) b)
def inv (σ : gM) : Prop := ∃ (a : Nat → Nat) (c nx : Nat), nowR σ a ∧ notR σ ∧ hisR σ c nx ∧ savR σ
def invOk (o : Option (gM × Int64 × UInt64)) : Prop := ∃ (σ' : gM) (lo : Int64) (dd : UInt64), o = some (σ', lo, dd) ∧ inv σ'
/-- a block is read at these places only -/
theorem blk_congr {σ σ' : gM} {k k' : Nat} {r r' : Nat → Int32} {a : Nat → Nat} (h36 : a 36 ≤ 12) (h : ∀ o q, o < 18 → o ≠ 3 → o ≠ 4 → o ≠ 5 → σ' (1 + 18 * k' + o) q = σ (1 + 18 * k + o) q) (hr : ∀ q, q < 134 → r' q = r q) (B : blkR σ k r a) : blkR σ' k' r' a := by
  obtain ⟨b1, b2, b3, b4, b5, b6, b7, b8, b9⟩ := B
  refine ⟨fun q hq => (h 2 q (by omega) (by omega) (by omega) (by omega)).trans (b1 q hq), (h 1 4 (by omega) (by omega) (by omega) (by omega)).trans b2, (h 6 5 (by omega) (by omega) (by omega) (by omega)).trans b3, fun p hp => ?_, (h 12 2 (by omega) (by omega) (by omega) (by omega)).trans b5, ?_, fun q hq => ?_, ?_, fun q hq => ?_⟩
  · obtain ⟨p1, p2, p3, p4, p5⟩ := b4 p hp
    exact ⟨(h 7 p (by omega) (by omega) (by omega) (by omega)).trans p1, (h 8 p (by omega) (by omega) (by omega) (by omega)).trans p2, (h 9 p (by omega) (by omega) (by omega) (by omega)).trans p3, (h 10 p (by omega) (by omega) (by omega) (by omega)).trans p4, ((h 11 p (by omega) (by omega) (by omega) (by omega)).trans p5).trans (hr _ (by omega)).symm⟩
  · exact ((h 12 3 (by omega) (by omega) (by omega) (by omega)).trans b6).trans (hr 39 (by omega)).symm
  · exact ⟨(h 13 q (by omega) (by omega) (by omega) (by omega)).trans (b7 q hq).1, (h 14 q (by omega) (by omega) (by omega) (by omega)).trans (b7 q hq).2⟩
  · exact ((h 15 2 (by omega) (by omega) (by omega) (by omega)).trans b8).trans (hr 38 (by omega)).symm
  · exact ⟨(h 16 q (by omega) (by omega) (by omega) (by omega)).trans (b9 q hq).1, (h 17 q (by omega) (by omega) (by omega) (by omega)).trans (b9 q hq).2⟩
theorem row_congr {r r' : Nat → Int32} {a : Nat → Nat} (hr : ∀ q, q < 134 → r' q = r q) (h : rowR r a) : rowR r' a := fun j h1 h2 h3 h4 => (hr j h1).trans (h j h1 h2 h3 h4)
theorem vd_congr {r r' : Nat → Int32} {a : Nat → Nat} (hr : ∀ q, q < 134 → r' q = r q) (h : vdR r a) : vdR r' a := by
  obtain ⟨v1, v2, v3, v4, v5, v6, v7, v8⟩ := h
  exact ⟨v1, v2, v3, v4, v5, fun p h1 h2 => ⟨(v6 p h1 h2).1, (hr _ (by omega)).trans (v6 p h1 h2).2⟩, v7, v8⟩
theorem now_eqv {σ σ' : gM} {a : Nat → Nat} (h : eqv σ σ') (R : nowR σ a) : nowR σ' a := by
  have hr : ∀ q, q < 134 → σ' 220 q = σ 220 q := fun q _ => h 220 q (by unfold irr; omega)
  exact ⟨blk_congr R.2.2.1 (fun o q h1 h2 h3 h4 => h _ q (by unfold irr; omega)) hr R.1, row_congr hr R.2.1, vd_congr hr R.2.2⟩
theorem inv_eqv {σ σ' : gM} (h : eqv σ σ') (I : inv σ) : inv σ' := by
  obtain ⟨a, c, nx, R, ⟨⟨n1, n2⟩, ⟨n3, n4⟩, ⟨t, t1, t2, t3, t4⟩, ⟨o, o1, o2, o3, o4⟩⟩, ⟨h1, h2, h3, h4, h5, h6⟩, s⟩ := I
  have e07 := h 0 7 (by unfold irr; omega)
  have e08 := h 0 8 (by unfold irr; omega)
  refine ⟨a, c, nx, now_eqv h R, ⟨⟨?_, ?_⟩, ⟨?_, ?_⟩, ⟨t, t1, ?_, ?_, fun j hj => ?_⟩, ⟨o, o1, ?_, ?_, fun j hj => ?_⟩⟩, ⟨h1, h2, ?_, ?_, ?_, fun i hi => ?_⟩, ?_⟩
  · rw [e07, h 219 8 (by unfold irr; omega)]; exact n1
  · rw [e07]; exact n2
  · rw [e08, h 219 9 (by unfold irr; omega)]; exact n3
  · rw [e08]; exact n4
  · rw [h 204 2 (by unfold irr; omega)]; exact t2
  · rw [h 219 7 (by unfold irr; omega)]; exact t3
  · rw [h 205 j (by unfold irr; omega), h 224 j (by unfold irr; omega)]; exact t4 j hj
  · rw [h 217 1 (by unfold irr; omega)]; exact o2
  · rw [h 219 11 (by unfold irr; omega)]; exact o3
  · rw [h 218 j (by unfold irr; omega), h 225 j (by unfold irr; omega)]; exact o4 j hj
  · rw [h 199 1 (by unfold irr; omega)]; exact h3
  · rw [h 199 2 (by unfold irr; omega)]; exact h4
  · rw [h 219 3 (by unfold irr; omega)]; exact h5
  · obtain ⟨b, b1, b2, b3⟩ := h6 i hi
    have hr : ∀ q, q < 134 → σ' 222 (134 * i + q) = σ 222 (134 * i + q) := fun q _ => h 222 _ (by unfold irr; omega)
    have hm : (nx + 9 - c + i) % 9 < 9 := Nat.mod_lt _ (by omega)
    exact ⟨b, blk_congr b3.1 (fun o q h1 h2 h3 h4 => h _ q (by unfold irr; omega)) hr b1, row_congr hr b2, vd_congr hr b3⟩
  · rcases s with ⟨s1, s2⟩ | ⟨s1, s2, b, b1, b2, b3⟩
    · exact Or.inl ⟨(h 0 6 (by unfold irr; omega)).trans s1, (h 219 5 (by unfold irr; omega)).trans s2⟩
    · have hr : ∀ q, q < 134 → σ' 223 q = σ 223 q := fun q _ => h 223 _ (by unfold irr; omega)
      exact Or.inr ⟨(h 0 6 (by unfold irr; omega)).trans s1, (h 219 5 (by unfold irr; omega)).trans s2, b, blk_congr b3.1 (fun o q h1 h2 h3 h4 => h _ q (by unfold irr; omega)) hr b1, row_congr hr b2, vd_congr hr b3⟩
theorem inv_q {σ : gM} {o : Option (gM × Int64 × UInt64)} (I : inv σ) (h : tOk σ o) : invOk o := by
  obtain ⟨σ', lo, dd, e, he⟩ := h
  exact ⟨σ', lo, dd, e, inv_eqv he I⟩
theorem q_undoCount {σ : gM} (I : inv σ) (lo : Int64) (dd : UInt64) (a1 a2 a3 : Int32) : tOk σ (f_T_48 σ lo dd a1 a2 a3) := by
  obtain ⟨a, c, nx, -, -, ⟨-, -, -, h4, h5, -⟩, -⟩ := I
  unfold f_T_48 f_X12_undoCount f_X13_undoCount f_X7_size f_X13_done
  refine ⟨mset σ 219 12 0, lo, dd, ?_, eqv_m eqv.rf irr_t _⟩
  rw [bd_s, bd_s, nm_s, bd2_s, bd2_s, h4, h5, if_pos rfl]
/-- what a turn has to do -/
def turnOk (f : gM → Int64 → UInt64 → Int32 → Int32 → Int32 → Option (gM × Int64 × UInt64)) : Prop := ∀ (σ : gM) (lo : Int64) (dd : UInt64) (a1 a2 a3 : Int32), inv σ → invOk (f σ lo dd a1 a2 a3)
theorem turn_q {f : gM → Int64 → UInt64 → Int32 → Int32 → Int32 → Option (gM × Int64 × UInt64)} (h : ∀ (σ : gM) (a : Nat → Nat), nowR σ a → ∀ lo dd a1 a2 a3, tOk σ (f σ lo dd a1 a2 a3)) : turnOk f := by
  intro σ lo dd a1 a2 a3 I
  obtain ⟨a, c, nx, R, h2⟩ := id I
  exact inv_q I (h σ a R lo dd a1 a2 a3)
theorem turn_n {f : gM → Int64 → UInt64 → Int32 → Int32 → Int32 → Option (gM × Int64 × UInt64)} (h : ∀ (σ : gM), notR σ → ∀ lo dd a1 a2 a3, tOk σ (f σ lo dd a1 a2 a3)) : turnOk f := by
  intro σ lo dd a1 a2 a3 I
  obtain ⟨a, c, nx, R, N, h2⟩ := id I
  exact inv_q I (h σ N lo dd a1 a2 a3)
theorem turn_i {f : gM → Int64 → UInt64 → Int32 → Int32 → Int32 → Option (gM × Int64 × UInt64)} (h : ∀ (σ : gM), inv σ → ∀ lo dd a1 a2 a3, tOk σ (f σ lo dd a1 a2 a3)) : turnOk f := fun σ lo dd a1 a2 a3 I => inv_q I (h σ I lo dd a1 a2 a3)
theorem k_T_8 : turnOk f_T_8 := turn_q (fun σ a R lo dd a1 a2 a3 => q_roadCount R lo dd a1 a2 a3)
theorem k_T_9 : turnOk f_T_9 := turn_q (fun σ a R lo dd a1 a2 a3 => q_roadLength R lo dd a1 a2 a3)
theorem k_T_13 : turnOk f_T_13 := turn_q (fun σ a R lo dd a1 a2 a3 => q_parcelCount R lo dd a1 a2 a3)
theorem k_T_14 : turnOk f_T_14 := turn_q (fun σ a R lo dd a1 a2 a3 => q_weight R lo dd a1 a2 a3)
theorem k_T_15 : turnOk f_T_15 := turn_q (fun σ a R lo dd a1 a2 a3 => q_hazard R lo dd a1 a2 a3)
theorem k_T_16 : turnOk f_T_16 := turn_q (fun σ a R lo dd a1 a2 a3 => q_destination R lo dd a1 a2 a3)
theorem k_T_17 : turnOk f_T_17 := turn_q (fun σ a R lo dd a1 a2 a3 => q_state R lo dd a1 a2 a3)
theorem k_T_18 : turnOk f_T_18 := turn_q (fun σ a R lo dd a1 a2 a3 => q_sackOf R lo dd a1 a2 a3)
theorem k_T_19 : turnOk f_T_19 := turn_q (fun σ a R lo dd a1 a2 a3 => q_returns R lo dd a1 a2 a3)
theorem k_T_20 : turnOk f_T_20 := turn_q (fun σ a R lo dd a1 a2 a3 => q_waitingCount R lo dd a1 a2 a3)
theorem k_T_21 : turnOk f_T_21 := turn_q (fun σ a R lo dd a1 a2 a3 => q_deliveredCount R lo dd a1 a2 a3)
theorem k_T_22 : turnOk f_T_22 := turn_q (fun σ a R lo dd a1 a2 a3 => q_gloveCount R lo dd a1 a2 a3)
theorem k_T_23 : turnOk f_T_23 := turn_q (fun σ a R lo dd a1 a2 a3 => q_grade R lo dd a1 a2 a3)
theorem k_T_24 : turnOk f_T_24 := turn_q (fun σ a R lo dd a1 a2 a3 => q_usesLeft R lo dd a1 a2 a3)
theorem k_T_25 : turnOk f_T_25 := turn_q (fun σ a R lo dd a1 a2 a3 => q_gloveFor R lo dd a1 a2 a3)
theorem k_T_26 : turnOk f_T_26 := turn_q (fun σ a R lo dd a1 a2 a3 => q_canHandle R lo dd a1 a2 a3)
theorem k_T_29 : turnOk f_T_29 := turn_q (fun σ a R lo dd a1 a2 a3 => q_place R lo dd a1 a2 a3)
theorem k_T_30 : turnOk f_T_30 := turn_q (fun σ a R lo dd a1 a2 a3 => q_capacity R lo dd a1 a2 a3)
theorem k_T_31 : turnOk f_T_31 := turn_q (fun σ a R lo dd a1 a2 a3 => q_load R lo dd a1 a2 a3)
theorem k_T_32 : turnOk f_T_32 := turn_q (fun σ a R lo dd a1 a2 a3 => q_parcelsIn R lo dd a1 a2 a3)
theorem k_T_36 : turnOk f_T_36 := turn_q (fun σ a R lo dd a1 a2 a3 => q_effortSoFar R lo dd a1 a2 a3)
theorem k_T_37 : turnOk f_T_37 := turn_q (fun σ a R lo dd a1 a2 a3 => q_glovesUsedUp R lo dd a1 a2 a3)
theorem k_T_39 : turnOk f_T_39 := turn_q (fun σ a R lo dd a1 a2 a3 => q_meanHazard R lo dd a1 a2 a3)
theorem k_T_40 : turnOk f_T_40 := turn_q (fun σ a R lo dd a1 a2 a3 => q_deliveredShare R lo dd a1 a2 a3)
theorem k_T_44 : turnOk f_T_44 := turn_n (fun σ N lo dd a1 a2 a3 => q_errorPosition N lo dd a1 a2 a3)
theorem k_T_45 : turnOk f_T_45 := turn_n (fun σ N lo dd a1 a2 a3 => q_failedCommand N lo dd a1 a2 a3)
theorem k_T_47 : turnOk f_T_47 := turn_n (fun σ N lo dd a1 a2 a3 => q_outputChar N lo dd a1 a2 a3)
theorem k_T_48 : turnOk f_T_48 := turn_i (fun σ I lo dd a1 a2 a3 => q_undoCount I lo dd a1 a2 a3)
/-- the beginning -/
def aN0 : Nat → Nat := fun j => if 131 ≤ j ∧ j < 134 then 30 else 0
theorem aN0_z {j : Nat} (h : j < 131) : aN0 j = 0 := if_neg (by omega)
theorem aN0_c {j : Nat} (h : j < 3) : aN0 (131 + j) = 30 := if_pos (by omega)
theorem g0_z {j : Nat} (h : j < 131) : σ0 220 j = 0 := by
  show upd (upd (upd (fun _ => 0) 131 30) 132 30) 133 30 j = 0
  unfold upd
  rw [if_neg (by omega), if_neg (by omega), if_neg (by omega)]
theorem now_0 : nowR σ0 aN0 := by
  have e36 : aN0 36 = 0 := aN0_z (by omega)
  have e37 : aN0 37 = 0 := aN0_z (by omega)
  refine ⟨⟨fun i hi => ?_, rfl, rfl, fun p hp => ?_, rfl, rfl, fun i hi => ?_, rfl, fun i hi => ?_⟩, fun j h1 h2 h3 h4 => ?_, ⟨by omega, by omega, fun i j hi hj => ?_, fun i hi => ?_, fun p hp => ?_, fun p h1 h2 => ?_, fun i hi => ?_, fun i hi => ?_⟩⟩
  · rw [aN0_z (by omega)]; rfl
  · omega
  · omega
  · rw [aN0_z (by omega), aN0_c hi]
    rcases (show i = 0 ∨ i = 1 ∨ i = 2 by omega) with rfl | rfl | rfl <;> exact ⟨rfl, rfl⟩
  · by_cases h : j < 131
    · rw [aN0_z h, g0_z h]; rfl
    · rcases (show j = 131 ∨ j = 132 ∨ j = 133 by omega) with rfl | rfl | rfl <;> rfl
  · rw [aN0_z (by omega), aN0_z (by omega)]; omega
  · rw [aN0_z (by omega)]
  · omega
  · exact ⟨⟨aN0_z (by omega), by rw [aN0_z (by omega)]; omega⟩, g0_z (by omega)⟩
  · omega
  · rw [aN0_z (by omega), aN0_c hi]
    unfold loadN
    rw [e36]
    exact ⟨by omega, by omega, by omega, Nat.zero_le _⟩
theorem inv_0 : inv σ0 :=
  ⟨aN0, 0, 0, now_0, ⟨⟨rfl, Or.inl rfl⟩, ⟨rfl, Or.inl rfl⟩, ⟨0, by omega, rfl, rfl, fun j hj => absurd hj (Nat.not_lt_zero j)⟩, ⟨0, by omega, rfl, rfl, fun j hj => absurd hj (Nat.not_lt_zero j)⟩⟩, ⟨by omega, by omega, rfl, rfl, rfl, fun i hi => absurd hi (Nat.not_lt_zero i)⟩, Or.inl ⟨rfl, rfl⟩⟩
/-- all turns, from each of them -/
theorem run_ok (hT : ∀ (σ : gM) (lo : Int64) (dd : UInt64) (x a1 a2 a3 : Int32), inv σ → invOk (f_T σ lo dd x a1 a2 a3)) {L : Nat} {xs : Nat → Int32} : ∀ (n t : Nat) (σ : gM) (lo : Int64) (dd : UInt64), inv σ → L < 4 * (t + n) + 4 → f_run L xs (n + 1) t σ lo dd = some () := by
  intro n
  induction n with
  | zero =>
    intro t σ lo dd I hL
    rw [f_run, if_pos (by omega)]
  | succ n ih =>
    intro t σ lo dd I hL
    rw [f_run]
    by_cases h : L < 4 * t + 4
    · rw [if_pos h]
    · rw [if_neg h]
      obtain ⟨σ', lo', dd', e, I'⟩ := hT σ lo dd (xs (4 * t)) (xs (4 * t + 1)) (xs (4 * t + 2)) (xs (4 * t + 3)) I
      rw [e]
      exact ih (t + 1) σ' lo' dd' I' (by omega)
