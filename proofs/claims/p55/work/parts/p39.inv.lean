/-! THE INVARIANT -/
/-- a block is read at these places only -/
theorem blk_congr {σ σ' : gM} {k k' : Nat} {r r' : Nat → Int32} {a : Nat → Nat} (h36 : a 36 ≤ 12) (h : ∀ o q, o < 18 → o ≠ 3 → o ≠ 4 → o ≠ 5 → σ' (1 + 18 * k' + o) q = σ (1 + 18 * k + o) q) (hr : ∀ q, q < 134 → r' q = r q) (B : blkR σ k r a) : blkR σ' k' r' a := by
  obtain ⟨b1, b2, b3, b4, b5, b6, b7, b8, b9⟩ := B
  refine ⟨fun q hq => (h 2 q (by omega) (by omega) (by omega) (by omega)).trans (b1 q hq), (h 1 4 (by omega) (by omega) (by omega) (by omega)).trans b2, (h 6 5 (by omega) (by omega) (by omega) (by omega)).trans b3, fun p hp => ?_, (h 12 2 (by omega) (by omega) (by omega) (by omega)).trans b5, ?_, fun q hq => ?_, ?_, fun q hq => ?_⟩
  · obtain ⟨p1, p2, p3, p4, p5⟩ := b4 p hp
    exact ⟨(h 7 p (by omega) (by omega) (by omega) (by omega)).trans p1, (h 8 p (by omega) (by omega) (by omega) (by omega)).trans p2, (h 9 p (by omega) (by omega) (by omega) (by omega)).trans p3, (h 10 p (by omega) (by omega) (by omega) (by omega)).trans p4, ((h 11 p (by omega) (by omega) (by omega) (by omega)).trans p5).trans (hr _ (by omega)).symm⟩
  · exact ((h 12 3 (by omega) (by omega) (by omega) (by omega)).trans b6).trans (hr 39 (by omega)).symm
  · exact ⟨(h 13 q (by omega) (by omega) (by omega) (by omega)).trans (b7 q hq).1, (h 14 q (by omega) (by omega) (by omega) (by omega)).trans (b7 q hq).2⟩
  · exact ((h 15 2 (by omega) (by omega) (by omega) (by omega)).trans b8).trans (hr 38 (by omega)).symm
  · exact ⟨(h 16 q (by omega) (by omega) (by omega) (by omega)).trans (b9 q hq).1, (h 17 q (by omega) (by omega) (by omega) (by omega)).trans (b9 q hq).2⟩
theorem vd_congr {r r' : Nat → Int32} {a : Nat → Nat} (hr : ∀ q, q < 134 → r' q = r q) (h : vdR r a) : vdR r' a := by
  obtain ⟨v1, v2, v3, v4, v5, v6, v7, v8⟩ := h
  exact ⟨v1, v2, v3, v4, v5, fun p h1 h2 => ⟨(v6 p h1 h2).1, (hr _ (by omega)).trans (v6 p h1 h2).2⟩, v7, v8⟩
/-- the beginning -/
def aN0 : Nat → Nat := fun j => if 131 ≤ j ∧ j < 134 then 30 else 0
theorem aN0_z {j : Nat} (h : j < 131) : aN0 j = 0 := if_neg (by omega)
theorem aN0_c {j : Nat} (h : j < 3) : aN0 (131 + j) = 30 := if_pos (by omega)
theorem now_0 : nowR σ0 (fun _ => 0) aN0 := by
  have e36 : aN0 36 = 0 := aN0_z (by omega)
  have e37 : aN0 37 = 0 := aN0_z (by omega)
  refine ⟨⟨fun i hi => ?_, rfl, rfl, fun p hp => ?_, rfl, rfl, fun i hi => ?_, rfl, fun i hi => ?_⟩, trivial, ⟨by omega, by omega, fun i j hi hj => ?_, fun i hi => ?_, fun p hp => ?_, fun p h1 h2 => ?_, fun i hi => ?_, fun i hi => ?_⟩⟩
  · rw [aN0_z (by omega)]; rfl
  · omega
  · omega
  · rw [aN0_z (by omega), aN0_c hi]
    rcases (show i = 0 ∨ i = 1 ∨ i = 2 by omega) with rfl | rfl | rfl <;> exact ⟨rfl, rfl⟩
  · rw [aN0_z (by omega), aN0_z (by omega)]; omega
  · rw [aN0_z (by omega)]
  · omega
  · exact ⟨⟨aN0_z (by omega), by rw [aN0_z (by omega)]; omega⟩, rfl⟩
  · omega
  · rw [aN0_z (by omega), aN0_c hi]
    unfold loadN
    rw [e36]
    exact ⟨by omega, by omega, by omega, Nat.zero_le _⟩
/-- the ring's numbers -/
def hisD (σ : gM) (c nx : Nat) : Prop := c ≤ 8 ∧ nx ≤ 8 ∧ σ 199 1 = nI nx ∧ σ 199 2 = nI c
theorem his_0 : hisD σ0 0 0 := ⟨by omega, by omega, rfl, rfl⟩
