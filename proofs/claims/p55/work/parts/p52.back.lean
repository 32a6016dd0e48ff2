/-! a parcel comes back -/
def pe (e : Nat → Int32) (j : Nat) (x : Int32) : Nat → Int32 := fun i => if i = j then x else e i
theorem pe_s {e : Nat → Int32} {j : Nat} {x : Int32} : pe e j x j = x := if_pos rfl
theorem pe_n {e : Nat → Int32} {j i : Nat} {x : Int32} (h : i ≠ j) : pe e j x i = e i := if_neg h
/-- the hazard after a return -/
def hzN (a : Nat → Nat) (p : Nat) : Nat := if 3 ≤ a (52 + p) then a (52 + p) else a (52 + p) + 1
def bkA (a : Nat → Nat) (p : Nat) : Nat → Nat := pt (pt a (76 + p) 0) (52 + p) (hzN a p)
def bkE (e : Nat → Int32) (p : Nat) : Nat → Int32 := pe e (100 + p) (e (100 + p) + 1)
theorem bkA_n {a : Nat → Nat} {p j : Nat} (h1 : j ≠ 76 + p) (h2 : j ≠ 52 + p) : bkA a p j = a j := (pt_n h2).trans (pt_n h1)
theorem bkA_1 {a : Nat → Nat} {p : Nat} : bkA a p (76 + p) = 0 := (pt_n (by omega)).trans pt_s
theorem bkA_2 {a : Nat → Nat} {p : Nat} : bkA a p (52 + p) = hzN a p := pt_s
theorem back_V {e : Nat → Int32} {a : Nat → Nat} (V : vdR e a) {p : Nat} (hp : p < a 36) (hs : a (76 + p) = 2) : vdR (bkE e p) (bkA a p) := by
  obtain ⟨v1, v2, v3, v4, v5, v6, v7, v8⟩ := V
  have n36 : bkA a p 36 = a 36 := bkA_n (by omega) (by omega)
  have n37 : bkA a p 37 = a 37 := bkA_n (by omega) (by omega)
  have hz : hzN a p ≤ 3 := by
    have := (v5 p hp).2.2.1
    unfold hzN
    split <;> omega
  refine ⟨by omega, by omega, fun i j hi hj => ?_, fun i hi => ?_, fun q hq => ?_, fun q q1 q2 => ?_, fun i hi => ?_, fun i hi => ?_⟩
  · rw [bkA_n (by omega) (by omega), bkA_n (by omega) (by omega)]; exact v3 i j hi hj
  · rw [bkA_n (by omega) (by omega)]; exact v4 i hi
  · rw [n36] at hq
    rw [bkA_n (j := 40 + q) (by omega) (by omega), bkA_n (j := 64 + q) (by omega) (by omega), bkA_n (j := 88 + q) (by omega) (by omega)]
    obtain ⟨w1, w2, w3, w4, w5, w6⟩ := v5 q hq
    by_cases h : q = p
    · subst h
      rw [bkA_1, bkA_2]; exact ⟨w1, w2, hz, w4, by omega, w6⟩
    · rw [bkA_n (j := 52 + q) (by omega) (by omega), bkA_n (j := 76 + q) (by omega) (by omega)]; exact ⟨w1, w2, w3, w4, w5, w6⟩
  · rw [n36] at q1
    rw [bkA_n (by omega) (by omega), bkA_n (by omega) (by omega)]
    refine ⟨(v6 q q1 q2).1, ?_⟩
    unfold bkE
    rw [pe_n (by omega)]; exact (v6 q q1 q2).2
  · rw [n37] at hi
    rw [bkA_n (by omega) (by omega), bkA_n (by omega) (by omega)]; exact v7 i hi
  · rw [bkA_n (j := 128 + i) (by omega) (by omega), bkA_n (j := 131 + i) (by omega) (by omega)]
    obtain ⟨w1, w2, w3, w4⟩ := v8 i hi
    refine ⟨w1, w2, w3, ?_⟩
    have e : loadN (bkA a p) i = loadN a i := by
      unfold loadN
      rw [n36]
      refine sm_congr (fun q hq => ?_)
      rw [bkA_n (j := 40 + q) (by omega) (by omega), bkA_n (j := 88 + q) (by omega) (by omega)]
      by_cases h : q = p
      · subst h
        rw [bkA_1, hs, if_neg (by omega), if_neg (by omega)]
      · rw [bkA_n (j := 76 + q) (by omega) (by omega)]
    rw [e]; exact w4

