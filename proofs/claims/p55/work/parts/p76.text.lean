/-! texts -/
def gl : List Nat → Nat → Nat
  | [], _ => 0
  | x :: _, 0 => x
  | _ :: xs, j + 1 => gl xs j
theorem gl_app {M : List Nat} : ∀ {L : List Nat} {j : Nat}, j < L.length → gl (L ++ M) j = gl L j
  | [], j, h => absurd h (Nat.not_lt_zero _)
  | x :: xs, 0, _ => rfl
  | x :: xs, j + 1, h => gl_app (L := xs) (j := j) (Nat.lt_of_succ_lt_succ h)
theorem gl_end {c : Nat} : ∀ {L : List Nat}, gl (L ++ [c]) L.length = c
  | [] => rfl
  | _ :: xs => gl_end (L := xs)
def txt (z : gM) (i1 k1 i2 : Nat) (L : List Nat) : Prop := z i1 k1 = nI L.length ∧ ∀ j, j < L.length → z i2 j = nI (gl L j) ∧ gl L j ≤ 127
theorem txt_push {z : gM} {i1 k1 i2 c : Nat} {L : List Nat} (hi : i1 ≠ i2) (hc : c ≤ 127) (h : txt z i1 k1 i2 L) : txt (mset (mset z i2 L.length (nI c)) i1 k1 (nI (L.length + 1))) i1 k1 i2 (L ++ [c]) := by
  have hl : (L ++ [c]).length = L.length + 1 := by simp
  refine ⟨by rw [mset_same, hl], fun j hj => ?_⟩
  rw [hl] at hj
  rw [mset_ne1 _ _ (Ne.symm hi)]
  by_cases e : j = L.length
  · subst e
    rw [mset_same, gl_end]; exact ⟨rfl, hc⟩
  · rw [mset_ne2 _ _ e, gl_app (by omega)]; exact h.2 j (by omega)
theorem ch_all : ((List.range 128).all fun c => decide (((nI c).toUInt32 % 65536).toInt32 = nI c) && decide (vp_nar .char (nI c) = nI c)) = true := by decide +kernel
theorem ch_ok {c : Nat} (h : c ≤ 127) : ((nI c).toUInt32 % 65536).toInt32 = nI c ∧ vp_nar .char (nI c) = nI c := by
  have := List.all_eq_true.mp ch_all c (List.mem_range.mpr (by omega))
  simp only [Bool.and_eq_true, decide_eq_true_eq] at this
  exact this
theorem a_add {z : gM} {L : List Nat} {c : Nat} (h : txt z 217 1 218 L) (hl : L.length ≤ 99) (hc : c ≤ 127) : ∃ z' : gM, f_X10_add z (nI c) = some z' ∧ txt z' 217 1 218 (L ++ [c]) ∧ ∀ j, j ≠ 217 → j ≠ 218 → z' j = z j := by
  refine ⟨_, ?_, txt_push (by decide) hc h, fun j j1 j2 => funext fun q => by rw [mset_ne1 _ _ j1, mset_ne1 _ _ j2]⟩
  unfold f_X10_add
  rw [h.1, if_neg (by rw [show (100 : Int32) = nI 100 from rfl, nI_leq (by omega) (by omega)]; omega), nI_gi (by omega) (by omega), g_nIc (by omega), nm_s, nm_s, (ch_ok hc).2, mset_ne1 _ _ (by decide), h.1, nI_s (by omega)]
/-- a number's digits -/
def numL (x : Nat) : List Nat := if x < 10 then [48 + (x - x / 10 * 10)] else [48 + x / 10, 48 + (x - x / 10 * 10)]
theorem numL_len (x : Nat) : (numL x).length ≤ 2 ∧ 1 ≤ (numL x).length := by
  unfold numL
  split <;> simp
theorem e_d1 {x : Nat} (hx : x ≤ 99) : (48 : Int32) + (nI x - nI x / 10 * 10) = nI (48 + (x - x / 10 * 10)) := by
  have h1 : x / 10 ≤ 9 := by omega
  rw [show (10 : Int32) = nI 10 from rfl, nI_div (by omega) (by omega), nI_mul (by omega) (by omega) (by omega), nI_subn (by omega) (by omega)]
  exact nI_al (k := 48) (by omega)
theorem e_d2 {x : Nat} (hx : x ≤ 99) : (48 : Int32) + nI x / 10 = nI (48 + x / 10) := by
  rw [show (10 : Int32) = nI 10 from rfl, nI_div (by omega) (by omega)]
  exact nI_al (k := 48) (by omega)
theorem a_num {z : gM} {L : List Nat} {x : Nat} (h : txt z 217 1 218 L) (hx : x ≤ 99) (hl : L.length + (numL x).length ≤ 100) : ∃ z' : gM, f_X10_addNumber z (nI x) = some z' ∧ txt z' 217 1 218 (L ++ numL x) ∧ ∀ j, j ≠ 217 → j ≠ 218 → z' j = z j := by
  have b := numL_len x
  unfold f_X10_addNumber
  rw [e_d1 hx, e_d2 hx, (ch_ok (show 48 + (x - x / 10 * 10) ≤ 127 by omega)).1, (ch_ok (show 48 + x / 10 ≤ 127 by omega)).1, show (10 : Int32) = nI 10 from rfl]
  simp (disch := omega) only [nI_ltq]
  by_cases c : x < 10
  · have e : numL x = [48 + (x - x / 10 * 10)] := if_pos c
    obtain ⟨z', h1, h2, h3⟩ := a_add (c := 48 + (x - x / 10 * 10)) h (by omega) (by omega)
    rw [if_pos c, h1, e]
    exact ⟨z', rfl, h2, h3⟩
  · have e : numL x = [48 + x / 10, 48 + (x - x / 10 * 10)] := if_neg c
    rw [e] at hl
    have hl : L.length + 2 ≤ 100 := hl
    obtain ⟨z1, h1, h2, h3⟩ := a_add (c := 48 + x / 10) h (by omega) (by omega)
    obtain ⟨z2, k1, k2, k3⟩ := a_add (c := 48 + (x - x / 10 * 10)) h2 (by rw [List.length_append]; show L.length + 1 ≤ 99; omega) (by omega)
    rw [if_neg c, h1, bd_s, k1, e]
    refine ⟨z2, rfl, ?_, fun j j1 j2 => (k3 j j1 j2).trans (h3 j j1 j2)⟩
    rw [List.append_assoc] at k2
    exact k2
/-- what a parcel's part is -/
def parL (a : Nat → Nat) (p : Nat) : List Nat := [32] ++ numL (a (40 + p)) ++ List.replicate (a (52 + p)) 104 ++ [62] ++ numL (a (64 + p))
def sackL (a : Nat → Nat) (k : Nat) : Nat → List Nat
  | 0 => [115] ++ numL k ++ [64] ++ numL (a (128 + k))
  | n + 1 => if a (76 + n) = 1 ∧ a (88 + n) = k then sackL a k n ++ parL a n else sackL a k n
theorem num1 {x : Nat} (h : x < 10) : (numL x).length = 1 := by
  unfold numL
  rw [if_pos h]; rfl
theorem parL_len {e : Nat → Int32} {a : Nat → Nat} (V : vdR e a) {p : Nat} (hp : p < a 36) : (parL a p).length ≤ 8 := by
  obtain ⟨w1, w2, w3, w4, w5, w6⟩ := V.2.2.2.2.1 p hp
  have b := numL_len (a (40 + p))
  unfold parL
  simp only [List.length_append, List.length_replicate, num1 (show a (64 + p) < 10 by omega), List.length_cons, List.length_nil]
  omega
theorem sackL_len {e : Nat → Int32} {a : Nat → Nat} (V : vdR e a) {k : Nat} (hk : k < 3) : ∀ n, n ≤ a 36 → (sackL a k n).length ≤ 4 + 8 * n
  | 0, _ => by
    have := (V.2.2.2.2.2.2.2 k hk).1
    unfold sackL
    simp only [List.length_append, num1 (show k < 10 by omega), num1 (show a (128 + k) < 10 by omega), List.length_cons, List.length_nil]
    omega
  | n + 1, h => by
    have ih := sackL_len V hk n (by omega)
    have := parL_len V (p := n) (by omega)
    unfold sackL
    split
    · rw [List.length_append]; omega
    · omega

