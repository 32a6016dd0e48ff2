/-! numbers that may be below 0 -/
def iI (x : Int) : Int32 := Int32.ofInt x
theorem nI_iI (n : Nat) : nI n = iI (n : Int) := rfl
theorem iI_t {x : Int} (h1 : -4096 ≤ x) (h2 : x ≤ 4096) : (iI x).toInt = x := by
  unfold iI
  rw [Int32.toInt_ofInt]
  unfold Int.bmod
  have e : Int32.size = 4294967296 := rfl
  rw [e]
  dsimp only
  split <;> omega
theorem iI_leq {x y : Int} (h1 : -4096 ≤ x) (h2 : x ≤ 4096) (h3 : -4096 ≤ y) (h4 : y ≤ 4096) : (iI x ≤ iI y) = (x ≤ y) := by
  rw [Int32.le_iff_toInt_le, iI_t h1 h2, iI_t h3 h4]
theorem iI_ltq {x y : Int} (h1 : -4096 ≤ x) (h2 : x ≤ 4096) (h3 : -4096 ≤ y) (h4 : y ≤ 4096) : (iI x < iI y) = (x < y) := by
  rw [Int32.lt_iff_toInt_lt, iI_t h1 h2, iI_t h3 h4]
theorem iI_add (x y : Int) : iI x + iI y = iI (x + y) := (Int32.ofInt_add x y).symm
theorem iI_sub (x y : Int) : iI x - iI y = iI (x - y) := (Int32.ofInt_sub x y).symm
theorem sm_two {f g : Nat → Nat} : ∀ n, sm (fun i => f i + g i) n = sm f n + sm g n
  | 0 => rfl
  | n + 1 => by
    show sm _ n + (f n + g n) = sm f n + f n + (sm g n + g n)
    rw [sm_two n]
    omega
/-! the parcels that wait, the uses that are left -/
def wtN (a : Nat → Nat) (h : Nat) : Nat := sm (fun p => if a (76 + p) = 0 ∧ a (52 + p) = h then 1 else 0) (a 36)
def wgN (a : Nat → Nat) (h : Nat) : Nat := sm (fun p => if a (76 + p) = 0 ∧ ¬ a (52 + p) < h then 1 else 0) (a 36)
def waN (a : Nat → Nat) : Nat := sm (fun p => if a (76 + p) = 0 then 1 else 0) (a 36)
def ugN (a : Nat → Nat) (g : Nat) : Nat := sm (fun i => if a (112 + i) = g then 3 - a (120 + i) else 0) (a 37)
def usN (a : Nat → Nat) (g : Nat) : Nat := sm (fun i => if a (112 + i) < g then 0 else 3 - a (120 + i)) (a 37)
theorem wtN_le {e : Nat → Int32} {a : Nat → Nat} (V : vdR e a) (h : Nat) : wtN a h ≤ 12 := Nat.le_trans (sm_le (B := 1) (fun i hi => by split <;> omega)) (by have := V.1; omega)
theorem wgN_le {e : Nat → Int32} {a : Nat → Nat} (V : vdR e a) (h : Nat) : wgN a h ≤ 12 := Nat.le_trans (sm_le (B := 1) (fun i hi => by split <;> omega)) (by have := V.1; omega)
theorem waN_le {e : Nat → Int32} {a : Nat → Nat} (V : vdR e a) : waN a ≤ 12 := Nat.le_trans (sm_le (B := 1) (fun i hi => by split <;> omega)) (by have := V.1; omega)
theorem ugN_le {e : Nat → Int32} {a : Nat → Nat} (V : vdR e a) (h : Nat) : ugN a h ≤ 24 := Nat.le_trans (sm_le (B := 3) (fun i hi => by split <;> omega)) (by have := V.2.1; omega)
theorem usN_le {e : Nat → Int32} {a : Nat → Nat} (V : vdR e a) (h : Nat) : usN a h ≤ 24 := Nat.le_trans (sm_le (B := 3) (fun i hi => by split <;> omega)) (by have := V.2.1; omega)
theorem wg_3 {e : Nat → Int32} {a : Nat → Nat} (V : vdR e a) : wgN a 3 = wtN a 3 := by
  refine sm_congr (fun p hp => ?_)
  have := V.2.2.2.2.1 p hp
  by_cases c : a (76 + p) = 0 ∧ a (52 + p) = 3
  · rw [if_pos c, if_pos (by omega)]
  · rw [if_neg c, if_neg (by omega)]
theorem wg_s {a : Nat → Nat} (h : Nat) : wgN a h = wtN a h + wgN a (h + 1) := by
  unfold wgN wtN
  rw [← sm_two]
  refine sm_congr (fun p hp => ?_)
  by_cases c0 : a (76 + p) = 0
  · by_cases c1 : a (52 + p) < h
    · rw [if_neg (by omega), if_neg (by omega), if_neg (by omega)]
    · by_cases c2 : a (52 + p) = h
      · rw [if_pos (by omega), if_pos (by omega), if_neg (by omega)]
      · rw [if_pos (by omega), if_neg (by omega), if_pos (by omega)]
  · rw [if_neg (by omega), if_neg (by omega), if_neg (by omega)]
theorem wa_0 {a : Nat → Nat} : waN a = wgN a 0 := by
  refine sm_congr (fun p hp => ?_)
  by_cases c : a (76 + p) = 0
  · rw [if_pos c, if_pos ⟨c, by omega⟩]
  · rw [if_neg c, if_neg (by omega)]
theorem us_3 {e : Nat → Int32} {a : Nat → Nat} (V : vdR e a) : usN a 3 = ugN a 3 := by
  refine sm_congr (fun p hp => ?_)
  have := V.2.2.2.2.2.2.1 p hp
  by_cases c : a (112 + p) = 3
  · rw [if_pos c, if_neg (by omega)]
  · rw [if_neg c, if_pos (by omega)]
theorem us_s {a : Nat → Nat} (h : Nat) : usN a h = ugN a h + usN a (h + 1) := by
  unfold usN ugN
  rw [← sm_two]
  refine sm_congr (fun p hp => ?_)
  by_cases c1 : a (112 + p) < h
  · rw [if_pos c1, if_neg (by omega), if_pos (by omega)]
  · by_cases c2 : a (112 + p) = h
    · rw [if_neg c1, if_pos c2, if_pos (by omega), Nat.add_zero]
    · rw [if_neg c1, if_neg c2, if_neg (by omega), Nat.zero_add]
theorem d_waitH {τ : gM} {e : Nat → Int32} {a : Nat → Nat} (B : blkR τ 0 e a) (V : vdR e a) {h : Nat} (hh : h ≤ 3) : f_X8_waitingOfHazard τ (nI h) = some (nI (wtN a h)) := by
  have h12 : a 36 ≤ 12 := V.1
  have hn : τ 7 5 = nI (a 36) := B.2.2.1
  unfold f_X8_waitingOfHazard
  rw [show f_X8_waitingOfHazard_L4 (nI h) τ gFU 0 0 = some (nI (wtN a h)) from
    loop_sum (F := fun n i v => f_X8_waitingOfHazard_L4 (nI h) τ n v i) (fin := fun v => v) (by omega) (by have := wtN_le V h; unfold wtN at this; omega) (fun n i v hi => ?_) (fun n v => ?_)]
  · rfl
  · obtain ⟨p1, p2, p3, p4, p5⟩ := B.2.2.2.1 i hi
    obtain ⟨q1, q2, q3, q4, q5, q6⟩ := V.2.2.2.2.1 i hi
    rw [f_X8_waitingOfHazard_L4, hn]
    simp (disch := omega) only [nI_leq, if_neg, nI_gi, g_nIc, nm_s, nI_s]
    rw [show τ 11 i = _ from p4, show τ 9 i = _ from p2]
    simp only [wh_in q6]
    simp (disch := omega) only [nI_inj]
    by_cases c1 : a (76 + i) = 0
    · by_cases c2 : a (52 + i) = h
      · rw [if_pos c1, if_pos c2, if_pos ⟨c1, c2⟩]; rfl
      · rw [if_pos c1, if_neg c2, if_neg (fun q => c2 q.2), nI_add0]
    · rw [if_neg c1, if_neg (fun q => c1 q.1), nI_add0]
  · rw [f_X8_waitingOfHazard_L4, hn, if_pos (by rw [nI_leq (by omega) (by omega)]; omega)]
theorem d_uses {τ : gM} {e : Nat → Int32} {a : Nat → Nat} (B : blkR τ 0 e a) (V : vdR e a) {g : Nat} (hg : g ≤ 3) : f_X6_usesOfGrade τ (nI g) = some (nI (ugN a g)) := by
  have h8 : a 37 ≤ 8 := V.2.1
  have hn : τ 13 2 = nI (a 37) := B.2.2.2.2.1
  unfold f_X6_usesOfGrade
  rw [show f_X6_usesOfGrade_L4 (nI g) τ gFU 0 0 = some (nI (ugN a g)) from
    loop_sum (F := fun n i v => f_X6_usesOfGrade_L4 (nI g) τ n v i) (fin := fun v => v) (by omega) (by have := ugN_le V g; unfold ugN at this; omega) (fun n i v hi => ?_) (fun n v => ?_)]
  · rfl
  · obtain ⟨p1, p2⟩ := B.2.2.2.2.2.2.1 i hi
    obtain ⟨q1, q2, q3⟩ := V.2.2.2.2.2.2.1 i hi
    rw [f_X6_usesOfGrade_L4, hn]
    simp (disch := omega) only [nI_leq, if_neg, nI_gi, g_nIc, nm_s, nI_s]
    rw [show τ 14 i = _ from p1, show τ 15 i = _ from p2]
    simp (disch := omega) only [nI_inj]
    by_cases c1 : a (112 + i) = g
    · rw [if_pos c1, if_pos c1]
    · rw [if_neg c1, if_neg c1, nI_add0]
  · rw [f_X6_usesOfGrade_L4, hn, if_pos (by rw [nI_leq (by omega) (by omega)]; omega)]
