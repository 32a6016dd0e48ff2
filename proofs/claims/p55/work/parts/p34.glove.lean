theorem nI_subp {p q : Nat} (hp : p ≤ 4096) (hq : q ≤ 4096) : (0 < nI p - nI q) = (q < p) := by
  rw [Int32.lt_iff_toInt_lt, g_nIsub hp hq, show (0 : Int32).toInt = 0 from rfl]
  exact propext (by omega)
theorem nI_sub0 {p q : Nat} (hp : p ≤ 4096) (hq : q ≤ 4096) : (nI p - nI q = 0) = (p = q) := by
  refine propext ⟨fun h => ?_, fun h => ?_⟩
  · have h2 := congrArg Int32.toInt h
    rw [g_nIsub hp hq, show (0 : Int32).toInt = 0 from rfl] at h2
    omega
  · subst h; exact Int32.sub_self _
def bet (a : Nat → Nat) (n m : Nat) : Prop := a (112 + n) < a (112 + m) ∨ (a (112 + n) = a (112 + m) ∧ a (120 + m) < a (120 + n))
theorem bet_dec (a : Nat → Nat) (n m : Nat) : bet a n m ∨ ¬ bet a n m := Classical.em _
def betB (a : Nat → Nat) (n m : Nat) : Bool := decide (a (112 + n) < a (112 + m)) || (decide (a (112 + n) = a (112 + m)) && decide (a (120 + m) < a (120 + n)))
theorem e_pref {σ : gM} {e : Nat → Int32} {a : Nat → Nat} (R : nowR σ e a) {n m : Nat} (hn : n < a 37) (hm : m < a 37) : f_X6_isPreferred σ (nI n) (nI m) = some (if betB a n m = true then 1 else 0) := by
  have hN : a 37 ≤ 8 := R.2.2.2.1
  obtain ⟨p1, p2⟩ := R.1.2.2.2.2.2.2.1 n hn
  obtain ⟨p3, p4⟩ := R.1.2.2.2.2.2.2.1 m hm
  obtain ⟨q1, q2, q3⟩ := R.2.2.2.2.2.2.2.2.1 n hn
  obtain ⟨q4, q5, q6⟩ := R.2.2.2.2.2.2.2.2.1 m hm
  unfold f_X6_isPreferred
  simp (disch := omega) only [nI_gi, g_nIc]
  rw [show σ 14 n = _ from p1, show σ 15 n = _ from p2, show σ 14 m = _ from p3, show σ 15 m = _ from p4]
  simp (disch := omega) only [nI_inj, nI_leq]
  have hb : (betB a n m = true) = (a (112 + n) < a (112 + m) ∨ (a (112 + n) = a (112 + m) ∧ a (120 + m) < a (120 + n))) := by
    unfold betB; simp
  simp only [hb]
  by_cases h1 : a (112 + n) = a (112 + m)
  · by_cases h2 : a (120 + m) < a (120 + n)
    · rw [if_pos h1, if_neg (by omega), if_pos (by omega)]
    · rw [if_pos h1, if_pos (by omega), if_neg (by omega)]
  · by_cases h2 : a (112 + m) ≤ a (112 + n)
    · rw [if_neg h1, if_pos h2, if_neg (by omega)]
    · rw [if_neg h1, if_neg h2, if_pos (by omega)]
/-- the best glove of the first n against a hazard: 0 for none, m + 1 for glove m -/
def bst (a : Nat → Nat) (h : Nat) : Nat → Nat
  | 0 => 0
  | n + 1 => if a (112 + n) < h then bst a h n else if bst a h n = 0 then n + 1 else if betB a n (bst a h n - 1) = true then n + 1 else bst a h n
theorem bst_le (a : Nat → Nat) (h : Nat) : ∀ n, bst a h n ≤ n
  | 0 => Nat.le_refl _
  | n + 1 => by
    have := bst_le a h n
    unfold bst
    split
    · omega
    · split
      · omega
      · split <;> omega
def oI (m : Nat) : Int32 := if m = 0 then -1 else nI (m - 1)
theorem oI_eq {m : Nat} (h : m ≤ 4096) : (oI m = -1) = (m = 0) := by
  unfold oI
  by_cases h0 : m = 0
  · simp [h0]
  · rw [if_neg h0]
    refine propext ⟨fun e => ?_, fun e => absurd e h0⟩
    have h2 := congrArg Int32.toInt e
    rw [g_nIt (by omega)] at h2
    have : ((-1 : Int32)).toInt = -1 := by decide
    omega
theorem e_best {σ : gM} {e : Nat → Int32} {a : Nat → Nat} (R : nowR σ e a) {h : Nat} (hh : h ≤ 3) : f_X6_bestAgainst σ (nI h) = some (oI (bst a h (a 37))) := by
  have hN : a 37 ≤ 8 := R.2.2.2.1
  have hn : σ 13 2 = nI (a 37) := R.1.2.2.2.2.1
  unfold f_X6_bestAgainst
  rw [show f_X6_bestAgainst_L4 (nI h) σ gFU (-1) 0 = some (oI (bst a h (a 37))) from
    loop_val (F := fun n i v => f_X6_bestAgainst_L4 (nI h) σ n v i) (N := a 37) (val := fun i => oI (bst a h i)) (by omega) (fun n i hi => ?_) (fun n => ?_)]
  · rfl
  · obtain ⟨p1, p2⟩ := R.1.2.2.2.2.2.2.1 i hi
    obtain ⟨q1, q2, q3⟩ := R.2.2.2.2.2.2.2.2.1 i hi
    have hle := bst_le a h i
    show f_X6_bestAgainst_L4 (nI h) σ (n + 1) (oI (bst a h i)) (nI i) = f_X6_bestAgainst_L4 (nI h) σ n (oI (bst a h (i + 1))) (nI (i + 1))
    rw [f_X6_bestAgainst_L4, hn]
    simp (disch := omega) only [nI_leq, if_neg, nI_gi, g_nIc, nm_s, nI_s]
    rw [show σ 14 i = _ from p1]
    simp (disch := omega) only [nI_ltq, oI_eq]
    show _ = f_X6_bestAgainst_L4 (nI h) σ n (oI (if a (112 + i) < h then bst a h i else if bst a h i = 0 then i + 1 else if betB a i (bst a h i - 1) = true then i + 1 else bst a h i)) (nI (i + 1))
    by_cases h1 : a (112 + i) < h
    · rw [if_pos h1, if_pos h1]
    · rw [if_neg h1, if_neg h1]
      by_cases h2 : bst a h i = 0
      · rw [if_pos h2, if_pos h2]; rfl
      · rw [if_neg h2, if_neg h2]
        have e : oI (bst a h i) = nI (bst a h i - 1) := if_neg h2
        rw [e, e_pref R hi (show bst a h i - 1 < a 37 by omega), bd_s]
        by_cases h3 : betB a i (bst a h i - 1) = true
        · rw [if_pos h3, if_pos h3, if_neg (by decide)]; rfl
        · rw [if_neg h3, if_neg h3, if_pos rfl, e]
  · show f_X6_bestAgainst_L4 (nI h) σ (n + 1) (oI (bst a h (a 37))) (nI (a 37)) = _
    rw [f_X6_bestAgainst_L4, hn, if_pos (by rw [nI_leq (by omega) (by omega)]; omega)]
