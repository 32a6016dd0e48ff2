/-! distances: what they are -/
def spR (a : Nat → Nat) (s : Nat) (d : Nat → Nat) : Prop := d s = 0 ∧ (∀ u v, u < 6 → v < 6 → 0 < a (6 * u + v) → d v ≤ d u + a (6 * u + v)) ∧ (∀ v, v < 6 → v = s ∨ d v = 1000 ∨ ∃ u, u < 6 ∧ 0 < a (6 * u + v) ∧ d v = d u + a (6 * u + v)) ∧ ∀ v, v < 6 → d v = 1000 ∨ d v ≤ 120
/-- a distance is not above any upper bound that keeps the roads -/
theorem sp_low {a : Nat → Nat} {s : Nat} {d x : Nat → Nat} (h : spR a s d) (h0 : x s = 0) (h1 : ∀ u v, u < 6 → v < 6 → 0 < a (6 * u + v) → x v ≤ x u + a (6 * u + v)) : ∀ m v, v < 6 → d v = m → m < 1000 → x v ≤ d v := by
  intro m
  induction m using Nat.strongRecOn with
  | _ m ih =>
    intro v hv hm hlt
    rcases h.2.2.1 v hv with e | e | ⟨u, hu, hw, e⟩
    · subst e; omega
    · omega
    · have := ih (d u) (by omega) u hu rfl (by omega)
      have := h1 u v hu hv hw
      omega
theorem sp_uniq {a : Nat → Nat} {s : Nat} {d x : Nat → Nat} (h : spR a s d) (k : spR a s x) : ∀ v, v < 6 → d v = x v := by
  intro v hv
  have l1 : d v < 1000 → x v ≤ d v := fun hlt => sp_low h k.1 k.2.1 (d v) v hv rfl hlt
  have l2 : x v < 1000 → d v ≤ x v := fun hlt => sp_low k h.1 h.2.1 (x v) v hv rfl hlt
  have b1 := h.2.2.2 v hv
  have b2 := k.2.2.2 v hv
  omega
theorem sp_le {a : Nat → Nat} {s : Nat} {d : Nat → Nat} (h : spR a s d) {v : Nat} (hv : v < 6) : d v ≤ 1000 := by
  have := h.2.2.2 v hv
  omega
/-- how many places are nearer -/
def rkN' (d : Nat → Nat) (v : Nat) : Nat := sm (fun u => if d u < d v then 1 else 0) 6
theorem sm_lt' {f g : Nat → Nat} {k : Nat} : ∀ {n : Nat}, k < n → (∀ i, i < n → f i ≤ g i) → f k < g k → sm f n < sm g n
  | 0, h, _, _ => absurd h (Nat.not_lt_zero k)
  | n + 1, h, hf, hk => by
    show sm f n + f n < sm g n + g n
    by_cases hn : n = k
    · subst hn
      have := sm_mon (f := f) (g := g) (n := n) (fun i hi => hf i (by omega))
      omega
    · have := sm_lt' (n := n) (k := k) (by omega) (fun i hi => hf i (by omega)) hk
      have := hf n (by omega)
      omega
theorem rk_lt {d : Nat → Nat} {u v : Nat} (hu : u < 6) (h : d u < d v) : rkN' d u < rkN' d v := by
  refine sm_lt' (k := u) hu (fun i hi => ?_) ?_
  · by_cases h1 : d i < d u
    · rw [if_pos h1, if_pos (by omega)]; omega
    · rw [if_neg h1]; omega
  · show (if d u < d u then 1 else 0) < (if d u < d v then 1 else 0)
    rw [if_neg (by omega), if_pos h]; omega
theorem rk_6 {d : Nat → Nat} {v : Nat} (hv : v < 6) : rkN' d v ≤ 5 := by
  have : rkN' d v < sm (fun _ => 1) 6 := by
    refine sm_lt' (k := v) hv (fun i hi => by split <;> omega) ?_
    show (if d v < d v then 1 else 0) < 1
    rw [if_neg (by omega)]; omega
  have e : sm (fun _ => 1) 6 = 6 := rfl
  omega
/-- distances over a place -/
theorem sp_tri {a : Nat → Nat} {i k : Nat} {d x : Nat → Nat} (h : spR a i d) (hk : spR a k x) (hi : k < 6) : ∀ v, v < 6 → x v < 1000 → d v ≤ d k + x v := by
  have key : ∀ m v, v < 6 → x v = m → m < 1000 → d v ≤ d k + x v := by
    intro m
    induction m using Nat.strongRecOn with
    | _ m ih =>
      intro v hv hm hlt
      rcases hk.2.2.1 v hv with e | e | ⟨u, hu, hw, e⟩
      · subst e; omega
      · omega
      · have h1 := ih (x u) (by omega) u hu rfl (by omega)
        have h2 := h.2.1 u v hu hv hw
        omega
  exact fun v hv hlt => key (x v) v hv rfl hlt
/-! the nearest first -/
/-- what the search keeps: n places are settled -/
def djI (a : Nat → Nat) (s n : Nat) (d : Nat → Nat) (S : Nat → Prop) : Prop := d s = 0 ∧ (∀ v, v < 6 → v = s ∨ d v = 1000 ∨ ∃ u, u < 6 ∧ S u ∧ d u < 1000 ∧ 0 < a (6 * u + v) ∧ d v = d u + a (6 * u + v)) ∧ (∀ u v, u < 6 → v < 6 → S u → 0 < a (6 * u + v) → d v ≤ d u + a (6 * u + v)) ∧ (∀ u v, u < 6 → v < 6 → S u → ¬ S v → d u ≤ d v) ∧ ∀ v, v < 6 → d v = 1000 ∨ d v ≤ 20 * n
def rlx (a : Nat → Nat) (d : Nat → Nat) (m v : Nat) : Nat := if a (6 * m + v) = 0 then d v else if d v ≤ d m + a (6 * m + v) then d v else d m + a (6 * m + v)
theorem dj_s {a : Nat → Nat} {s n m : Nat} {d : Nat → Nat} {S : Nat → Prop} (hs : s < 6) (hn : n ≤ 6) (ha : ∀ i j, i < 6 → j < 6 → a (6 * i + j) ≤ 20) (h0 : ∀ i, i < 6 → a (6 * i + i) = 0) (I : djI a s n d S) (hm : m < 6) (hM : ¬ S m) (hd : d m < 1000) (hmin : ∀ v, v < 6 → ¬ S v → d v < 1000 → d m ≤ d v) : djI a s (n + 1) (fun v => rlx a d m v) (fun v => S v ∨ v = m) := by
  obtain ⟨i1, i2, i3, i4, i5⟩ := I
  have hle : ∀ v, rlx a d m v ≤ d v := fun v => by
    unfold rlx
    split
    · omega
    · split <;> omega
  have hor : ∀ v, rlx a d m v = d v ∨ (0 < a (6 * m + v) ∧ rlx a d m v = d m + a (6 * m + v) ∧ d m + a (6 * m + v) < d v) := fun v => by
    unfold rlx
    by_cases c1 : a (6 * m + v) = 0
    · rw [if_pos c1]; exact Or.inl rfl
    · rw [if_neg c1]
      by_cases c2 : d v ≤ d m + a (6 * m + v)
      · rw [if_pos c2]; exact Or.inl rfl
      · rw [if_neg c2]; exact Or.inr ⟨by omega, rfl, by omega⟩
  have hup : ∀ v, 0 < a (6 * m + v) → rlx a d m v ≤ d m + a (6 * m + v) := fun v hv => by
    unfold rlx
    rw [if_neg (by omega)]
    split <;> omega
  -- what is settled stays
  have hst : ∀ u, u < 6 → (S u ∨ u = m) → rlx a d m u = d u := fun u hu h => by
    rcases hor u with e | ⟨e1, e2, e3⟩
    · exact e
    · rcases h with h | h
      · have := i4 u m hu hm h hM
        omega
      · subst h
        rw [h0 u hu] at e1
        omega
  have bm := i5 m hm
  refine ⟨?_, fun v hv => ?_, fun u v hu hv hS hw => ?_, fun u v hu hv hS hN => ?_, fun v hv => ?_⟩
  · have := hle s
    show rlx a d m s = 0
    omega
  · show v = s ∨ rlx a d m v = 1000 ∨ _
    rcases hor v with e | ⟨e1, e2, e3⟩
    · rcases i2 v hv with q | q | ⟨u, hu, q1, q2, q3, q4⟩
      · exact Or.inl q
      · exact Or.inr (Or.inl (by omega))
      · refine Or.inr (Or.inr ⟨u, hu, Or.inl q1, ?_, q3, ?_⟩)
        · show rlx a d m u < 1000
          rw [hst u hu (Or.inl q1)]; exact q2
        · show rlx a d m v = rlx a d m u + _
          rw [hst u hu (Or.inl q1), e]; exact q4
    · refine Or.inr (Or.inr ⟨m, hm, Or.inr rfl, ?_, e1, ?_⟩)
      · show rlx a d m m < 1000
        rw [hst m hm (Or.inr rfl)]; exact hd
      · show rlx a d m v = rlx a d m m + _
        rw [hst m hm (Or.inr rfl)]; exact e2
  · show rlx a d m v ≤ rlx a d m u + _
    rw [hst u hu hS]
    rcases hS with h | h
    · exact Nat.le_trans (hle v) (i3 u v hu hv h hw)
    · subst h; exact hup v hw
  · show rlx a d m u ≤ rlx a d m v
    rw [hst u hu hS]
    have nS : ¬ S v := fun q => hN (Or.inl q)
    have hum : d u ≤ d m := by
      rcases hS with h | h
      · exact i4 u m hu hm h hM
      · subst h; omega
    rcases hor v with e | ⟨e1, e2, e3⟩
    · rw [e]
      rcases hS with h | h
      · exact i4 u v hu hv h nS
      · subst h
        by_cases hv2 : d v < 1000
        · exact hmin v hv nS hv2
        · omega
    · omega
  · show rlx a d m v = 1000 ∨ rlx a d m v ≤ 20 * (n + 1)
    have bv := i5 v hv
    have bw := ha m v hm hv
    rcases hor v with e | ⟨e1, e2, e3⟩ <;> omega
theorem dj_end {a : Nat → Nat} {s n : Nat} {d : Nat → Nat} {S : Nat → Prop} (hn : n ≤ 6) (I : djI a s n d S) (h : ∀ v, v < 6 → S v ∨ d v = 1000) : spR a s d := by
  obtain ⟨i1, i2, i3, i4, i5⟩ := I
  refine ⟨i1, fun u v hu hv hw => ?_, fun v hv => ?_, fun v hv => ?_⟩
  · rcases h u hu with q | q
    · exact i3 u v hu hv q hw
    · have := i5 v hv
      omega
  · rcases i2 v hv with q | q | ⟨u, hu, q1, q2, q3, q4⟩
    · exact Or.inl q
    · exact Or.inr (Or.inl q)
    · exact Or.inr (Or.inr ⟨u, hu, q3, q4⟩)
  · have := i5 v hv
    omega
theorem dj_0 {a : Nat → Nat} {s : Nat} (hs : s < 6) : djI a s 0 (fun v => if v = s then 0 else 1000) (fun _ => False) := by
  refine ⟨if_pos rfl, fun v hv => ?_, fun _ _ _ _ h => h.elim, fun _ _ _ _ h => h.elim, fun v hv => ?_⟩
  · by_cases h : v = s
    · exact Or.inl h
    · exact Or.inr (Or.inl (if_neg h))
  · by_cases h : v = s
    · exact Or.inr (by show (if v = s then 0 else 1000) ≤ 20 * 0; rw [if_pos h]; omega)
    · exact Or.inl (if_neg h)

