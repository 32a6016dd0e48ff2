/-! commands as texts -/
def dg (x : Int32) : Bool := !decide (x < 48) && !decide (57 < x)
theorem dg_t {x : Int32} : (dg x = true) = (¬ x < 48 ∧ ¬ 57 < x) := by
  unfold dg; simp
/-- a pattern against the text h from p on: does it fit, where it ends, its numbers -/
def pm (h : Nat → Int32) : List Int32 → Nat → List Int32 → Bool × Nat × List Int32
  | [], p, ns => (true, p, ns)
  | c :: ps, p, ns => if c = 35 then (if dg (h p) = true then pm h ps (p + 1) (ns ++ [h p - 48]) else (false, p, ns)) else if c = 37 then (if dg (h p) = true then (if dg (h (p + 1)) = true then pm h ps (p + 2) (ns ++ [(h p - 48) * 10 + h (p + 1) - 48]) else pm h ps (p + 1) (ns ++ [h p - 48])) else (false, p, ns)) else if h p = c then pm h ps (p + 1) ns else (false, p, ns)
theorem pm_le {h : Nat → Int32} : ∀ {ps : List Int32} {p : Nat} {ns : List Int32}, p ≤ (pm h ps p ns).2.1 ∧ ((pm h ps p ns).1 = true → p + ps.length ≤ (pm h ps p ns).2.1)
  | [], p, ns => ⟨Nat.le_refl _, fun _ => Nat.le_refl _⟩
  | c :: ps, p, ns => by
    have i1 := fun ns => pm_le (h := h) (ps := ps) (p := p + 1) (ns := ns)
    have i2 := fun ns => pm_le (h := h) (ps := ps) (p := p + 2) (ns := ns)
    have fz : p ≤ ((false, p, ns) : Bool × Nat × List Int32).2.1 ∧ (((false, p, ns) : Bool × Nat × List Int32).1 = true → p + (ps.length + 1) ≤ ((false, p, ns) : Bool × Nat × List Int32).2.1) := ⟨Nat.le_refl _, fun e => Bool.noConfusion e⟩
    rw [List.length_cons]
    unfold pm
    by_cases c1 : c = 35
    · rw [if_pos c1]
      by_cases c2 : dg (h p) = true
      · rw [if_pos c2]
        exact ⟨by have := (i1 (ns ++ [h p - 48])).1; omega, fun e => by have := (i1 (ns ++ [h p - 48])).2 e; omega⟩
      · rw [if_neg c2]; exact fz
    · rw [if_neg c1]
      by_cases c3 : c = 37
      · rw [if_pos c3]
        by_cases c2 : dg (h p) = true
        · rw [if_pos c2]
          by_cases c4 : dg (h (p + 1)) = true
          · rw [if_pos c4]
            exact ⟨by have := (i2 (ns ++ [(h p - 48) * 10 + h (p + 1) - 48])).1; omega, fun e => by have := (i2 (ns ++ [(h p - 48) * 10 + h (p + 1) - 48])).2 e; omega⟩
          · rw [if_neg c4]
            exact ⟨by have := (i1 (ns ++ [h p - 48])).1; omega, fun e => by have := (i1 (ns ++ [h p - 48])).2 e; omega⟩
        · rw [if_neg c2]; exact fz
      · rw [if_neg c3]
        by_cases c5 : h p = c
        · rw [if_pos c5]
          exact ⟨by have := (i1 ns).1; omega, fun e => by have := (i1 ns).2 e; omega⟩
        · rw [if_neg c5]; exact fz
/-- go on with a pattern -/
def ext (h : Nat → Int32) (R : Bool × Nat × List Int32) (ps : List Int32) : Bool × Nat × List Int32 := if R.1 = true then pm h ps R.2.1 R.2.2 else R
theorem pm_app {h : Nat → Int32} {qs : List Int32} : ∀ {ps : List Int32} {p : Nat} {ns : List Int32}, pm h (ps ++ qs) p ns = ext h (pm h ps p ns) qs
  | [], p, ns => rfl
  | c :: ps, p, ns => by
    have i1 := fun p ns => pm_app (h := h) (qs := qs) (ps := ps) (p := p) (ns := ns)
    show (if c = 35 then (if dg (h p) = true then pm h (ps ++ qs) (p + 1) (ns ++ [h p - 48]) else (false, p, ns)) else if c = 37 then (if dg (h p) = true then (if dg (h (p + 1)) = true then pm h (ps ++ qs) (p + 2) (ns ++ [(h p - 48) * 10 + h (p + 1) - 48]) else pm h (ps ++ qs) (p + 1) (ns ++ [h p - 48])) else (false, p, ns)) else if h p = c then pm h (ps ++ qs) (p + 1) ns else (false, p, ns)) = ext h (if c = 35 then (if dg (h p) = true then pm h ps (p + 1) (ns ++ [h p - 48]) else (false, p, ns)) else if c = 37 then (if dg (h p) = true then (if dg (h (p + 1)) = true then pm h ps (p + 2) (ns ++ [(h p - 48) * 10 + h (p + 1) - 48]) else pm h ps (p + 1) (ns ++ [h p - 48])) else (false, p, ns)) else if h p = c then pm h ps (p + 1) ns else (false, p, ns)) qs
    by_cases c1 : c = 35
    · rw [if_pos c1, if_pos c1]
      by_cases c2 : dg (h p) = true
      · rw [if_pos c2, if_pos c2, i1]
      · rw [if_neg c2, if_neg c2]; rfl
    · rw [if_neg c1, if_neg c1]
      by_cases c3 : c = 37
      · rw [if_pos c3, if_pos c3]
        by_cases c2 : dg (h p) = true
        · rw [if_pos c2, if_pos c2]
          by_cases c4 : dg (h (p + 1)) = true
          · rw [if_pos c4, if_pos c4, i1]
          · rw [if_neg c4, if_neg c4, i1]
        · rw [if_neg c2, if_neg c2]; rfl
      · rw [if_neg c3, if_neg c3]
        by_cases c5 : h p = c
        · rw [if_pos c5, if_pos c5, i1]
        · rw [if_neg c5, if_neg c5]; rfl
theorem ext_app {h : Nat → Int32} {R : Bool × Nat × List Int32} {ps qs : List Int32} : ext h (ext h R ps) qs = ext h R (ps ++ qs) := by
  by_cases c : R.1 = true
  · have e1 : ext h R ps = pm h ps R.2.1 R.2.2 := if_pos c
    have e2 : ext h R (ps ++ qs) = pm h (ps ++ qs) R.2.1 R.2.2 := if_pos c
    rw [e1, e2, pm_app]
  · have e1 : ext h R ps = R := if_neg c
    have e2 : ext h R (ps ++ qs) = R := if_neg c
    have e3 : ext h R qs = R := if_neg c
    rw [e1, e2, e3]
/-- the n-th number -/
def ng : List Int32 → Nat → Int32
  | [], _ => 0
  | x :: _, 0 => x
  | _ :: xs, j + 1 => ng xs j
theorem ng_app {M : List Int32} : ∀ {L : List Int32} {j : Nat}, j < L.length → ng (L ++ M) j = ng L j
  | [], j, h => absurd h (Nat.not_lt_zero _)
  | x :: xs, 0, _ => rfl
  | x :: xs, j + 1, h => ng_app (L := xs) (j := j) (Nat.lt_of_succ_lt_succ h)
theorem ng_end {c : Int32} : ∀ {L : List Int32}, ng (L ++ [c]) L.length = c
  | [] => rfl
  | _ :: xs => ng_end (L := xs)
/-- how many numbers a pattern has -/
def cn : List Int32 → Nat
  | [] => 0
  | c :: ps => (if c = 35 ∨ c = 37 then 1 else 0) + cn ps
theorem pm_cn {h : Nat → Int32} : ∀ {ps : List Int32} {p : Nat} {ns : List Int32}, (pm h ps p ns).1 = true → (pm h ps p ns).2.2.length = ns.length + cn ps
  | [], p, ns, _ => rfl
  | c :: ps, p, ns, e => by
    have i1 := fun p ns => pm_cn (h := h) (ps := ps) (p := p) (ns := ns)
    unfold cn
    unfold pm at e ⊢
    by_cases c1 : c = 35
    · rw [if_pos c1] at e ⊢
      rw [if_pos (Or.inl c1)]
      by_cases c2 : dg (h p) = true
      · rw [if_pos c2] at e ⊢
        rw [i1 _ _ e, List.length_append, List.length_singleton]; omega
      · rw [if_neg c2] at e; exact Bool.noConfusion e
    · rw [if_neg c1] at e ⊢
      by_cases c3 : c = 37
      · rw [if_pos c3] at e ⊢
        rw [if_pos (Or.inr c3)]
        by_cases c2 : dg (h p) = true
        · rw [if_pos c2] at e ⊢
          by_cases c4 : dg (h (p + 1)) = true
          · rw [if_pos c4] at e ⊢
            rw [i1 _ _ e, List.length_append, List.length_singleton]; omega
          · rw [if_neg c4] at e ⊢
            rw [i1 _ _ e, List.length_append, List.length_singleton]; omega
        · rw [if_neg c2] at e; exact Bool.noConfusion e
      · rw [if_neg c3] at e ⊢
        rw [if_neg (show ¬ (c = 35 ∨ c = 37) from fun q => q.elim c1 c3)]
        by_cases c5 : h p = c
        · rw [if_pos c5] at e ⊢
          rw [i1 _ _ e]; omega
        · rw [if_neg c5] at e; exact Bool.noConfusion e

