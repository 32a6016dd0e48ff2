/-! commands carried out -/
def cD (f : Nat) (x y w : Int32) (τ : gM) : Option (Int32 × gM) := if f = 0 then f_X3_joinPlaces τ x y w else if f = 1 then f_X3_addParcel τ x y w else if f = 2 then f_X3_addGlove τ x else if f = 3 then f_X3_putIn τ x y else if f = 4 then f_X3_pullOut τ x else if f = 5 then f_X3_bring τ x y else f_X3_takeBack τ x
def wfC (x : Nat × List Int32) : Prop := x.1 < 7 ∧ x.2.length = cn (gByt.getD x.1 [])
theorem bd2_re2 {X : Option (Int32 × gM)} : (bd2 X fun r5 σ6 => some (r5, σ6)) = X := by
  cases X <;> rfl
theorem e_carryOut {τ : gM} {kc : Nat} {x : Nat × List Int32} (hw : wfC x) (h : cmdD τ kc x) : f_X12_carryOut τ kc = cD x.1 (ng x.2 0) (ng x.2 1) (ng x.2 2) τ := by
  obtain ⟨f, ns⟩ := x
  obtain ⟨hf, hl⟩ := hw
  obtain ⟨h0, hn⟩ := h
  have hf : f < 7 := hf
  have hl : ns.length = cn (gByt.getD f []) := hl
  have h0 : τ (207 + kc) 0 = nI (f + 1) := h0
  have n1 : 1 ≤ ns.length → τ (207 + kc) 1 = ng ns 0 := fun q => hn 0 q
  have n2 : 2 ≤ ns.length → τ (207 + kc) 2 = ng ns 1 := fun q => hn 1 q
  have n3 : 3 ≤ ns.length → τ (207 + kc) 3 = ng ns 2 := fun q => hn 2 q
  unfold f_X12_carryOut
  simp only [bd2_re2]
  rw [h0]
  rcases (show f = 0 ∨ f = 1 ∨ f = 2 ∨ f = 3 ∨ f = 4 ∨ f = 5 ∨ f = 6 by omega) with rfl | rfl | rfl | rfl | rfl | rfl | rfl
  · have hl : ns.length = 3 := hl
    rw [if_neg (by decide), show gi (nI (0 + 1) - 1) 7 _ = _ from gi_in (by unfold vp_in; decide), if_pos (by decide), n1 (by omega), n2 (by omega), n3 (by omega)]; rfl
  · have hl : ns.length = 3 := hl
    rw [if_neg (by decide), show gi (nI (1 + 1) - 1) 7 _ = _ from gi_in (by unfold vp_in; decide), if_neg (by decide), if_pos (by decide), n1 (by omega), n2 (by omega), n3 (by omega)]; rfl
  · have hl : ns.length = 1 := hl
    rw [if_neg (by decide), show gi (nI (2 + 1) - 1) 7 _ = _ from gi_in (by unfold vp_in; decide), if_neg (by decide), if_neg (by decide), if_pos (by decide), n1 (by omega)]; rfl
  · have hl : ns.length = 2 := hl
    rw [if_neg (by decide), show gi (nI (3 + 1) - 1) 7 _ = _ from gi_in (by unfold vp_in; decide), if_neg (by decide), if_neg (by decide), if_neg (by decide), if_pos (by decide), n1 (by omega), n2 (by omega)]; rfl
  · have hl : ns.length = 1 := hl
    rw [if_neg (by decide), show gi (nI (4 + 1) - 1) 7 _ = _ from gi_in (by unfold vp_in; decide), if_neg (by decide), if_neg (by decide), if_neg (by decide), if_neg (by decide), if_pos (by decide), n1 (by omega)]; rfl
  · have hl : ns.length = 2 := hl
    rw [if_neg (by decide), show gi (nI (5 + 1) - 1) 7 _ = _ from gi_in (by unfold vp_in; decide), if_neg (by decide), if_neg (by decide), if_neg (by decide), if_neg (by decide), if_neg (by decide), if_pos (by decide), n1 (by omega), n2 (by omega)]; rfl
  · have hl : ns.length = 1 := hl
    rw [if_neg (by decide), show gi (nI (6 + 1) - 1) 7 _ = _ from gi_in (by unfold vp_in; decide), if_neg (by decide), if_neg (by decide), if_neg (by decide), if_neg (by decide), if_neg (by decide), if_neg (by decide), if_pos (by decide), n1 (by omega)]; rfl
theorem prs_wf {h : Nat → Int32} {t : Nat} : ∀ (k p : Nat), (prs h t k p).1 = true → (prs h t k p).2.2.length ≤ k ∧ ∀ j, j < (prs h t k p).2.2.length → wfC (cg (prs h t k p).2.2 j) := by
  intro k
  induction k with
  | zero => exact fun p e => Bool.noConfusion e
  | succ k ih =>
    intro p e
    have hle := pcN_le h p
    by_cases c7 : pcN h p = 7
    · rw [prs_7 c7] at e; exact Bool.noConfusion e
    · have hf : pcN h p < 7 := by omega
      by_cases c2 : (Ff h p (pcN h p)).1 = true
      · have hw : wfC (pcN h p, (Ff h p (pcN h p)).2.2) := ⟨hf, by
          have hcn := pm_cn (h := h) (ps := gByt.getD (pcN h p) []) (p := p) (ns := []) c2
          rw [List.length_nil, Nat.zero_add] at hcn
          exact hcn⟩
        by_cases c3 : h (Ff h p (pcN h p)).2.1 = 59
        · rw [prs_s c7 c2 c3] at e ⊢
          obtain ⟨i1, i2⟩ := ih _ e
          refine ⟨by rw [List.length_cons]; omega, fun j hj => ?_⟩
          rw [List.length_cons] at hj
          by_cases hj0 : j = 0
          · subst hj0; exact hw
          · obtain ⟨j', rfl⟩ : ∃ j', j = j' + 1 := ⟨j - 1, by omega⟩
            exact i2 j' (by omega)
        · by_cases c4 : (Ff h p (pcN h p)).2.1 < t
          · rw [prs_x c7 c2 c3 c4] at e; exact Bool.noConfusion e
          · rw [prs_e c7 c2 c3 c4]
            refine ⟨by show 1 ≤ k + 1; omega, fun j hj => ?_⟩
            have hj0 : j = 0 := by have : j < 1 := hj; omega
            subst hj0; exact hw
      · rw [prs_f c7 c2] at e; exact Bool.noConfusion e
/-- what the two sides hold of the commands -/
def CD (τ : gM) (cs : List (Nat × List Int32)) : Prop := τ 204 3 = nI cs.length ∧ ∀ j, j < cs.length → cmdD τ j (cg cs j)
theorem CD_c {τ τ' : gM} {cs : List (Nat × List Int32)} (h : ∀ i, 19 ≤ i ∨ i = 0 → τ' i = τ i) (c : CD τ cs) : CD τ' cs := ⟨by rw [h 204 (by omega)]; exact c.1, fun j hj => cmdD_congr (fun q => by rw [h _ (by omega)]) (c.2 j hj)⟩
theorem neg_no {n : Nat} (h : n ≤ 4) : ¬ (0 : Int32) ≤ -2 - nI n := by
  rcases (show n = 0 ∨ n = 1 ∨ n = 2 ∨ n = 3 ∨ n = 4 by omega) with rfl | rfl | rfl | rfl | rfl <;> decide
theorem cmd_chg {f : Nat} (hf : f < 7) (x y w : Int32) : chgD (cD f x y w) := by
  rcases (show f = 0 ∨ f = 1 ∨ f = 2 ∨ f = 3 ∨ f = 4 ∨ f = 5 ∨ f = 6 by omega) with rfl | rfl | rfl | rfl | rfl | rfl | rfl
  · exact rd_chg x y w
  · exact ac_chg x y w
  · exact by_chg x
  · exact pu_chg x y
  · exact to_chg x
  · exact cy_chg x y
  · exact cb_chg x
/-- commands that are all done, one after another -/
def seqOk : List (Nat × List Int32) → (Nat → Int32) → (Nat → Nat) → (Nat → Int32) → (Nat → Nat) → Prop
  | [], e, a, e', a' => e' = e ∧ a' = a
  | x :: xs, e, a, e', a' => ∃ (v : Int32) (e1 : Nat → Int32) (a1 : Nat → Nat), 0 ≤ v ∧ okD (cD x.1 (ng x.2 0) (ng x.2 1) (ng x.2 2)) e a v e1 a1 ∧ seqOk xs e1 a1 e' a'
theorem loop_cs {cs : List (Nat × List Int32)} (h10 : cs.length ≤ 10) {i : Nat} (hil : i < cs.length) (hw : wfC (cg cs i)) (τ : gM) (m : Nat) (C : CD τ cs) : f_X12_carryOutCommands_L2 (m + 1) (nI i) τ = bd2 (cD (cg cs i).1 (ng (cg cs i).2 0) (ng (cg cs i).2 1) (ng (cg cs i).2 2) τ) fun r8 σ9 => if 0 ≤ r8 then f_X12_carryOutCommands_L2 m (nI (i + 1)) σ9 else some (.inl (nI i, σ9)) := by
  rw [f_X12_carryOutCommands_L2, f_X2_commandCount, C.1, bd_s, if_neg (by rw [nI_leq (by omega) (by omega)]; omega), f_X2_command, show f_X12_isIndex τ (nI i) 10 = _ from ix_ok (N := 10) (by omega) (by omega), bd_s, if_neg (by decide), nI_gi (by omega) (by omega), g_nIc (by omega), bd_s]
  show (if i < 10 then _ else none) = _
  rw [if_pos (by omega), e_carryOut hw (C.2 i hil)]
  simp only [nm_s]
  rw [nI_s (by omega)]
theorem run_ok {cs : List (Nat × List Int32)} (hw : ∀ j, j < cs.length → wfC (cg cs j)) (h10 : cs.length ≤ 10) : ∀ (ys : List (Nat × List Int32)) (i : Nat), i + ys.length = cs.length → (∀ j, j < ys.length → cg cs (i + j) = cg ys j) → ∀ (e : Nat → Int32) (a : Nat → Nat) (e' : Nat → Int32) (a' : Nat → Nat), seqOk ys e a e' a' →
    ∀ (τ : gM) (m : Nat), ys.length < m → CD τ cs → blkR τ 0 e a → ∃ τ' : gM, f_X12_carryOutCommands_L2 m (nI i) τ = some (.inr τ') ∧ (∀ j, 19 ≤ j ∨ j = 0 → τ' j = τ j) ∧ blkR τ' 0 e' a' := by
  intro ys
  induction ys with
  | nil =>
    intro i hi hc e a e' a' hs τ m hm C B
    obtain ⟨rfl, rfl⟩ := hs
    have hi : i = cs.length := hi
    obtain ⟨m, rfl⟩ : ∃ m', m = m' + 1 := ⟨m - 1, by omega⟩
    refine ⟨τ, ?_, fun _ _ => rfl, B⟩
    rw [f_X12_carryOutCommands_L2, f_X2_commandCount, C.1, bd_s, if_pos (by rw [nI_leq (by omega) (by omega)]; omega)]
  | cons y ys ih =>
    intro i hi hc e a e' a' hs τ m hm C B
    rw [List.length_cons] at hi hm
    obtain ⟨v, e1, a1, hv, h1, h2⟩ := hs
    obtain ⟨m, rfl⟩ : ∃ m', m = m' + 1 := ⟨m - 1, by omega⟩
    have hil : i < cs.length := by omega
    have ey : cg cs i = y := hc 0 (by rw [List.length_cons]; omega)
    obtain ⟨τ1, d1, d2, d3⟩ := h1 τ B
    obtain ⟨τ', g1, g2, g3⟩ := ih (i + 1) (by omega) (fun j hj => by
      have := hc (j + 1) (by rw [List.length_cons]; omega)
      rw [show i + 1 + j = i + (j + 1) by omega]; exact this) e1 a1 e' a' h2 τ1 m (by omega) (CD_c d2 C) d3
    refine ⟨τ', ?_, fun x hx => (g2 x hx).trans (d2 x hx), g3⟩
    rw [loop_cs h10 hil (hw i hil) τ m C, ey, d1, bd2_s, if_pos hv, g1]
theorem run_no {cs : List (Nat × List Int32)} (hw : ∀ j, j < cs.length → wfC (cg cs j)) (h10 : cs.length ≤ 10) {y : Nat × List Int32} {n : Nat} (hn : n ≤ 4) {e1 : Nat → Int32} {a1 : Nat → Nat} (hy : noD (cD y.1 (ng y.2 0) (ng y.2 1) (ng y.2 2)) e1 a1 n) : ∀ (ys : List (Nat × List Int32)) (i : Nat), i + ys.length < cs.length → (∀ j, j < ys.length → cg cs (i + j) = cg ys j) → cg cs (i + ys.length) = y → ∀ (e : Nat → Int32) (a : Nat → Nat), seqOk ys e a e1 a1 →
    ∀ (τ : gM) (m : Nat), ys.length < m → CD τ cs → blkR τ 0 e a → ∃ τ' : gM, f_X12_carryOutCommands_L2 m (nI i) τ = some (.inl (nI (i + ys.length), τ')) ∧ ∀ j, 19 ≤ j ∨ j = 0 → τ' j = τ j := by
  intro ys
  induction ys with
  | nil =>
    intro i hi hc hy0 e a hs τ m hm C B
    obtain ⟨rfl, rfl⟩ := hs
    have hi : i < cs.length := hi
    obtain ⟨m, rfl⟩ : ∃ m', m = m' + 1 := ⟨m - 1, by omega⟩
    have ey : cg cs i = y := hy0
    obtain ⟨τ1, d1, d2⟩ := hy τ B
    refine ⟨τ1, ?_, fun x hx => funext fun q => by rw [d2 x (by omega) (by omega) (by omega)]⟩
    rw [loop_cs h10 hi (hw i hi) τ m C, ey, d1, bd2_s, if_neg (neg_no hn)]; rfl
  | cons z ys ih =>
    intro i hi hc hy0 e a hs τ m hm C B
    rw [List.length_cons] at hi hm hy0
    obtain ⟨v, e2, a2, hv, h1, h2⟩ := hs
    obtain ⟨m, rfl⟩ : ∃ m', m = m' + 1 := ⟨m - 1, by omega⟩
    have hil : i < cs.length := by omega
    have ey : cg cs i = z := hc 0 (by rw [List.length_cons]; omega)
    obtain ⟨τ1, d1, d2, d3⟩ := h1 τ B
    obtain ⟨τ', g1, g2⟩ := ih (i + 1) (by omega) (fun j hj => by
      have := hc (j + 1) (by rw [List.length_cons]; omega)
      rw [show i + 1 + j = i + (j + 1) by omega]; exact this) (by rw [show i + 1 + ys.length = i + (ys.length + 1) by omega]; exact hy0) e2 a2 h2 τ1 m (by omega) (CD_c d2 C) d3
    refine ⟨τ', ?_, fun x hx => (g2 x hx).trans (d2 x hx)⟩
    rw [loop_cs h10 hil (hw i hil) τ m C, ey, d1, bd2_s, if_pos hv, g1, List.length_cons, show i + 1 + ys.length = i + (ys.length + 1) by omega]
