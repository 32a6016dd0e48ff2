/-! commands carried out -/
def cD (f : Nat) (x y w : Int32) (τ : gM) : Option (Int32 × gM) := if f = 0 then f_X3_joinPlaces τ x y w else if f = 1 then f_X3_addParcel τ x y w else if f = 2 then f_X3_addGlove τ x else if f = 3 then f_X3_putIn τ x y else if f = 4 then f_X3_pullOut τ x else if f = 5 then f_X3_bring τ x y else f_X3_takeBack τ x
def cM (f : Nat) (x y w : Int32) (τ : gM) : Option (Int32 × gM) := if f = 0 then f_X13_builds τ x y w else if f = 1 then f_X13_accepts τ x y w else if f = 2 then f_X13_buys τ x else if f = 3 then f_X13_puts τ x y else if f = 4 then f_X13_takes τ x else if f = 5 then f_X13_carries τ x y else f_X13_comes τ x
theorem cM_0 {x y w : Int32} {τ : gM} : cM 0 x y w τ = f_X13_builds τ x y w := if_pos rfl
theorem cM_1 {x y w : Int32} {τ : gM} : cM 1 x y w τ = f_X13_accepts τ x y w := (if_neg (by decide)).trans (if_pos rfl)
theorem cM_2 {x y w : Int32} {τ : gM} : cM 2 x y w τ = f_X13_buys τ x := (if_neg (by decide)).trans ((if_neg (by decide)).trans (if_pos rfl))
theorem cM_3 {x y w : Int32} {τ : gM} : cM 3 x y w τ = f_X13_puts τ x y := (if_neg (by decide)).trans ((if_neg (by decide)).trans ((if_neg (by decide)).trans (if_pos rfl)))
theorem cM_4 {x y w : Int32} {τ : gM} : cM 4 x y w τ = f_X13_takes τ x := (if_neg (by decide)).trans ((if_neg (by decide)).trans ((if_neg (by decide)).trans ((if_neg (by decide)).trans (if_pos rfl))))
theorem cM_5 {x y w : Int32} {τ : gM} : cM 5 x y w τ = f_X13_carries τ x y := (if_neg (by decide)).trans ((if_neg (by decide)).trans ((if_neg (by decide)).trans ((if_neg (by decide)).trans ((if_neg (by decide)).trans (if_pos rfl)))))
theorem cM_6 {x y w : Int32} {τ : gM} : cM 6 x y w τ = f_X13_comes τ x := (if_neg (by decide)).trans ((if_neg (by decide)).trans ((if_neg (by decide)).trans ((if_neg (by decide)).trans ((if_neg (by decide)).trans ((if_neg (by decide)))))))
theorem cmd_chg {f : Nat} (hf : f < 7) (x y w : Int32) : ∃ c : Nat → Nat, chgR (cD f x y w) (cM f x y w) c := by
  rcases (show f = 0 ∨ f = 1 ∨ f = 2 ∨ f = 3 ∨ f = 4 ∨ f = 5 ∨ f = 6 by omega) with rfl | rfl | rfl | rfl | rfl | rfl | rfl
  · exact ⟨_, rd_chg x y w⟩
  · exact ⟨_, ac_chg x y w⟩
  · exact ⟨_, by_chg x⟩
  · exact ⟨_, pu_chg x y⟩
  · exact ⟨_, to_chg x⟩
  · exact ⟨_, cy_chg x y⟩
  · exact ⟨_, cb_chg x⟩
def wfC (x : Nat × List Int32) : Prop := x.1 < 7 ∧ x.2.length = cn (gByt.getD x.1 [])
theorem bd2_re2 {X : Option (Int32 × gM)} : (bd2 X fun r5 σ6 => some (r5, σ6)) = X := by
  cases X <;> rfl
theorem e_carryOut {τ : gM} {kc : Nat} {x : Nat × List Int32} (hw : wfC x) (h : cmdD τ kc x) : f_X12_carryOut τ kc = cD x.1 (ng x.2 0) (ng x.2 1) (ng x.2 2) τ := by
  obtain ⟨f, ns⟩ := x
  obtain ⟨hf, hl⟩ := hw
  obtain ⟨h0, hn⟩ := h
  have hf : f < 7 := hf
  have hl : ns.length = cn (gByt.getD f []) := hl
  have h0 : τ (207 + kc) 0 = nI (f + 1) := h0
  have n1 : 1 ≤ ns.length → τ (207 + kc) 1 = ng ns 0 := fun q => hn 0 q
  have n2 : 2 ≤ ns.length → τ (207 + kc) 2 = ng ns 1 := fun q => hn 1 q
  have n3 : 3 ≤ ns.length → τ (207 + kc) 3 = ng ns 2 := fun q => hn 2 q
  unfold f_X12_carryOut
  simp only [bd2_re2]
  rw [h0]
  rcases (show f = 0 ∨ f = 1 ∨ f = 2 ∨ f = 3 ∨ f = 4 ∨ f = 5 ∨ f = 6 by omega) with rfl | rfl | rfl | rfl | rfl | rfl | rfl
  · have hl : ns.length = 3 := hl
    rw [if_neg (by decide), show gi (nI (0 + 1) - 1) 7 _ = _ from gi_in (by unfold vp_in; decide), if_pos (by decide), n1 (by omega), n2 (by omega), n3 (by omega)]; rfl
  · have hl : ns.length = 3 := hl
    rw [if_neg (by decide), show gi (nI (1 + 1) - 1) 7 _ = _ from gi_in (by unfold vp_in; decide), if_neg (by decide), if_pos (by decide), n1 (by omega), n2 (by omega), n3 (by omega)]; rfl
  · have hl : ns.length = 1 := hl
    rw [if_neg (by decide), show gi (nI (2 + 1) - 1) 7 _ = _ from gi_in (by unfold vp_in; decide), if_neg (by decide), if_neg (by decide), if_pos (by decide), n1 (by omega)]; rfl
  · have hl : ns.length = 2 := hl
    rw [if_neg (by decide), show gi (nI (3 + 1) - 1) 7 _ = _ from gi_in (by unfold vp_in; decide), if_neg (by decide), if_neg (by decide), if_neg (by decide), if_pos (by decide), n1 (by omega), n2 (by omega)]; rfl
  · have hl : ns.length = 1 := hl
    rw [if_neg (by decide), show gi (nI (4 + 1) - 1) 7 _ = _ from gi_in (by unfold vp_in; decide), if_neg (by decide), if_neg (by decide), if_neg (by decide), if_neg (by decide), if_pos (by decide), n1 (by omega)]; rfl
  · have hl : ns.length = 2 := hl
    rw [if_neg (by decide), show gi (nI (5 + 1) - 1) 7 _ = _ from gi_in (by unfold vp_in; decide), if_neg (by decide), if_neg (by decide), if_neg (by decide), if_neg (by decide), if_neg (by decide), if_pos (by decide), n1 (by omega), n2 (by omega)]; rfl
  · have hl : ns.length = 1 := hl
    rw [if_neg (by decide), show gi (nI (6 + 1) - 1) 7 _ = _ from gi_in (by unfold vp_in; decide), if_neg (by decide), if_neg (by decide), if_neg (by decide), if_neg (by decide), if_neg (by decide), if_neg (by decide), if_pos (by decide), n1 (by omega)]; rfl
theorem e_carriesOut {τ : gM} {b : Nat} {x : Nat × List Int32} (hb : b + 4 ≤ 240) (hw : wfC x) (h : cmdM τ b x) : f_X13_carriesOut τ (nI b) = cM x.1 (ng x.2 0) (ng x.2 1) (ng x.2 2) τ := by
  obtain ⟨f, ns⟩ := x
  obtain ⟨hf, hl⟩ := hw
  obtain ⟨h0, hn⟩ := h
  have hf : f < 7 := hf
  have hl : ns.length = cn (gByt.getD f []) := hl
  have h0 : τ 227 b = cdN f := h0
  have n1 : 1 ≤ ns.length → τ 227 (b + 1) = ng ns 0 := fun q => hn 0 q
  have n2 : 2 ≤ ns.length → τ 227 (b + 2) = ng ns 1 := fun q => hn 1 q
  have n3 : 3 ≤ ns.length → τ 227 (b + 3) = ng ns 2 := fun q => hn 2 q
  unfold f_X13_carriesOut
  simp only [bd2_re2]
  rw [show nI b + 1 = nI (b + 1) from nI_al (k := b) (i := 1) (by omega), show nI b + 2 = nI (b + 2) from nI_al (k := b) (i := 2) (by omega), show nI b + 3 = nI (b + 3) from nI_al (k := b) (i := 3) (by omega)]
  simp (disch := omega) only [nI_gi, g_nIc, nm_s]
  rw [h0]
  rcases (show f = 0 ∨ f = 1 ∨ f = 2 ∨ f = 3 ∨ f = 4 ∨ f = 5 ∨ f = 6 by omega) with rfl | rfl | rfl | rfl | rfl | rfl | rfl
  · have hl : ns.length = 3 := hl
    rw [show cdN 0 = (114 : Int32) from rfl, if_neg (by decide), if_neg (by decide), if_neg (by decide), if_neg (by decide), if_pos rfl, n1 (by omega), n2 (by omega), n3 (by omega), cM_0]
  · have hl : ns.length = 3 := hl
    rw [show cdN 1 = (112 : Int32) from rfl, if_neg (by decide), if_neg (by decide), if_neg (by decide), if_pos rfl, n1 (by omega), n2 (by omega), n3 (by omega), cM_1]
  · have hl : ns.length = 1 := hl
    rw [show cdN 2 = (103 : Int32) from rfl, if_neg (by decide), if_pos rfl, n1 (by omega), cM_2]
  · have hl : ns.length = 2 := hl
    rw [show cdN 3 = (117 : Int32) from rfl, if_neg (by decide), if_neg (by decide), if_neg (by decide), if_neg (by decide), if_neg (by decide), if_pos rfl, n1 (by omega), n2 (by omega), cM_3]
  · have hl : ns.length = 1 := hl
    rw [show cdN 4 = (111 : Int32) from rfl, if_neg (by decide), if_neg (by decide), if_pos rfl, n1 (by omega), cM_4]
  · have hl : ns.length = 2 := hl
    rw [show cdN 5 = (99 : Int32) from rfl, if_pos rfl, n1 (by omega), n2 (by omega), cM_5]
  · have hl : ns.length = 1 := hl
    rw [show cdN 6 = (98 : Int32) from rfl, if_neg (by decide), if_neg (by decide), if_neg (by decide), if_neg (by decide), if_neg (by decide), if_neg (by decide), n1 (by omega), cM_6]
theorem prs_wf {h : Nat → Int32} {t : Nat} : ∀ (k p : Nat), (prs h t k p).1 = true → (prs h t k p).2.2.length ≤ k ∧ ∀ j, j < (prs h t k p).2.2.length → wfC (cg (prs h t k p).2.2 j) := by
  intro k
  induction k with
  | zero => exact fun p e => Bool.noConfusion e
  | succ k ih =>
    intro p e
    have hle := pcN_le h p
    by_cases c7 : pcN h p = 7
    · rw [prs_7 c7] at e; exact Bool.noConfusion e
    · have hf : pcN h p < 7 := by omega
      by_cases c2 : (Ff h p (pcN h p)).1 = true
      · have hw : wfC (pcN h p, (Ff h p (pcN h p)).2.2) := ⟨hf, by
          have hcn := pm_cn (h := h) (ps := gByt.getD (pcN h p) []) (p := p) (ns := []) c2
          rw [List.length_nil, Nat.zero_add] at hcn
          exact hcn⟩
        by_cases c3 : h (Ff h p (pcN h p)).2.1 = 59
        · rw [prs_s c7 c2 c3] at e ⊢
          obtain ⟨i1, i2⟩ := ih _ e
          refine ⟨by rw [List.length_cons]; omega, fun j hj => ?_⟩
          rw [List.length_cons] at hj
          by_cases hj0 : j = 0
          · subst hj0; exact hw
          · obtain ⟨j', rfl⟩ : ∃ j', j = j' + 1 := ⟨j - 1, by omega⟩
            exact i2 j' (by omega)
        · by_cases c4 : (Ff h p (pcN h p)).2.1 < t
          · rw [prs_x c7 c2 c3 c4] at e; exact Bool.noConfusion e
          · rw [prs_e c7 c2 c3 c4]
            refine ⟨by show 1 ≤ k + 1; omega, fun j hj => ?_⟩
            have hj0 : j = 0 := by have : j < 1 := hj; omega
            subst hj0; exact hw
      · rw [prs_f c7 c2] at e; exact Bool.noConfusion e
/-- what the two sides hold of the commands -/
def CD (τ : gM) (cs : List (Nat × List Int32)) : Prop := τ 204 3 = nI cs.length ∧ ∀ j, j < cs.length → cmdD τ j (cg cs j)
def CM (τ : gM) (cs : List (Nat × List Int32)) : Prop := ∀ j, j < cs.length → cmdM τ (4 * j) (cg cs j)
theorem CD_c {τ τ' : gM} {cs : List (Nat × List Int32)} (h : ∀ i, 19 ≤ i ∨ i = 0 → τ' i = τ i) (c : CD τ cs) : CD τ' cs := ⟨by rw [h 204 (by omega)]; exact c.1, fun j hj => cmdD_congr (fun q => by rw [h _ (by omega)]) (c.2 j hj)⟩
theorem CM_c {τ τ' : gM} {cs : List (Nat × List Int32)} (h : τ' 227 = τ 227) (c : CM τ cs) : CM τ' cs := fun j hj => ⟨by rw [h]; exact (c j hj).1, fun i hi => by rw [h]; exact (c j hj).2 i hi⟩
theorem neg_no {n : Nat} (h : n ≤ 4) : ¬ (0 : Int32) ≤ -2 - nI n := by
  rcases (show n = 0 ∨ n = 1 ∨ n = 2 ∨ n = 3 ∨ n = 4 by omega) with rfl | rfl | rfl | rfl | rfl <;> decide
theorem run_cs {cs : List (Nat × List Int32)} (hw : ∀ j, j < cs.length → wfC (cg cs j)) (h10 : cs.length ≤ 10) : ∀ (k i : Nat), i + k = cs.length → ∀ (e : Nat → Int32) (a : Nat → Nat), vdR e a →
    (∃ (e' : Nat → Int32) (a' : Nat → Nat), vdR e' a' ∧ (∀ (τ : gM) (m : Nat), k < m → CD τ cs → blkR τ 0 e a → ∃ τ' : gM, f_X12_carryOutCommands_L2 m (nI i) τ = some (.inr τ') ∧ (∀ j, 19 ≤ j ∨ j = 0 → τ' j = τ j) ∧ blkR τ' 0 e' a') ∧
      ∀ (τ : gM) (m : Nat), k < m → CM τ cs → rowE (τ 220) e a → ∃ τ' : gM, f_X13_runCommands_L130 (nI cs.length) m (nI i) τ = some (.inr τ') ∧ (∀ j q, j ≠ 220 → j ≠ 226 → ¬ (j = 219 ∧ q = 12) → τ' j q = τ j q) ∧ rowE (τ' 220) e' a') ∨
    ∃ j, j < cs.length ∧ (∀ (τ : gM) (m : Nat), k < m → CD τ cs → blkR τ 0 e a → ∃ τ' : gM, f_X12_carryOutCommands_L2 m (nI i) τ = some (.inl (nI j, τ')) ∧ ∀ x, 19 ≤ x ∨ x = 0 → τ' x = τ x) ∧
      ∀ (τ : gM) (m : Nat), k < m → CM τ cs → rowE (τ 220) e a → ∃ (w : Int32) (τ' : gM), f_X13_runCommands_L130 (nI cs.length) m (nI i) τ = some (.inl (nI j, w, τ')) ∧ ∀ x q, x ≠ 220 → x ≠ 226 → ¬ (x = 219 ∧ q = 12) → τ' x q = τ x q := by
  intro k
  induction k with
  | zero =>
    intro i hi e a V
    refine Or.inl ⟨e, a, V, fun τ m hm C B => ?_, fun τ m hm C hr => ?_⟩
    · obtain ⟨m, rfl⟩ : ∃ m', m = m' + 1 := ⟨m - 1, by omega⟩
      refine ⟨τ, ?_, fun _ _ => rfl, B⟩
      rw [f_X12_carryOutCommands_L2, f_X2_commandCount, C.1, bd_s, if_pos (by rw [nI_leq (by omega) (by omega)]; omega)]
    · obtain ⟨m, rfl⟩ : ∃ m', m = m' + 1 := ⟨m - 1, by omega⟩
      refine ⟨τ, ?_, fun _ _ _ _ _ => rfl, hr⟩
      rw [f_X13_runCommands_L130, if_pos (by rw [nI_leq (by omega) (by omega)]; omega)]
  | succ k ih =>
    intro i hi e a V
    have hil : i < cs.length := by omega
    obtain ⟨c, hc⟩ := cmd_chg (hw i hil).1 (ng (cg cs i).2 0) (ng (cg cs i).2 1) (ng (cg cs i).2 2)
    have sD : ∀ (τ : gM) (m : Nat), CD τ cs → f_X12_carryOutCommands_L2 (m + 1) (nI i) τ = bd2 (cD (cg cs i).1 (ng (cg cs i).2 0) (ng (cg cs i).2 1) (ng (cg cs i).2 2) τ) fun r8 σ9 => if 0 ≤ r8 then f_X12_carryOutCommands_L2 m (nI (i + 1)) σ9 else some (.inl (nI i, σ9)) := by
      intro τ m C
      rw [f_X12_carryOutCommands_L2, f_X2_commandCount, C.1, bd_s, if_neg (by rw [nI_leq (by omega) (by omega)]; omega), f_X2_command, show f_X12_isIndex τ (nI i) 10 = _ from ix_ok (N := 10) (by omega) (by omega), bd_s, if_neg (by decide), nI_gi (by omega) (by omega), g_nIc (by omega), bd_s]
      show (if i < 10 then _ else none) = _
      rw [if_pos (by omega), e_carryOut (hw i hil) (C.2 i hil)]
      simp only [nm_s]
      rw [nI_s (by omega)]
    have sM : ∀ (τ : gM) (m : Nat), CM τ cs → f_X13_runCommands_L130 (nI cs.length) (m + 1) (nI i) τ = bd2 (cM (cg cs i).1 (ng (cg cs i).2 0) (ng (cg cs i).2 1) (ng (cg cs i).2 2) τ) fun r28 σ29 => if (σ29 219 12) = 0 then f_X13_runCommands_L130 (nI cs.length) m (nI (i + 1)) σ29 else some (.inl (nI i, r28, σ29)) := by
      intro τ m C
      rw [f_X13_runCommands_L130, if_neg (by rw [nI_leq (by omega) (by omega)]; omega), show (4 : Int32) = nI 4 from rfl, nI_mul (by omega) (by omega) (by omega), e_carriesOut (by omega) (hw i hil) (C i hil)]
      simp only [nm_s]
      rw [nI_s (by omega)]
    rcases hc e a V with ⟨v, e1, a1, hv, h1, h2, h3⟩ | ⟨n, hn, n1, n9, h1, h2⟩
    · rcases ih (i + 1) (by omega) e1 a1 h3 with ⟨e', a', V', gD, gM'⟩ | ⟨j, hj, gD, gM'⟩
      · refine Or.inl ⟨e', a', V', fun τ m hm C B => ?_, fun τ m hm C hr => ?_⟩
        · obtain ⟨m, rfl⟩ : ∃ m', m = m' + 1 := ⟨m - 1, by omega⟩
          obtain ⟨τ1, d1, d2, d3⟩ := h1 τ B
          obtain ⟨τ', g1, g2, g3⟩ := gD τ1 m (by omega) (CD_c d2 C) d3
          refine ⟨τ', ?_, fun x hx => (g2 x hx).trans (d2 x hx), g3⟩
          rw [sD τ m C, d1, bd2_s, if_pos hv, g1]
        · obtain ⟨m, rfl⟩ : ∃ m', m = m' + 1 := ⟨m - 1, by omega⟩
          obtain ⟨τ1, d1, d2, d3, d4⟩ := h2 τ hr
          obtain ⟨τ', g1, g2, g3⟩ := gM' τ1 m (by omega) (CM_c (funext fun q => d2 227 q (by decide) (by decide) (by omega)) C) d4
          refine ⟨τ', ?_, fun x q x1 x2 x3 => (g2 x q x1 x2 x3).trans (d2 x q x1 x2 x3), g3⟩
          rw [sM τ m C, d1, bd2_s, if_pos d3, g1]
      · refine Or.inr ⟨j, hj, fun τ m hm C B => ?_, fun τ m hm C hr => ?_⟩
        · obtain ⟨m, rfl⟩ : ∃ m', m = m' + 1 := ⟨m - 1, by omega⟩
          obtain ⟨τ1, d1, d2, d3⟩ := h1 τ B
          obtain ⟨τ', g1, g2⟩ := gD τ1 m (by omega) (CD_c d2 C) d3
          refine ⟨τ', ?_, fun x hx => (g2 x hx).trans (d2 x hx)⟩
          rw [sD τ m C, d1, bd2_s, if_pos hv, g1]
        · obtain ⟨m, rfl⟩ : ∃ m', m = m' + 1 := ⟨m - 1, by omega⟩
          obtain ⟨τ1, d1, d2, d3, d4⟩ := h2 τ hr
          obtain ⟨w, τ', g1, g2⟩ := gM' τ1 m (by omega) (CM_c (funext fun q => d2 227 q (by decide) (by decide) (by omega)) C) d4
          refine ⟨w, τ', ?_, fun x q x1 x2 x3 => (g2 x q x1 x2 x3).trans (d2 x q x1 x2 x3)⟩
          rw [sM τ m C, d1, bd2_s, if_pos d3, g1]
    · refine Or.inr ⟨i, hil, fun τ m hm C B => ?_, fun τ m hm C hr => ?_⟩
      · obtain ⟨m, rfl⟩ : ∃ m', m = m' + 1 := ⟨m - 1, by omega⟩
        obtain ⟨τ1, d1, d2⟩ := h1 τ B
        refine ⟨τ1, ?_, fun x hx => funext fun q => by rw [d2 x (by omega) (by omega) (by omega)]⟩
        rw [sD τ m C, d1, bd2_s, if_neg (neg_no hn)]
      · obtain ⟨m, rfl⟩ : ∃ m', m = m' + 1 := ⟨m - 1, by omega⟩
        obtain ⟨w, τ1, d1, d2, d3⟩ := h2 τ hr
        refine ⟨w, τ1, ?_, fun x q x1 x2 x3 => d2 x q x2 x3⟩
        rw [sM τ m C, d1, bd2_s, if_neg (by rw [d3]; exact nI_nz n1 (by omega))]
