/-- a text read as commands: fits, where it ends or fails, the commands -/
def prs (h : Nat → Int32) (t : Nat) : Nat → Nat → Bool × Nat × List (Nat × List Int32)
  | 0, p => (false, p, [])
  | k + 1, p => if pcN h p = 7 then (false, p, []) else if (Ff h p (pcN h p)).1 = true then (if h (Ff h p (pcN h p)).2.1 = 59 then ((prs h t k ((Ff h p (pcN h p)).2.1 + 1)).1, (prs h t k ((Ff h p (pcN h p)).2.1 + 1)).2.1, (pcN h p, (Ff h p (pcN h p)).2.2) :: (prs h t k ((Ff h p (pcN h p)).2.1 + 1)).2.2) else if (Ff h p (pcN h p)).2.1 < t then (false, (Ff h p (pcN h p)).2.1, []) else (true, (Ff h p (pcN h p)).2.1, [(pcN h p, (Ff h p (pcN h p)).2.2)])) else (false, (Ff h p (pcN h p)).2.1, [])
theorem prs_7 {h : Nat → Int32} {t k p : Nat} (c : pcN h p = 7) : prs h t (k + 1) p = (false, p, []) := if_pos c
theorem prs_f {h : Nat → Int32} {t k p : Nat} (c : pcN h p ≠ 7) (c2 : (Ff h p (pcN h p)).1 ≠ true) : prs h t (k + 1) p = (false, (Ff h p (pcN h p)).2.1, []) := (if_neg c).trans (if_neg c2)
theorem prs_s {h : Nat → Int32} {t k p : Nat} (c : pcN h p ≠ 7) (c2 : (Ff h p (pcN h p)).1 = true) (c3 : h (Ff h p (pcN h p)).2.1 = 59) : prs h t (k + 1) p = ((prs h t k ((Ff h p (pcN h p)).2.1 + 1)).1, (prs h t k ((Ff h p (pcN h p)).2.1 + 1)).2.1, (pcN h p, (Ff h p (pcN h p)).2.2) :: (prs h t k ((Ff h p (pcN h p)).2.1 + 1)).2.2) := (if_neg c).trans ((if_pos c2).trans (if_pos c3))
theorem prs_x {h : Nat → Int32} {t k p : Nat} (c : pcN h p ≠ 7) (c2 : (Ff h p (pcN h p)).1 = true) (c3 : h (Ff h p (pcN h p)).2.1 ≠ 59) (c4 : (Ff h p (pcN h p)).2.1 < t) : prs h t (k + 1) p = (false, (Ff h p (pcN h p)).2.1, []) := (if_neg c).trans ((if_pos c2).trans ((if_neg c3).trans (if_pos c4)))
theorem prs_e {h : Nat → Int32} {t k p : Nat} (c : pcN h p ≠ 7) (c2 : (Ff h p (pcN h p)).1 = true) (c3 : h (Ff h p (pcN h p)).2.1 ≠ 59) (c4 : ¬ (Ff h p (pcN h p)).2.1 < t) : prs h t (k + 1) p = (true, (Ff h p (pcN h p)).2.1, [(pcN h p, (Ff h p (pcN h p)).2.2)]) := (if_neg c).trans ((if_pos c2).trans ((if_neg c3).trans (if_neg c4)))
/-- the j-th command -/
def cg : List (Nat × List Int32) → Nat → Nat × List Int32
  | [], _ => (7, [])
  | x :: _, 0 => x
  | _ :: xs, j + 1 => cg xs j
def cmdD (z : gM) (kc : Nat) (x : Nat × List Int32) : Prop := z (207 + kc) 0 = nI (x.1 + 1) ∧ nsR z kc x.2
theorem cmdD_congr {z z' : gM} {kc : Nat} {x : Nat × List Int32} (h : ∀ q, z' (207 + kc) q = z (207 + kc) q) (c : cmdD z kc x) : cmdD z' kc x := ⟨(h 0).trans c.1, fun j hj => (h (j + 1)).trans (c.2 j hj)⟩
def rdF (o : Option (gM ⊕ (gM ⊕ (gM ⊕ (Int32 × gM))))) : Option (Int32 × gM) := gs4 o (fun σ15 => some (σ15 204 4, σ15)) (fun σ16 => some ((-1), σ16)) (fun σ17 => some (σ17 204 4, σ17)) (un2 fun y18 σ19 => some (y18, σ19))
theorem d_read9 {t : Nat} {T : Nat → Int32} (ht : t ≤ 60) : ∀ (k i n p : Nat) (z : gM), i + k = 10 → k < n → p ≤ t → HT z t T → z 204 3 = nI i →
    ∃ z' : gM, rdF (f_X2_read_L9 n (nI p) (nI i) z) = some (if (prs (hT t T) t k p).1 = true then -1 else nI (prs (hT t T) t k p).2.1, z') ∧ z' 204 2 = nI t ∧ (∀ j q, j ≠ 204 → ¬ (207 ≤ j ∧ j < 217) → z' j q = z j q) ∧ (∀ j q, j < i → z' (207 + j) q = z (207 + j) q) ∧
      ((prs (hT t T) t k p).1 = true → z' 204 3 = nI (i + (prs (hT t T) t k p).2.2.length) ∧ i + (prs (hT t T) t k p).2.2.length ≤ 10 ∧ ∀ j, j < (prs (hT t T) t k p).2.2.length → cmdD z' (i + j) (cg (prs (hT t T) t k p).2.2 j)) := by
  intro k
  induction k with
  | zero =>
    intro i n p z hi hn hp H h3
    obtain ⟨m, rfl⟩ : ∃ m, n = m + 1 := ⟨n - 1, by omega⟩
    have : i = 10 := by omega
    subst this
    refine ⟨z, ?_, H.1, fun _ _ _ _ => rfl, fun _ _ _ => rfl, fun e => Bool.noConfusion e⟩
    rw [f_X2_read_L9, if_pos (by decide)]
    rfl
  | succ k ih =>
    intro i n p z hi hn hp H h3
    obtain ⟨m, rfl⟩ : ∃ m, n = m + 1 := ⟨n - 1, by omega⟩
    obtain ⟨b, z1, r1, r2, r3⟩ := d_readc (kc := i) (by omega) ht H hp
    have H1 : HT z1 t T := ⟨(r2 204 2 (by omega) (by omega)).trans H.1, fun j hj => (r2 205 j (by omega) (by omega)).trans (H.2 j hj)⟩
    have fr : ∀ j q, j ≠ 204 → ¬ (207 ≤ j ∧ j < 217) → z1 j q = z j q := fun j q j1 j2 => r2 j q (fun e => j1 e.1) (by omega)
    have fr2 : ∀ j q, j < i → z1 (207 + j) q = z (207 + j) q := fun j q hj => r2 (207 + j) q (by omega) (by omega)
    rw [f_X2_read_L9, if_neg (by rw [show (10 : Int32) = nI 10 from rfl, nI_leq (by omega) (by omega)]; omega), nI_gi (by omega) (by omega), g_nIc (by omega), r1, bd2_s]
    have z13 : z1 204 3 = nI i := (r2 204 3 (by omega) (by omega)).trans h3
    rcases r3 with ⟨f, f1, f2, rfl, f3, f4, f5, f6⟩ | ⟨g1, rfl, g2⟩
    · have ef : f = pcN (hT t T) p := by
        by_cases q : f = pcN (hT t T) p
        · exact q
        · have := (Ff_oth f1 q).1
          rw [f2] at this
          exact Bool.noConfusion this
      subst ef
      have c7 : pcN (hT t T) p ≠ 7 := by omega
      have hR : pcN (hT t T) p < 7 := f1
      generalize hz2 : mset z1 204 3 (nI (i + 1)) = z2
      have e24 : z2 204 4 = nI (Ff (hT t T) p (pcN (hT t T) p)).2.1 := by rw [← hz2, mset_ne2 _ _ (by decide)]; exact f3
      have e22 : z2 204 2 = nI t := by rw [← hz2, mset_ne2 _ _ (by decide)]; exact H1.1
      have e23 : z2 204 3 = nI (i + 1) := by rw [← hz2, mset_same]
      have o2 : ∀ j q, j ≠ 204 → z2 j q = z1 j q := fun j q hj => by rw [← hz2, mset_ne1 _ _ hj]
      have H2 : HT z2 t T := ⟨e22, fun j hj => (o2 205 j (by decide)).trans (H1.2 j hj)⟩
      have hcmd : cmdD z2 i (pcN (hT t T) p, (Ff (hT t T) p (pcN (hT t T) p)).2.2) := cmdD_congr (fun q => o2 (207 + i) q (by omega)) ⟨f5, f6⟩
      rw [if_neg (by decide), z13, nI_s (by omega), nm_s, hz2, e24, e22]
      by_cases c3 : hT t T (Ff (hT t T) p (pcN (hT t T) p)).2.1 = 59
      · have hlt := hT_lt c3 (by decide)
        have eT : T (Ff (hT t T) p (pcN (hT t T) p)).2.1 = 59 := (if_pos hlt).symm.trans c3
        rw [prs_s c7 f2 c3, if_pos (by rw [nI_ltq (by omega) (by omega)]; omega), nI_gi (by omega) (by omega), g_nIc (by omega), H2.2 _ hlt, if_pos eT, nI_s (by omega), nm_s, nm_s]
        obtain ⟨z', k1, k2, k3, k4, k5⟩ := ih (i + 1) m ((Ff (hT t T) p (pcN (hT t T) p)).2.1 + 1) z2 (by omega) (by omega) (by omega) H2 e23
        refine ⟨z', k1, k2, fun j q j1 j2 => (k3 j q j1 j2).trans ((o2 j q j1).trans (fr j q j1 j2)), fun j q hj => (k4 j q (by omega)).trans ((o2 (207 + j) q (by omega)).trans (fr2 j q hj)), fun e => ?_⟩
        obtain ⟨m1, m2, m3⟩ := k5 e
        refine ⟨?_, ?_, fun j hj => ?_⟩
        · rw [m1, List.length_cons]; congr 1; omega
        · rw [List.length_cons]; omega
        · rw [List.length_cons] at hj
          by_cases hj0 : j = 0
          · subst hj0
            exact cmdD_congr (fun q => k4 i q (by omega)) hcmd
          · obtain ⟨j', rfl⟩ : ∃ j', j = j' + 1 := ⟨j - 1, by omega⟩
            rw [show i + (j' + 1) = i + 1 + j' by omega]
            exact m3 j' (by omega)
      · by_cases c4 : (Ff (hT t T) p (pcN (hT t T) p)).2.1 < t
        · have eT : ¬ T (Ff (hT t T) p (pcN (hT t T) p)).2.1 = 59 := fun q => c3 ((if_pos c4).trans q)
          rw [prs_x c7 f2 c3 c4, if_pos (by rw [nI_ltq (by omega) (by omega)]; omega), nI_gi (by omega) (by omega), g_nIc (by omega), H2.2 _ c4, if_neg eT]
          refine ⟨z2, ?_, e22, fun j q j1 j2 => (o2 j q j1).trans (fr j q j1 j2), fun j q hj => (o2 (207 + j) q (by omega)).trans (fr2 j q hj), fun e => Bool.noConfusion e⟩
          show some (z2 204 4, z2) = _
          rw [e24]; rfl
        · rw [prs_e c7 f2 c3 c4, if_neg (by rw [nI_ltq (by omega) (by omega)]; omega)]
          refine ⟨z2, rfl, e22, fun j q j1 j2 => (o2 j q j1).trans (fr j q j1 j2), fun j q hj => (o2 (207 + j) q (by omega)).trans (fr2 j q hj), fun _ => ⟨e23, by show i + 1 ≤ 10; omega, fun j hj => ?_⟩⟩
          have hj0 : j = 0 := by have : j < 1 := hj; omega
          subst hj0
          exact hcmd
    · rw [if_pos rfl]
      have eQ : prs (hT t T) t (k + 1) p = (false, farN (hT t T) p 7, []) := by
        rw [farN_eq]
        by_cases c : pcN (hT t T) p = 7
        · rw [if_pos c, prs_7 c]
        · have := pcN_le (hT t T) p
          rw [if_neg c, prs_f c (by rw [g1 _ (by omega)]; decide)]
      rw [eQ]
      refine ⟨z1, ?_, H1.1, fr, fr2, fun e => Bool.noConfusion e⟩
      show some (z1 204 4, z1) = _
      rw [g2]; rfl
theorem d_read {z : gM} {t : Nat} {T : Nat → Int32} (ht : t ≤ 60) (H : HT z t T) : ∃ z' : gM, f_X2_read z = some (if (prs (hT t T) t 10 0).1 = true then -1 else nI (prs (hT t T) t 10 0).2.1, z') ∧ z' 204 2 = nI t ∧ (∀ j q, j ≠ 204 → ¬ (207 ≤ j ∧ j < 217) → z' j q = z j q) ∧
      ((prs (hT t T) t 10 0).1 = true → z' 204 3 = nI (prs (hT t T) t 10 0).2.2.length ∧ (prs (hT t T) t 10 0).2.2.length ≤ 10 ∧ ∀ j, j < (prs (hT t T) t 10 0).2.2.length → cmdD z' j (cg (prs (hT t T) t 10 0).2.2 j)) := by
  have H2 : HT (mset z 204 3 0) t T := ⟨(mset_ne2 _ _ (by decide)).trans H.1, fun j hj => (mset_ne1 _ _ (by decide)).trans (H.2 j hj)⟩
  obtain ⟨z', h1, h2, h3, h4, h5⟩ := d_read9 ht 10 0 gFU 0 (mset z 204 3 0) rfl (by rw [gFU_eq]; omega) (Nat.zero_le _) H2 (mset_same _ _ _ _)
  refine ⟨z', ?_, h2, fun j q j1 j2 => (h3 j q j1 j2).trans (mset_ne1 _ _ j1), fun e => ?_⟩
  · unfold f_X2_read
    rw [nm_s]
    exact h1
  · obtain ⟨m1, m2, m3⟩ := h5 e
    rw [Nat.zero_add] at m1 m2
    exact ⟨m1, m2, fun j hj => by have := m3 j hj; rw [Nat.zero_add] at this; exact this⟩

