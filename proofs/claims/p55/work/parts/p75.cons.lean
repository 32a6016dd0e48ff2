/-! the depot is consistent -/
def scr (σ σ' : gM) : Prop := ∀ j, j ≠ 4 → j ≠ 5 → j ≠ 6 → j ≠ 202 → j ≠ 203 → σ' j = σ j
theorem scr_eqv {σ σ' : gM} (h : scr σ σ') : eqv σ σ' := fun i k hi => by
  rw [h i (fun e => hi (by unfold irr; omega)) (fun e => hi (by unfold irr; omega)) (fun e => hi (by unfold irr; omega)) (fun e => hi (by unfold irr; omega)) (fun e => hi (by unfold irr; omega))]
theorem scr_tr {σ τ υ : gM} (h : scr σ τ) (k : scr τ υ) : scr σ υ := fun j j1 j2 j3 j4 j5 => (k j j1 j2 j3 j4 j5).trans (h j j1 j2 j3 j4 j5)
theorem d_both {σ : gM} {e : Nat → Int32} {a : Nat → Nat} (R : nowR σ e a) : ∃ σ' : gM, f_X9_bothDistancesAgree σ = some (1, σ') ∧ scr σ σ' := by
  have hR := rds_of R.1 R.2.2
  obtain ⟨δ, hδ⟩ := sp_ex hR
  obtain ⟨σ2, s1, s2, s3⟩ := e_floyd hR hδ
  unfold f_X9_bothDistancesAgree
  rw [s1, bd_s]
  refine Exists.elim (loop_mex (F := fun n i (z : gM) => f_X9_bothDistancesAgree_L6 n i z) (N := 6) (I := fun _ z => ∀ j, j ≠ 4 → j ≠ 5 → z j = σ2 j) (Q := fun r => ∃ z : gM, r = .inr z ∧ ∀ j, j ≠ 4 → j ≠ 5 → z j = σ2 j) (by omega) (fun n i z hi hI => Or.inr ?_) (fun n z hI => ?_) (s := σ2) (fun _ _ _ => rfl)) ?_
  rotate_right
  · rintro r ⟨e1, z, e2, e3⟩
    subst e2
    refine ⟨z, ?_, fun j j1 j2 j3 _ _ => (e3 j j1 j2).trans (s2 j j3)⟩
    rw [show f_X9_bothDistancesAgree_L6 gFU 0 σ2 = some (.inr z) from e1]; rfl
  · have hRz : rdsR z a := ⟨fun q hq => by rw [hI 3 (by decide) (by decide), s2 3 (by decide)]; exact hR.1 q hq, hR.2.1, hR.2.2⟩
    obtain ⟨z', d, f1, f2, f3, f4⟩ := e_measure hRz hi
    refine ⟨z', ?_, fun j j1 j2 => (f2 j j1 j2).trans (hI j j1 j2)⟩
    show f_X9_bothDistancesAgree_L6 (n + 1) (nI i) z = f_X9_bothDistancesAgree_L6 n (nI (i + 1)) z'
    have hL : f_X9_bothDistancesAgree_L19 (nI i) z' gFU 0 = some (.inr ()) := by
      refine Exists.elim (loop_mex (F := fun n v (_ : Unit) => f_X9_bothDistancesAgree_L19 (nI i) z' n v) (N := 6) (I := fun _ _ => True) (Q := fun r => r = .inr ()) (by omega) (fun n v z hv _ => Or.inr ⟨(), ?_, trivial⟩) (fun n z _ => ⟨_, ?_, rfl⟩) (s := ()) trivial) ?_
      rotate_right
      · rintro r ⟨e1, e2⟩
        rw [← e2]; exact e1
      · show f_X9_bothDistancesAgree_L19 (nI i) z' (n + 1) (nI v) = f_X9_bothDistancesAgree_L19 (nI i) z' n (nI (v + 1))
        rw [f_X9_bothDistancesAgree_L19, if_neg (by rw [show (6 : Int32) = nI 6 from rfl, nI_leq (by omega) (by omega)]; omega), nI_gi (by omega) (by omega), g_nIc (by omega), f_X9_measuredByRounds, ix36 hi hv, nI_gi (by omega) (by omega), g_nIc (by omega), bd_s, f4 v hv, f2 6 (by decide) (by decide), hI 6 (by decide) (by decide), s3 i v hi hv, sp_uniq f3 (hδ i hi) v hv, if_pos rfl, nm_s, nI_s (by omega)]
      · show f_X9_bothDistancesAgree_L19 (nI i) z' (n + 1) (nI 6) = _
        rw [f_X9_bothDistancesAgree_L19, if_pos (by decide)]
    rw [f_X9_bothDistancesAgree_L6, if_neg (by rw [show (6 : Int32) = nI 6 from rfl, nI_leq (by omega) (by omega)]; omega), f1, bd_s, hL]
    show (nm (nI i + 1) fun x13 => f_X9_bothDistancesAgree_L6 n x13 z') = f_X9_bothDistancesAgree_L6 n (nI (i + 1)) z'
    rw [nm_s, nI_s (by omega)]
  · refine ⟨.inr z, ?_, z, rfl, hI⟩
    show f_X9_bothDistancesAgree_L6 (n + 1) (nI 6) z = _
    rw [f_X9_bothDistancesAgree_L6, if_pos (by decide)]
theorem scr_now {σ σ' : gM} {e : Nat → Int32} {a : Nat → Nat} (h : scr σ σ') (R : nowR σ e a) : nowR σ' e a := now_f R (fun i i1 i2 i3 i4 => h i i1 i2 i3 (by omega) (by omega))
theorem d_handling {σ : gM} {e : Nat → Int32} {a : Nat → Nat} (R : nowR σ e a) : ∃ σ' : gM, f_X12_handlingAgrees σ = some (1, σ') ∧ scr σ σ' := by
  obtain ⟨τ, h1, h2⟩ := d_greedy R.1 R.2.2
  have E : scr σ τ := fun j _ _ _ j4 _ => h2 j j4
  have R2 := scr_now E R
  refine ⟨τ, ?_, E⟩
  unfold f_X12_handlingAgrees
  rw [h1, bd2_s, d_byShortage R2.1 R2.2.2 (e_waiting R2), bd_s, if_pos rfl]
theorem d_sacks {σ : gM} {e : Nat → Int32} {a : Nat → Nat} (R : nowR σ e a) : ∃ σ' : gM, f_X12_sacksAgree σ = some (1, σ') ∧ scr σ σ' := by
  unfold f_X12_sacksAgree
  refine Exists.elim (loop_mex (F := fun n i (z : gM) => f_X12_sacksAgree_L2 n i z) (N := 3) (I := fun _ z => scr σ z) (Q := fun r => ∃ z : gM, r = .inr (.inr z) ∧ scr σ z) (by omega) (fun n i z hi hI => Or.inr ?_) (fun n z hI => ?_) (s := σ) (fun _ _ _ _ _ _ => rfl)) ?_
  rotate_right
  · rintro r ⟨e1, z, e2, e3⟩
    subst e2
    refine ⟨z, ?_, e3⟩
    rw [show f_X12_sacksAgree_L2 gFU 0 σ = some (.inr (.inr z)) from e1]; rfl
  · have Rz := scr_now hI R
    obtain ⟨z', f1, f2⟩ := d_fitT Rz.1 Rz.2.2 hi
    have E : scr z z' := fun j _ _ _ _ j5 => f2 j j5
    have R2 := scr_now E Rz
    obtain ⟨v1, v2, v3, v4⟩ := R2.2.2.2.2.2.2.2.2.2 i hi
    refine ⟨z', ?_, scr_tr hI E⟩
    show f_X12_sacksAgree_L2 (n + 1) (nI i) z = f_X12_sacksAgree_L2 n (nI (i + 1)) z'
    rw [f_X12_sacksAgree_L2, if_neg (by rw [show (3 : Int32) = nI 3 from rfl, nI_leq (by omega) (by omega)]; omega), d_fitG Rz.1 Rz.2.2 hi, bd_s, f1, bd2_s, if_pos rfl, d_room R2.1 R2.2.2 hi, bd_s, if_pos (nI_ge0 (by omega)), nm_s, nI_s (by omega)]
  · refine ⟨.inr (.inr z), ?_, z, rfl, hI⟩
    show f_X12_sacksAgree_L2 (n + 1) (nI 3) z = _
    rw [f_X12_sacksAgree_L2, if_pos (by decide)]
theorem q_isConsistent {σ : gM} {e : Nat → Int32} {a : Nat → Nat} (R : nowR σ e a) : ∃ τ : gM, f_X12_isConsistent σ = some (1, τ) ∧ scr σ τ := by
  obtain ⟨σ1, h1, E1⟩ := d_both R
  obtain ⟨σ2, h2, E2⟩ := d_handling (scr_now E1 R)
  obtain ⟨σ3, h3, E3⟩ := d_sacks (scr_now E2 (scr_now E1 R))
  refine ⟨σ3, ?_, scr_tr E1 (scr_tr E2 E3)⟩
  unfold f_X12_isConsistent
  rw [h1, bd2_s, if_neg (by decide), h2, bd2_s, if_neg (by decide), h3, bd2_s, if_neg (by decide)]
theorem q_handleable {σ : gM} {e : Nat → Int32} {a : Nat → Nat} (R : nowR σ e a) : ∃ τ : gM, f_X12_handleable σ = some (iI ((waN a : Int) - lfI a), τ) ∧ scr σ τ := by
  obtain ⟨τ, h1, h2⟩ := d_greedy R.1 R.2.2
  refine ⟨τ, ?_, fun j _ _ _ j4 _ => h2 j j4⟩
  unfold f_X12_handleable
  rw [h1, bd2_s]
theorem q_byShortage {σ : gM} {e : Nat → Int32} {a : Nat → Nat} (R : nowR σ e a) : f_X12_handleableByShortage σ = some (iI ((waN a : Int) - lfI a)) := by
  unfold f_X12_handleableByShortage
  rw [d_byShortage R.1 R.2.2 (e_waiting R), bd_s]
theorem q_mostFitting {σ : gM} {e : Nat → Int32} {a : Nat → Nat} (R : nowR σ e a) {k : Nat} (hk : k < 3) : f_X12_mostFitting σ (nI k) = some (.inl (nI (fitN a (a (131 + k) - loadN a k)))) := by
  unfold f_X12_mostFitting
  rw [ss_ok hk, bt_l, d_fitG R.1 R.2.2 hk, bd_s]
theorem q_mostFittingByTable {σ : gM} {e : Nat → Int32} {a : Nat → Nat} (R : nowR σ e a) {k : Nat} (hk : k < 3) : ∃ τ : gM, f_X12_mostFittingByTable σ (nI k) = some (.inl (nI (fitN a (a (131 + k) - loadN a k)), τ)) ∧ scr σ τ := by
  obtain ⟨τ, h1, h2⟩ := d_fitT R.1 R.2.2 hk
  refine ⟨τ, ?_, fun j _ _ _ _ j5 => h2 j j5⟩
  unfold f_X12_mostFittingByTable
  rw [ss_ok hk, bt_l, h1, bd2_s]
