/-! queries: what a turn may leave changed -/
def irr (i k : Nat) : Prop := i = 4 ∨ i = 5 ∨ i = 6 ∨ i = 202 ∨ i = 203 ∨ i = 221 ∨ i = 226 ∨ i = 227 ∨ (207 ≤ i ∧ i < 217) ∨ (i = 204 ∧ k ≠ 2) ∨ (i = 219 ∧ (k = 12 ∨ k = 14 ∨ k = 15))
def eqv (σ σ' : gM) : Prop := ∀ i k, ¬ irr i k → σ' i k = σ i k
theorem eqv.rf {σ : gM} : eqv σ σ := fun _ _ _ => rfl
theorem eqv.tr {σ τ υ : gM} (h : eqv σ τ) (k : eqv τ υ) : eqv σ υ := fun i j hi => (k i j hi).trans (h i j hi)
theorem mset_same (σ : gM) (i k : Nat) (x : Int32) : mset σ i k x i k = x := by simp [mset, rset, upd]
theorem mset_ne1 (σ : gM) {i j k q : Nat} (x : Int32) (h : j ≠ i) : mset σ i k x j q = σ j q := by simp [mset, rset, h]
theorem mset_ne2 (σ : gM) {i j k q : Nat} (x : Int32) (h : q ≠ k) : mset σ i k x j q = σ j q := by
  by_cases hj : j = i
  · subst hj; simp [mset, rset, upd, h]
  · exact mset_ne1 σ x hj
theorem eqv_m {σ τ : gM} (h : eqv σ τ) {i k : Nat} (hi : irr i k) (x : Int32) : eqv σ (mset τ i k x) := by
  intro j q hj
  by_cases h1 : j = i
  · by_cases h2 : q = k
    · subst h1; subst h2; exact absurd hi hj
    · rw [mset_ne2 τ x h2]; exact h j q hj
  · rw [mset_ne1 τ x h1]; exact h j q hj
theorem irr_t : irr 219 12 := by unfold irr; omega
theorem vp_ex {x : Int32} {N : Nat} (h : vp_in x N) : ∃ j, j < N ∧ x = nI j := by
  refine ⟨x.toNatClampNeg, vp_lt h, ?_⟩
  apply g_toInt_inj
  unfold vp_in at h
  have h0 : ¬ x < 0 := fun q => h (Or.inl q)
  rw [Int32.lt_iff_toInt_lt] at h0
  have h1 : (0 : Int32).toInt = 0 := by decide
  have h2 := x.toInt_lt
  have h3 : x.toNatClampNeg = x.toInt.toNat := rfl
  unfold nI
  rw [Int32.toInt_ofNat_of_lt (by omega)]
  omega
theorem ix_ok {σ : gM} {j N : Nat} (h : j < N) (hN : N ≤ 4096) : f_X12_isIndex σ (nI j) (nI N) = some 1 := by
  unfold f_X12_isIndex
  rw [if_neg (by rw [show (0 : Int32) = nI 0 from rfl, nI_ltq (by omega) (by omega)]; omega), if_neg (by rw [nI_leq hN (by omega)]; omega)]
theorem ix_no {σ : gM} {x : Int32} {N : Nat} (h : ¬ vp_in x N) (hN : N ≤ 4096) : f_X12_isIndex σ x (nI N) = some 0 := by
  unfold f_X12_isIndex
  by_cases h0 : x < 0
  · rw [if_pos h0]
  · rw [if_neg h0, if_pos]
    unfold vp_in at h
    have h1 : N ≤ x.toNatClampNeg := by
      rcases Classical.not_not.mp h with q | q
      · exact absurd q h0
      · exact q
    rw [Int32.le_iff_toInt_le, g_nIt hN]
    have h3 : x.toNatClampNeg = x.toInt.toNat := rfl
    have h4 : ¬ x.toInt < 0 := fun q => h0 (by rw [Int32.lt_iff_toInt_lt]; exact q)
    omega
theorem rq_ok {σ : gM} {j N : Nat} (h : j < N) (hN : N ≤ 4096) : f_X12_requireIndex σ (nI j) (nI N) = some (.inl ()) := by
  unfold f_X12_requireIndex
  rw [ix_ok h hN]; rfl
theorem rq_no {σ : gM} {x : Int32} {N : Nat} (h : ¬ vp_in x N) (hN : N ≤ 4096) : f_X12_requireIndex σ x (nI N) = some (.inr 0) := by
  unfold f_X12_requireIndex
  rw [ix_no h hN]; rfl
theorem gn_s {α : Type} {ty : FieldType} {x : Int32} {A : Option α} (h : vp_nar ty x = x) : gn ty x A = A := if_pos h
theorem lg_s (x : Int64) : lg_cmp x x = 0 := by
  unfold lg_cmp
  rw [if_neg (by simp), if_pos rfl]
theorem nI_sub3 {x : Nat} (h : x ≤ 2) : (3 : Int32) - nI x = nI (3 - x) := by
  have h3 : x = 0 ∨ x = 1 ∨ x = 2 := by omega
  rcases h3 with rfl | rfl | rfl <;> rfl
theorem ps_no {σ : gM} {e : Nat → Int32} {a : Nat → Nat} (R : nowR σ e a) {x : Int32} (h : ¬ vp_in x (a 36)) : f_X12_requireParcel σ x = some (.inr 0) := by
  have h1 : σ 7 5 = nI (a 36) := R.1.2.2.1
  have hN : a 36 ≤ 12 := R.2.2.1
  unfold f_X12_requireParcel f_X8_size
  rw [bd_s, h1, rq_no h (by omega)]; rfl
theorem ps_ok {σ : gM} {e : Nat → Int32} {a : Nat → Nat} (R : nowR σ e a) {j : Nat} (h : j < a 36) : f_X12_requireParcel σ (nI j) = some (.inl ()) := by
  have h1 : σ 7 5 = nI (a 36) := R.1.2.2.1
  have hN : a 36 ≤ 12 := R.2.2.1
  unfold f_X12_requireParcel f_X8_size
  rw [bd_s, h1, rq_ok h (by omega)]; rfl
theorem q_weight {σ : gM} {e : Nat → Int32} {a : Nat → Nat} (R : nowR σ e a) {j : Nat} (hj : j < a 36) : f_X12_weight σ (nI j) = some (.inl (nI (a (40 + j)))) := by
  have hN : a 36 ≤ 12 := R.2.2.1
  obtain ⟨p1, -⟩ := R.1.2.2.2.1 j hj
  unfold f_X12_weight
  rw [ps_ok R hj, bt_l, f_X8_weightOf, nI_gi (by omega) (by omega), g_nIc (by omega), show σ 8 j = _ from p1, bd_s]
theorem q_hazard {σ : gM} {e : Nat → Int32} {a : Nat → Nat} (R : nowR σ e a) {j : Nat} (hj : j < a 36) : f_X12_hazard σ (nI j) = some (.inl (nI (a (52 + j)))) := by
  have hN : a 36 ≤ 12 := R.2.2.1
  obtain ⟨-, p1, -⟩ := R.1.2.2.2.1 j hj
  unfold f_X12_hazard
  rw [ps_ok R hj, bt_l, f_X8_hazardOf, nI_gi (by omega) (by omega), g_nIc (by omega), show σ 9 j = _ from p1, bd_s]
theorem q_destination {σ : gM} {e : Nat → Int32} {a : Nat → Nat} (R : nowR σ e a) {j : Nat} (hj : j < a 36) : f_X12_destination σ (nI j) = some (.inl (nI (a (64 + j)))) := by
  have hN : a 36 ≤ 12 := R.2.2.1
  obtain ⟨-, -, p1, -⟩ := R.1.2.2.2.1 j hj
  unfold f_X12_destination
  rw [ps_ok R hj, bt_l, f_X8_destinationOf, nI_gi (by omega) (by omega), g_nIc (by omega), show σ 10 j = _ from p1, bd_s]
theorem q_returns {σ : gM} {e : Nat → Int32} {a : Nat → Nat} (R : nowR σ e a) {j : Nat} (hj : j < a 36) : f_X12_returns σ (nI j) = some (.inl (e (100 + j))) := by
  have hN : a 36 ≤ 12 := R.2.2.1
  obtain ⟨-, -, -, -, p1⟩ := R.1.2.2.2.1 j hj
  unfold f_X12_returns
  rw [ps_ok R hj, bt_l, f_X8_returnsOf, nI_gi (by omega) (by omega), g_nIc (by omega), show σ 12 j = _ from p1, bd_s]
theorem q_effortSoFar {σ : gM} {e : Nat → Int32} {a : Nat → Nat} (R : nowR σ e a) : f_X12_effortSoFar σ = some (e 38) := by
  unfold f_X12_effortSoFar f_X11_effortOfAll
  rw [bd_s, show σ 16 2 = _ from R.1.2.2.2.2.2.2.2.1]
theorem q_glovesUsedUp {σ : gM} {e : Nat → Int32} {a : Nat → Nat} (R : nowR σ e a) : f_X12_glovesUsedUp σ = some (e 39) := by
  unfold f_X12_glovesUsedUp f_X6_goneCount
  rw [bd_s, show σ 13 3 = _ from R.1.2.2.2.2.2.1]
theorem q_parcelCount {σ : gM} {e : Nat → Int32} {a : Nat → Nat} (R : nowR σ e a) : f_X12_parcelCount σ = some (nI (a 36)) := by
  unfold f_X12_parcelCount f_X8_size
  rw [bd_s, show σ 7 5 = _ from R.1.2.2.1]
theorem q_gloveCount {σ : gM} {e : Nat → Int32} {a : Nat → Nat} (R : nowR σ e a) : f_X12_gloveCount σ = some (nI (a 37)) := by
  unfold f_X12_gloveCount f_X6_size
  rw [bd_s, show σ 13 2 = _ from R.1.2.2.2.2.1]
theorem gs_ok {σ : gM} {e : Nat → Int32} {a : Nat → Nat} (R : nowR σ e a) {j : Nat} (h : j < a 37) : f_X12_requireIndex σ (nI j) (σ 13 2) = some (.inl ()) := by
  have h1 : σ 13 2 = nI (a 37) := R.1.2.2.2.2.1
  have hN : a 37 ≤ 8 := R.2.2.2.1
  rw [h1, rq_ok h (by omega)]
theorem ss_no {σ : gM} {x : Int32} (h : ¬ vp_in x 3) : f_X12_requireIndex σ x 3 = some (.inr 0) := rq_no (N := 3) h (by omega)
theorem ss_ok {σ : gM} {j : Nat} (h : j < 3) : f_X12_requireIndex σ (nI j) 3 = some (.inl ()) := rq_ok (N := 3) h (by omega)
theorem q_grade {σ : gM} {e : Nat → Int32} {a : Nat → Nat} (R : nowR σ e a) {j : Nat} (hj : j < a 37) : f_X12_grade σ (nI j) = some (.inl (nI (a (112 + j)))) := by
  have hN : a 37 ≤ 8 := R.2.2.2.1
  obtain ⟨p1, -⟩ := R.1.2.2.2.2.2.2.1 j hj
  unfold f_X12_grade f_X6_size
  rw [bd_s, gs_ok R hj, bt_l, f_X6_gradeOf, nI_gi (by omega) (by omega), g_nIc (by omega), show σ 14 j = _ from p1, bd_s]
theorem q_usesLeft {σ : gM} {e : Nat → Int32} {a : Nat → Nat} (R : nowR σ e a) {j : Nat} (hj : j < a 37) : f_X12_usesLeft σ (nI j) = some (.inl (nI (3 - a (120 + j)))) := by
  have hN : a 37 ≤ 8 := R.2.2.2.1
  obtain ⟨-, p1⟩ := R.1.2.2.2.2.2.2.1 j hj
  unfold f_X12_usesLeft f_X6_size
  rw [bd_s, gs_ok R hj, bt_l, f_X6_usesLeftOf, nI_gi (by omega) (by omega), g_nIc (by omega), show σ 15 j = _ from p1, bd_s]
theorem q_place {σ : gM} {e : Nat → Int32} {a : Nat → Nat} (R : nowR σ e a) {j : Nat} (hj : j < 3) : f_X12_place σ (nI j) = some (.inl (nI (a (128 + j)))) := by
  obtain ⟨p1, -⟩ := R.1.2.2.2.2.2.2.2.2 j hj
  unfold f_X12_place
  rw [ss_ok hj, bt_l, f_X11_placeOf, nI_gi (by omega) (by omega), g_nIc (by omega), show σ 17 j = _ from p1, bd_s]
theorem q_capacity {σ : gM} {e : Nat → Int32} {a : Nat → Nat} (R : nowR σ e a) {j : Nat} (hj : j < 3) : f_X12_capacity σ (nI j) = some (.inl (nI (a (131 + j)))) := by
  obtain ⟨-, p1⟩ := R.1.2.2.2.2.2.2.2.2 j hj
  unfold f_X12_capacity
  rw [ss_ok hj, bt_l, f_X11_capacityOf, nI_gi (by omega) (by omega), g_nIc (by omega), show σ 18 j = _ from p1, bd_s]
theorem q_load {σ : gM} {e : Nat → Int32} {a : Nat → Nat} (R : nowR σ e a) {j : Nat} (hj : j < 3) : f_X12_load σ (nI j) = some (.inl (nI (loadN a j))) := by
  unfold f_X12_load
  rw [ss_ok hj, bt_l, e_weightAt R (by omega), bd_s]
