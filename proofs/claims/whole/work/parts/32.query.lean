/-! queries: what a turn may leave changed -/
def irr (i k : Nat) : Prop := i = 4 ∨ i = 5 ∨ i = 6 ∨ i = 202 ∨ i = 203 ∨ i = 221 ∨ i = 226 ∨ i = 227 ∨ (207 ≤ i ∧ i < 217) ∨ (i = 204 ∧ k ≠ 2) ∨ (i = 219 ∧ (k = 12 ∨ k = 14 ∨ k = 15))
def eqv (σ σ' : gM) : Prop := ∀ i k, ¬ irr i k → σ' i k = σ i k
theorem eqv.rf {σ : gM} : eqv σ σ := fun _ _ _ => rfl
theorem eqv.tr {σ τ υ : gM} (h : eqv σ τ) (k : eqv τ υ) : eqv σ υ := fun i j hi => (k i j hi).trans (h i j hi)
theorem mset_same (σ : gM) (i k : Nat) (x : Int32) : mset σ i k x i k = x := by simp [mset, rset, upd]
theorem mset_ne1 (σ : gM) {i j k q : Nat} (x : Int32) (h : j ≠ i) : mset σ i k x j q = σ j q := by simp [mset, rset, h]
theorem mset_ne2 (σ : gM) {i j k q : Nat} (x : Int32) (h : q ≠ k) : mset σ i k x j q = σ j q := by
  by_cases hj : j = i
  · subst hj; simp [mset, rset, upd, h]
  · exact mset_ne1 σ x hj
theorem eqv_m {σ τ : gM} (h : eqv σ τ) {i k : Nat} (hi : irr i k) (x : Int32) : eqv σ (mset τ i k x) := by
  intro j q hj
  by_cases h1 : j = i
  · by_cases h2 : q = k
    · subst h1; subst h2; exact absurd hi hj
    · rw [mset_ne2 τ x h2]; exact h j q hj
  · rw [mset_ne1 τ x h1]; exact h j q hj
theorem irr_t : irr 219 12 := by unfold irr; omega
theorem vp_ex {x : Int32} {N : Nat} (h : vp_in x N) : ∃ j, j < N ∧ x = nI j := by
  refine ⟨x.toNatClampNeg, vp_lt h, ?_⟩
  apply g_toInt_inj
  unfold vp_in at h
  have h0 : ¬ x < 0 := fun q => h (Or.inl q)
  rw [Int32.lt_iff_toInt_lt] at h0
  have h1 : (0 : Int32).toInt = 0 := by decide
  have h2 := x.toInt_lt
  have h3 : x.toNatClampNeg = x.toInt.toNat := rfl
  unfold nI
  rw [Int32.toInt_ofNat_of_lt (by omega)]
  omega
theorem ix_ok {σ : gM} {j N : Nat} (h : j < N) (hN : N ≤ 4096) : f_X12_isIndex σ (nI j) (nI N) = some 1 := by
  unfold f_X12_isIndex
  rw [if_neg (by rw [show (0 : Int32) = nI 0 from rfl, nI_ltq (by omega) (by omega)]; omega), if_neg (by rw [nI_leq hN (by omega)]; omega)]
theorem ix_no {σ : gM} {x : Int32} {N : Nat} (h : ¬ vp_in x N) (hN : N ≤ 4096) : f_X12_isIndex σ x (nI N) = some 0 := by
  unfold f_X12_isIndex
  by_cases h0 : x < 0
  · rw [if_pos h0]
  · rw [if_neg h0, if_pos]
    unfold vp_in at h
    have h1 : N ≤ x.toNatClampNeg := by
      rcases Classical.not_not.mp h with q | q
      · exact absurd q h0
      · exact q
    rw [Int32.le_iff_toInt_le, g_nIt hN]
    have h3 : x.toNatClampNeg = x.toInt.toNat := rfl
    have h4 : ¬ x.toInt < 0 := fun q => h0 (by rw [Int32.lt_iff_toInt_lt]; exact q)
    omega
theorem in_ok {σ : gM} {j N : Nat} (h : j < N) (hN : N ≤ 4096) : f_X13_in σ (nI j) 0 (nI N - 1) = some 1 := by
  unfold f_X13_in
  have e := g_nIsub (t := N) (j := 1) hN (by decide)
  rw [if_neg (by rw [show (0 : Int32) = nI 0 from rfl, nI_ltq (by omega) (by omega)]; omega), if_neg]
  rw [Int32.lt_iff_toInt_lt, g_nIt (by omega), show (nI N - 1 : Int32).toInt = _ from e]
  omega
theorem in_no {σ : gM} {x : Int32} {N : Nat} (h : ¬ vp_in x N) (hN : N ≤ 4096) : f_X13_in σ x 0 (nI N - 1) = some 0 := by
  unfold f_X13_in
  by_cases h0 : x < 0
  · rw [if_pos h0]
  · rw [if_neg h0, if_pos]
    unfold vp_in at h
    have h1 : N ≤ x.toNatClampNeg := by
      rcases Classical.not_not.mp h with q | q
      · exact absurd q h0
      · exact q
    have e := g_nIsub (t := N) (j := 1) hN (by decide)
    rw [Int32.lt_iff_toInt_lt, show (nI N - 1 : Int32).toInt = _ from e]
    have h3 : x.toNatClampNeg = x.toInt.toNat := rfl
    have h4 : ¬ x.toInt < 0 := fun q => h0 (by rw [Int32.lt_iff_toInt_lt]; exact q)
    omega
theorem rq_ok {σ : gM} {j N : Nat} (h : j < N) (hN : N ≤ 4096) : f_X12_requireIndex σ (nI j) (nI N) = some (.inl ()) := by
  unfold f_X12_requireIndex
  rw [ix_ok h hN]; rfl
theorem rq_no {σ : gM} {x : Int32} {N : Nat} (h : ¬ vp_in x N) (hN : N ≤ 4096) : f_X12_requireIndex σ x (nI N) = some (.inr 0) := by
  unfold f_X12_requireIndex
  rw [ix_no h hN]; rfl
theorem gn_s {α : Type} {ty : FieldType} {x : Int32} {A : Option α} (h : vp_nar ty x = x) : gn ty x A = A := if_pos h
theorem lg_s (x : Int64) : lg_cmp x x = 0 := by
  unfold lg_cmp
  rw [if_neg (by simp), if_pos rfl]
def tOk (σ : gM) (o : Option (gM × Int64 × UInt64)) : Prop := ∃ (σ' : gM) (lo : Int64) (dd : UInt64), o = some (σ', lo, dd) ∧ eqv σ σ'
theorem ps_no {σ : gM} {a : Nat → Nat} (R : nowR σ a) {x : Int32} (h : ¬ vp_in x (a 36)) : f_X12_requireParcel σ x = some (.inr 0) ∧ f_X13_isParcel σ x = some 0 := by
  have h1 : σ 7 5 = nI (a 36) := R.1.2.2.1
  have h2 : σ 220 36 = nI (a 36) := R.2.1 36 (by omega) (by omega) (by omega) (by omega)
  have hN : a 36 ≤ 12 := R.2.2.1
  refine ⟨?_, ?_⟩
  · unfold f_X12_requireParcel f_X8_size
    rw [bd_s, h1, rq_no h (by omega)]; rfl
  · unfold f_X13_isParcel
    rw [h2, in_no h (by omega)]; rfl
theorem ps_ok {σ : gM} {a : Nat → Nat} (R : nowR σ a) {j : Nat} (h : j < a 36) : f_X12_requireParcel σ (nI j) = some (.inl ()) ∧ f_X13_isParcel σ (nI j) = some 1 := by
  have h1 : σ 7 5 = nI (a 36) := R.1.2.2.1
  have h2 : σ 220 36 = nI (a 36) := R.2.1 36 (by omega) (by omega) (by omega) (by omega)
  have hN : a 36 ≤ 12 := R.2.2.1
  refine ⟨?_, ?_⟩
  · unfold f_X12_requireParcel f_X8_size
    rw [bd_s, h1, rq_ok h (by omega)]; rfl
  · unfold f_X13_isParcel
    rw [h2, in_ok h (by omega)]; rfl
theorem pn_no {σ : gM} {a : Nat → Nat} (R : nowR σ a) {x : Int32} (h : ¬ vp_in x (a 36)) (at' : Int32) : f_X13_parcelNumber σ at' x = some (0, mset σ 219 12 1) := by
  unfold f_X13_parcelNumber
  rw [(ps_no R h).2]; rfl
theorem pn_ok {σ : gM} {a : Nat → Nat} (R : nowR σ a) {j : Nat} (h : j < a 36) {t : Nat} (ht : t + 12 ≤ 134) : f_X13_parcelNumber σ (nI t) (nI j) = some (σ 220 (t + j), mset σ 219 12 0) := by
  have hN : a 36 ≤ 12 := R.2.2.1
  unfold f_X13_parcelNumber
  rw [(ps_ok R h).2, bd_s, if_neg (by decide), nI_al (by omega), nI_gi (by omega) (by omega), g_nIc (by omega)]; rfl
theorem q_weight {σ : gM} {a : Nat → Nat} (R : nowR σ a) (lo : Int64) (dd : UInt64) (a1 a2 a3 : Int32) : tOk σ (f_T_14 σ lo dd a1 a2 a3) := by
  have hN : a 36 ≤ 12 := R.2.2.1
  unfold f_T_14 f_L_weight f_X12_weight f_X13_weight
  by_cases h : vp_in a1 (a 36)
  · obtain ⟨j, hj, rfl⟩ := vp_ex h
    obtain ⟨p1, -⟩ := R.1.2.2.2.1 j hj
    have r1 := R.2.1 (40 + j) (by omega) (by omega) (by omega) (by omega)
    refine ⟨mset σ 219 12 0, (nI (a (40 + j))).toInt64, dd, ?_, eqv_m eqv.rf irr_t _⟩
    rw [(ps_ok R hj).1, bt_l, f_X8_weightOf, nI_gi (by omega) (by omega), g_nIc (by omega), show σ 8 j = _ from p1, bd_s, bt_l, bd4_s, show f_X13_parcelNumber σ 40 (nI j) = _ from pn_ok R hj (t := 40) (by omega), bd2_s, bd2_s, r1, f_X13_thrown, mset_same, bd_s, if_pos rfl, if_pos rfl, lg_s, if_pos rfl]
  · refine ⟨mset σ 219 12 1, lo, dd, ?_, eqv_m eqv.rf irr_t _⟩
    rw [(ps_no R h).1, bt_r, bt_r, if_pos rfl, bd4_s, pn_no R h, bd2_s, bd2_s, f_X13_thrown, mset_same, bd_s, if_pos rfl, if_neg (by decide)]
theorem q_hazard {σ : gM} {a : Nat → Nat} (R : nowR σ a) (lo : Int64) (dd : UInt64) (a1 a2 a3 : Int32) : tOk σ (f_T_15 σ lo dd a1 a2 a3) := by
  have hN : a 36 ≤ 12 := R.2.2.1
  unfold f_T_15 f_L_hazard f_X12_hazard f_X13_hazard
  by_cases h : vp_in a1 (a 36)
  · obtain ⟨j, hj, rfl⟩ := vp_ex h
    obtain ⟨-, p1, -⟩ := R.1.2.2.2.1 j hj
    have r1 := R.2.1 (52 + j) (by omega) (by omega) (by omega) (by omega)
    refine ⟨mset σ 219 12 0, (nI (a (52 + j))).toInt64, dd, ?_, eqv_m eqv.rf irr_t _⟩
    rw [(ps_ok R hj).1, bt_l, f_X8_hazardOf, nI_gi (by omega) (by omega), g_nIc (by omega), show σ 9 j = _ from p1, bd_s, bt_l, bd4_s, show f_X13_parcelNumber σ 52 (nI j) = _ from pn_ok R hj (t := 52) (by omega), bd2_s, bd2_s, r1, f_X13_thrown, mset_same, bd_s, if_pos rfl, if_pos rfl, lg_s, if_pos rfl]
  · refine ⟨mset σ 219 12 1, lo, dd, ?_, eqv_m eqv.rf irr_t _⟩
    rw [(ps_no R h).1, bt_r, bt_r, if_pos rfl, bd4_s, pn_no R h, bd2_s, bd2_s, f_X13_thrown, mset_same, bd_s, if_pos rfl, if_neg (by decide)]
theorem q_destination {σ : gM} {a : Nat → Nat} (R : nowR σ a) (lo : Int64) (dd : UInt64) (a1 a2 a3 : Int32) : tOk σ (f_T_16 σ lo dd a1 a2 a3) := by
  have hN : a 36 ≤ 12 := R.2.2.1
  unfold f_T_16 f_L_destination f_X12_destination f_X13_destination
  by_cases h : vp_in a1 (a 36)
  · obtain ⟨j, hj, rfl⟩ := vp_ex h
    obtain ⟨-, -, p1, -⟩ := R.1.2.2.2.1 j hj
    have r1 := R.2.1 (64 + j) (by omega) (by omega) (by omega) (by omega)
    refine ⟨mset σ 219 12 0, (nI (a (64 + j))).toInt64, dd, ?_, eqv_m eqv.rf irr_t _⟩
    rw [(ps_ok R hj).1, bt_l, f_X8_destinationOf, nI_gi (by omega) (by omega), g_nIc (by omega), show σ 10 j = _ from p1, bd_s, bt_l, bd4_s, show f_X13_parcelNumber σ 64 (nI j) = _ from pn_ok R hj (t := 64) (by omega), bd2_s, bd2_s, r1, f_X13_thrown, mset_same, bd_s, if_pos rfl, if_pos rfl, lg_s, if_pos rfl]
  · refine ⟨mset σ 219 12 1, lo, dd, ?_, eqv_m eqv.rf irr_t _⟩
    rw [(ps_no R h).1, bt_r, bt_r, if_pos rfl, bd4_s, pn_no R h, bd2_s, bd2_s, f_X13_thrown, mset_same, bd_s, if_pos rfl, if_neg (by decide)]
theorem q_returns {σ : gM} {a : Nat → Nat} (R : nowR σ a) (lo : Int64) (dd : UInt64) (a1 a2 a3 : Int32) : tOk σ (f_T_19 σ lo dd a1 a2 a3) := by
  have hN : a 36 ≤ 12 := R.2.2.1
  unfold f_T_19 f_L_returns f_X12_returns f_X13_returns
  by_cases h : vp_in a1 (a 36)
  · obtain ⟨j, hj, rfl⟩ := vp_ex h
    obtain ⟨-, -, -, -, p1⟩ := R.1.2.2.2.1 j hj
    refine ⟨mset σ 219 12 0, (σ 220 (100 + j)).toInt64, dd, ?_, eqv_m eqv.rf irr_t _⟩
    rw [(ps_ok R hj).1, bt_l, f_X8_returnsOf, nI_gi (by omega) (by omega), g_nIc (by omega), show σ 12 j = _ from p1, bd_s, bt_l, bd4_s, show f_X13_parcelNumber σ 100 (nI j) = _ from pn_ok R hj (t := 100) (by omega), bd2_s, bd2_s, f_X13_thrown, mset_same, bd_s, if_pos rfl, if_pos rfl, lg_s, if_pos rfl]
  · refine ⟨mset σ 219 12 1, lo, dd, ?_, eqv_m eqv.rf irr_t _⟩
    rw [(ps_no R h).1, bt_r, bt_r, if_pos rfl, bd4_s, pn_no R h, bd2_s, bd2_s, f_X13_thrown, mset_same, bd_s, if_pos rfl, if_neg (by decide)]
theorem q_effortSoFar {σ : gM} {a : Nat → Nat} (R : nowR σ a) (lo : Int64) (dd : UInt64) (a1 a2 a3 : Int32) : tOk σ (f_T_36 σ lo dd a1 a2 a3) := by
  unfold f_T_36 f_X12_effortSoFar f_X13_effortSoFar f_X11_effortOfAll f_X13_done
  refine ⟨mset σ 219 12 0, lo, dd, ?_, eqv_m eqv.rf irr_t _⟩
  rw [bd_s, bd_s, nm_s, bd2_s, bd2_s, show σ 16 2 = _ from R.1.2.2.2.2.2.2.2.1, if_pos rfl]
theorem q_glovesUsedUp {σ : gM} {a : Nat → Nat} (R : nowR σ a) (lo : Int64) (dd : UInt64) (a1 a2 a3 : Int32) : tOk σ (f_T_37 σ lo dd a1 a2 a3) := by
  unfold f_T_37 f_X12_glovesUsedUp f_X13_glovesUsedUp f_X6_goneCount f_X13_done
  refine ⟨mset σ 219 12 0, lo, dd, ?_, eqv_m eqv.rf irr_t _⟩
  rw [bd_s, bd_s, nm_s, bd2_s, bd2_s, show σ 13 3 = _ from R.1.2.2.2.2.2.1, if_pos rfl]
theorem q_parcelCount {σ : gM} {a : Nat → Nat} (R : nowR σ a) (lo : Int64) (dd : UInt64) (a1 a2 a3 : Int32) : tOk σ (f_T_13 σ lo dd a1 a2 a3) := by
  unfold f_T_13 f_X12_parcelCount f_X13_parcelCount f_X8_size f_X13_done
  refine ⟨mset σ 219 12 0, lo, dd, ?_, eqv_m eqv.rf irr_t _⟩
  rw [bd_s, bd_s, nm_s, bd2_s, bd2_s, show σ 7 5 = _ from R.1.2.2.1, R.2.1 36 (by omega) (by omega) (by omega) (by omega), if_pos rfl]
theorem q_gloveCount {σ : gM} {a : Nat → Nat} (R : nowR σ a) (lo : Int64) (dd : UInt64) (a1 a2 a3 : Int32) : tOk σ (f_T_22 σ lo dd a1 a2 a3) := by
  unfold f_T_22 f_X12_gloveCount f_X13_gloveCount f_X6_size f_X13_done
  refine ⟨mset σ 219 12 0, lo, dd, ?_, eqv_m eqv.rf irr_t _⟩
  rw [bd_s, bd_s, nm_s, bd2_s, bd2_s, show σ 13 2 = _ from R.1.2.2.2.2.1, R.2.1 37 (by omega) (by omega) (by omega) (by omega), if_pos rfl]
theorem gs_no {σ : gM} {a : Nat → Nat} (R : nowR σ a) {x : Int32} (h : ¬ vp_in x (a 37)) : f_X12_requireIndex σ x (σ 13 2) = some (.inr 0) ∧ f_X13_isGlove σ x = some 0 := by
  have h1 : σ 13 2 = nI (a 37) := R.1.2.2.2.2.1
  have h2 : σ 220 37 = nI (a 37) := R.2.1 37 (by omega) (by omega) (by omega) (by omega)
  have hN : a 37 ≤ 8 := R.2.2.2.1
  refine ⟨by rw [h1, rq_no h (by omega)], ?_⟩
  unfold f_X13_isGlove
  rw [h2, in_no h (by omega)]; rfl
theorem gs_ok {σ : gM} {a : Nat → Nat} (R : nowR σ a) {j : Nat} (h : j < a 37) : f_X12_requireIndex σ (nI j) (σ 13 2) = some (.inl ()) ∧ f_X13_isGlove σ (nI j) = some 1 := by
  have h1 : σ 13 2 = nI (a 37) := R.1.2.2.2.2.1
  have h2 : σ 220 37 = nI (a 37) := R.2.1 37 (by omega) (by omega) (by omega) (by omega)
  have hN : a 37 ≤ 8 := R.2.2.2.1
  refine ⟨by rw [h1, rq_ok h (by omega)], ?_⟩
  unfold f_X13_isGlove
  rw [h2, in_ok h (by omega)]; rfl
theorem ss_no {σ : gM} {x : Int32} (h : ¬ vp_in x 3) : f_X12_requireIndex σ x 3 = some (.inr 0) ∧ f_X13_isSack σ x = some 0 := by
  refine ⟨rq_no (N := 3) h (by omega), ?_⟩
  unfold f_X13_isSack
  rw [show f_X13_in σ x 0 2 = _ from in_no (N := 3) h (by omega)]; rfl
theorem ss_ok {σ : gM} {j : Nat} (h : j < 3) : f_X12_requireIndex σ (nI j) 3 = some (.inl ()) ∧ f_X13_isSack σ (nI j) = some 1 := by
  refine ⟨rq_ok (N := 3) h (by omega), ?_⟩
  unfold f_X13_isSack
  rw [show f_X13_in σ (nI j) 0 2 = _ from in_ok (N := 3) h (by omega)]; rfl
theorem nI_sub3 {x : Nat} (h : x ≤ 2) : (3 : Int32) - nI x = nI (3 - x) := by
  have h3 : x = 0 ∨ x = 1 ∨ x = 2 := by omega
  rcases h3 with rfl | rfl | rfl <;> rfl
theorem q_grade {σ : gM} {a : Nat → Nat} (R : nowR σ a) (lo : Int64) (dd : UInt64) (a1 a2 a3 : Int32) : tOk σ (f_T_23 σ lo dd a1 a2 a3) := by
  have hN : a 37 ≤ 8 := R.2.2.2.1
  unfold f_T_23 f_L_grade f_X12_grade f_X13_grade f_X6_size
  by_cases h : vp_in a1 (a 37)
  · obtain ⟨j, hj, rfl⟩ := vp_ex h
    obtain ⟨p1, -⟩ := R.1.2.2.2.2.2.2.1 j hj
    obtain ⟨-, -, q3⟩ := R.2.2.2.2.2.2.2.2.1 j hj
    have r1 := R.2.1 (112 + j) (by omega) (by omega) (by omega) (by omega)
    refine ⟨mset σ 219 12 0, (nI (a (112 + j))).toInt64, dd, ?_, eqv_m eqv.rf irr_t _⟩
    rw [bd_s, (gs_ok R hj).1, bt_l, f_X6_gradeOf, nI_gi (by omega) (by omega), g_nIc (by omega), show σ 14 j = _ from p1, bd_s, bt_l, bd4_s, (gs_ok R hj).2, bd_s, if_neg (by decide), show (112 : Int32) + nI j = nI (112 + j) from nI_al (k := 112) (by omega), nI_gi (by omega) (by omega), g_nIc (by omega), r1, f_X13_done, nm_s, bd2_s, bd2_s, f_X13_thrown, mset_same, bd_s, if_pos rfl, if_pos rfl, lg_s, if_pos rfl]
  · refine ⟨mset σ 219 12 1, lo, dd, ?_, eqv_m eqv.rf irr_t _⟩
    rw [bd_s, (gs_no R h).1, bt_r, bt_r, if_pos rfl, bd4_s, (gs_no R h).2, bd_s, if_pos rfl, f_X13_fails, nm_s, bd2_s, bd2_s, f_X13_thrown, mset_same, bd_s, if_pos rfl, if_neg (by decide)]
theorem q_usesLeft {σ : gM} {a : Nat → Nat} (R : nowR σ a) (lo : Int64) (dd : UInt64) (a1 a2 a3 : Int32) : tOk σ (f_T_24 σ lo dd a1 a2 a3) := by
  have hN : a 37 ≤ 8 := R.2.2.2.1
  unfold f_T_24 f_L_usesLeft f_X12_usesLeft f_X13_usesLeft f_X6_size
  by_cases h : vp_in a1 (a 37)
  · obtain ⟨j, hj, rfl⟩ := vp_ex h
    obtain ⟨-, p1⟩ := R.1.2.2.2.2.2.2.1 j hj
    obtain ⟨-, -, q3⟩ := R.2.2.2.2.2.2.2.2.1 j hj
    have r1 := R.2.1 (120 + j) (by omega) (by omega) (by omega) (by omega)
    refine ⟨mset σ 219 12 0, (nI (3 - a (120 + j))).toInt64, dd, ?_, eqv_m eqv.rf irr_t _⟩
    rw [bd_s, (gs_ok R hj).1, bt_l, f_X6_usesLeftOf, nI_gi (by omega) (by omega), g_nIc (by omega), show σ 15 j = _ from p1, bd_s, bt_l, bd4_s, (gs_ok R hj).2, bd_s, if_neg (by decide), show (120 : Int32) + nI j = nI (120 + j) from nI_al (k := 120) (by omega), nI_gi (by omega) (by omega), g_nIc (by omega), r1, f_X13_done, nm_s, bd2_s, bd2_s, f_X13_thrown, mset_same, bd_s, if_pos rfl, if_pos rfl, nI_sub3 q3, lg_s, if_pos rfl]
  · refine ⟨mset σ 219 12 1, lo, dd, ?_, eqv_m eqv.rf irr_t _⟩
    rw [bd_s, (gs_no R h).1, bt_r, bt_r, if_pos rfl, bd4_s, (gs_no R h).2, bd_s, if_pos rfl, f_X13_fails, nm_s, bd2_s, bd2_s, f_X13_thrown, mset_same, bd_s, if_pos rfl, if_neg (by decide)]
theorem q_place {σ : gM} {a : Nat → Nat} (R : nowR σ a) (lo : Int64) (dd : UInt64) (a1 a2 a3 : Int32) : tOk σ (f_T_29 σ lo dd a1 a2 a3) := by
  unfold f_T_29 f_L_place f_X12_place f_X13_place f_X13_sackNumber
  by_cases h : vp_in a1 3
  · obtain ⟨j, hj, rfl⟩ := vp_ex h
    obtain ⟨p1, -⟩ := R.1.2.2.2.2.2.2.2.2 j hj
    have r1 := R.2.1 (128 + j) (by omega) (by omega) (by omega) (by omega)
    refine ⟨mset σ 219 12 0, (nI (a (128 + j))).toInt64, dd, ?_, eqv_m eqv.rf irr_t _⟩
    rw [(ss_ok hj).1, bt_l, f_X11_placeOf, nI_gi (by omega) (by omega), g_nIc (by omega), show σ 17 j = _ from p1, bd_s, bt_l, bd4_s, (ss_ok hj).2, bd_s, if_neg (by decide), show (128 : Int32) + nI j = nI (128 + j) from nI_al (k := 128) (by omega), nI_gi (by omega) (by omega), g_nIc (by omega), r1, f_X13_done, nm_s, bd2_s, bd2_s, bd2_s, f_X13_thrown, mset_same, bd_s, if_pos rfl, if_pos rfl, lg_s, if_pos rfl]
  · refine ⟨mset σ 219 12 1, lo, dd, ?_, eqv_m eqv.rf irr_t _⟩
    rw [(ss_no h).1, bt_r, bt_r, if_pos rfl, bd4_s, (ss_no h).2, bd_s, if_pos rfl, f_X13_fails, nm_s, bd2_s, bd2_s, bd2_s, f_X13_thrown, mset_same, bd_s, if_pos rfl, if_neg (by decide)]
theorem q_capacity {σ : gM} {a : Nat → Nat} (R : nowR σ a) (lo : Int64) (dd : UInt64) (a1 a2 a3 : Int32) : tOk σ (f_T_30 σ lo dd a1 a2 a3) := by
  unfold f_T_30 f_L_capacity f_X12_capacity f_X13_capacity f_X13_sackNumber
  by_cases h : vp_in a1 3
  · obtain ⟨j, hj, rfl⟩ := vp_ex h
    obtain ⟨-, p1⟩ := R.1.2.2.2.2.2.2.2.2 j hj
    have r1 := R.2.1 (131 + j) (by omega) (by omega) (by omega) (by omega)
    refine ⟨mset σ 219 12 0, (nI (a (131 + j))).toInt64, dd, ?_, eqv_m eqv.rf irr_t _⟩
    rw [(ss_ok hj).1, bt_l, f_X11_capacityOf, nI_gi (by omega) (by omega), g_nIc (by omega), show σ 18 j = _ from p1, bd_s, bt_l, bd4_s, (ss_ok hj).2, bd_s, if_neg (by decide), show (131 : Int32) + nI j = nI (131 + j) from nI_al (k := 131) (by omega), nI_gi (by omega) (by omega), g_nIc (by omega), r1, f_X13_done, nm_s, bd2_s, bd2_s, bd2_s, f_X13_thrown, mset_same, bd_s, if_pos rfl, if_pos rfl, lg_s, if_pos rfl]
  · refine ⟨mset σ 219 12 1, lo, dd, ?_, eqv_m eqv.rf irr_t _⟩
    rw [(ss_no h).1, bt_r, bt_r, if_pos rfl, bd4_s, (ss_no h).2, bd_s, if_pos rfl, f_X13_fails, nm_s, bd2_s, bd2_s, bd2_s, f_X13_thrown, mset_same, bd_s, if_pos rfl, if_neg (by decide)]
theorem q_load {σ : gM} {a : Nat → Nat} (R : nowR σ a) (lo : Int64) (dd : UInt64) (a1 a2 a3 : Int32) : tOk σ (f_T_31 σ lo dd a1 a2 a3) := by
  unfold f_T_31 f_L_load f_X12_load f_X13_load
  by_cases h : vp_in a1 3
  · obtain ⟨j, hj, rfl⟩ := vp_ex h
    refine ⟨mset σ 219 12 0, (nI (loadN a j)).toInt64, dd, ?_, eqv_m eqv.rf irr_t _⟩
    rw [(ss_ok hj).1, bt_l, e_weightAt R (by omega), bd_s, bt_l, bd4_s, (ss_ok hj).2, bd_s, if_neg (by decide), e_loadOf R (by omega), bd_s, f_X13_done, nm_s, bd2_s, bd2_s, f_X13_thrown, mset_same, bd_s, if_pos rfl, if_pos rfl, lg_s, if_pos rfl]
  · refine ⟨mset σ 219 12 1, lo, dd, ?_, eqv_m eqv.rf irr_t _⟩
    rw [(ss_no h).1, bt_r, bt_r, if_pos rfl, bd4_s, (ss_no h).2, bd_s, if_pos rfl, f_X13_fails, nm_s, bd2_s, bd2_s, f_X13_thrown, mset_same, bd_s, if_pos rfl, if_neg (by decide)]
