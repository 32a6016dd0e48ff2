/-! THE LAW: the depot that is built -/
theorem and_n (x : Int32) {m : Nat} (hm : m ≤ 4096) : ∃ n, n ≤ m ∧ x &&& nI m = nI n := by
  refine ⟨(x &&& nI m).toBitVec.toNat, ?_, ?_⟩
  · rw [Int32.toBitVec_and, BitVec.toNat_and]
    have e : (nI m).toBitVec.toNat = m := by
      show (BitVec.ofInt 32 (m : Int)).toNat = m
      rw [BitVec.ofInt_natCast, BitVec.toNat_ofNat]
      exact Nat.mod_eq_of_lt (by omega)
    rw [e]
    exact Nat.and_le_right
  · apply Int32.toBitVec_inj.mp
    show _ = BitVec.ofInt 32 (((x &&& nI m).toBitVec.toNat : Nat) : Int)
    rw [BitVec.ofInt_natCast]
    apply BitVec.eq_of_toNat_eq
    rw [BitVec.toNat_ofNat]
    exact (Nat.mod_eq_of_lt (BitVec.isLt _)).symm
def actM (X : Option ((Int32 × gM) ⊕ (Nat × gM))) : Option (Int32 × gM) := bt2 X (fun r τ => some (r, τ)) (fun n τ => if n = 0 then some (-1, τ) else if n = 1 then some (-2, τ) else if n = 2 then some (-3, τ) else if n = 3 then some (-4, τ) else if n = 4 then some (-5, τ) else none)
theorem actM_l {v : Int32} {K : gM} : actM (some (.inl (v, K))) = some (v, K) := rfl
theorem actM_r {n : Nat} {K : gM} (h : n ≤ 4) : actM (some (.inr (n, K))) = some (-1 - nI n, K) := by
  rcases (show n = 0 ∨ n = 1 ∨ n = 2 ∨ n = 3 ∨ n = 4 by omega) with rfl | rfl | rfl | rfl | rfl <;> rfl
theorem act_0 (σ : gM) (x y z : Int32) : f_L_act σ 0 x y z = actM (fD (fun τ => f_X3_joinPlaces τ x y z) σ) := by
  unfold f_L_act
  rw [if_pos rfl]; rfl
theorem act_1 (σ : gM) (x y z : Int32) : f_L_act σ 1 x y z = actM (fD (fun τ => f_X3_addParcel τ x y z) σ) := by
  unfold f_L_act
  rw [if_neg (by decide), if_pos rfl]; rfl
theorem act_2 (σ : gM) (x y z : Int32) : f_L_act σ 2 x y z = actM (fD (fun τ => f_X3_addGlove τ x) σ) := by
  unfold f_L_act
  rw [if_neg (by decide), if_neg (by decide), if_pos rfl]; rfl
theorem act_3 (σ : gM) (x y z : Int32) : f_L_act σ 3 x y z = actM (fD (fun τ => f_X3_changeCapacity τ x y) σ) := by
  unfold f_L_act
  rw [if_neg (by decide), if_neg (by decide), if_neg (by decide), if_pos rfl]; rfl
theorem act_4 (σ : gM) (x y z : Int32) : f_L_act σ 4 x y z = actM (fD (fun τ => f_X3_putIn τ x y) σ) := by
  unfold f_L_act
  rw [if_neg (by decide), if_neg (by decide), if_neg (by decide), if_neg (by decide), if_pos rfl]; rfl
theorem act_5 (σ : gM) (x y z : Int32) : f_L_act σ 5 x y z = actM (fD (fun τ => f_X3_pullOut τ x) σ) := by
  unfold f_L_act
  rw [if_neg (by decide), if_neg (by decide), if_neg (by decide), if_neg (by decide), if_neg (by decide), if_pos rfl]; rfl
theorem act_6 (σ : gM) (x y z : Int32) : f_L_act σ 6 x y z = actM (fD (fun τ => f_X3_bring τ x y) σ) := by
  unfold f_L_act
  rw [if_neg (by decide), if_neg (by decide), if_neg (by decide), if_neg (by decide), if_neg (by decide), if_neg (by decide), if_pos rfl]; rfl
theorem act_7 (σ : gM) (x y z : Int32) : f_L_act σ 7 x y z = actM (fD (fun τ => f_X3_takeBack τ x) σ) := by
  unfold f_L_act
  rw [if_neg (by decide), if_neg (by decide), if_neg (by decide), if_neg (by decide), if_neg (by decide), if_neg (by decide), if_neg (by decide), if_pos rfl]; rfl
def bInv (σ : gM) : Prop := ∃ (e : Nat → Int32) (a : Nat → Nat) (c nx : Nat), nowR σ e a ∧ hisD σ c nx ∧ σ 204 2 = 0 ∧ 0 < a 1 ∧ rcB a 0 (a 128)
theorem rc_mono {a a' : Nat → Nat} (h : ∀ j, j < 36 → 0 < a j → 0 < a' j) {s v : Nat} (r : rcB a s v) : rcB a' s v := fun P p0 ps => r P p0 (fun u w hu hw hp => ps u w hu hw (h _ (by omega) hp))
theorem rc_tr {a : Nat → Nat} {s u v : Nat} (r : rcB a s u) (k : rcB a u v) : rcB a s v := fun P p0 ps => k P (r P p0 ps) ps
theorem b_act {D : gM → Option (Int32 × gM)} (hD : chgD D) {σ : gM} (I : bInv σ) : ∃ (v : Int32) (K : gM), actM (fD D σ) = some (v, K) ∧ bInv K := by
  obtain ⟨e, a, c, nx, R, Hh, h2, h1, hr⟩ := I
  have hx := Hh.2.1
  rcases hD e a R.2.2 with ⟨v, e', a', hv, d1, d2, d3, d4⟩ | ⟨n, hn, d1⟩
  · obtain ⟨K, k1, k2, k3, k4, k5⟩ := chg_ok R Hh hv d1 d2
    refine ⟨v, K, by rw [k1, actM_l], e', a', _, _, k2, k3, by rw [k5 204 (by omega) (by omega) (by omega)]; exact h2, d3 1 (by omega) h1, ?_⟩
    have r2 := rc_mono d3 hr
    rcases d4 with d4 | d4
    · rw [d4]; exact r2
    · exact rc_tr r2 (rc_mono d3 d4)
  · obtain ⟨K, k1, k2, k3⟩ := chg_no R Hh hn d1
    refine ⟨_, K, by rw [k1, actM_r hn], e, a, c, nx, k2, ⟨Hh.1, Hh.2.1, ?_, ?_⟩, by rw [k3 204 (by omega) (by omega) (by omega) (by omega)]; exact h2, h1, hr⟩
    · rw [k3 199 (by omega) (by omega) (by omega) (by omega)]; exact Hh.2.2.1
    · rw [k3 199 (by omega) (by omega) (by omega) (by omega)]; exact Hh.2.2.2
theorem b_0 {σ : gM} (I : bInv σ) (x y z : Int32) : ∃ (v : Int32) (K : gM), f_L_act σ 0 x y z = some (v, K) ∧ bInv K := by rw [act_0]; exact b_act (rd_chg x y z) I
theorem b_1 {σ : gM} (I : bInv σ) (x y z : Int32) : ∃ (v : Int32) (K : gM), f_L_act σ 1 x y z = some (v, K) ∧ bInv K := by rw [act_1]; exact b_act (ac_chg x y z) I
theorem b_2 {σ : gM} (I : bInv σ) (x y z : Int32) : ∃ (v : Int32) (K : gM), f_L_act σ 2 x y z = some (v, K) ∧ bInv K := by rw [act_2]; exact b_act (by_chg x) I
theorem b_3 {σ : gM} (I : bInv σ) (x y z : Int32) : ∃ (v : Int32) (K : gM), f_L_act σ 3 x y z = some (v, K) ∧ bInv K := by rw [act_3]; exact b_act (cap_chg x y) I
theorem b_4 {σ : gM} (I : bInv σ) (x y z : Int32) : ∃ (v : Int32) (K : gM), f_L_act σ 4 x y z = some (v, K) ∧ bInv K := by rw [act_4]; exact b_act (pu_chg x y) I
theorem b_5 {σ : gM} (I : bInv σ) (x y z : Int32) : ∃ (v : Int32) (K : gM), f_L_act σ 5 x y z = some (v, K) ∧ bInv K := by rw [act_5]; exact b_act (to_chg x) I
theorem b_6 {σ : gM} (I : bInv σ) (x y z : Int32) : ∃ (v : Int32) (K : gM), f_L_act σ 6 x y z = some (v, K) ∧ bInv K := by rw [act_6]; exact b_act (cy_chg x y) I
theorem b_7 {σ : gM} (I : bInv σ) (x y z : Int32) : ∃ (v : Int32) (K : gM), f_L_act σ 7 x y z = some (v, K) ∧ bInv K := by rw [act_7]; exact b_act (cb_chg x) I
/-- a step that is left out when c doesn't hold -/
theorem b_if {c : Prop} [Decidable c] {σ : gM} {X : Option gM} (I : bInv σ) (h : ∃ K, X = some K ∧ bInv K) : ∃ K, (if c then X else some σ) = some K ∧ bInv K := by
  by_cases hc : c
  · rw [if_pos hc]; exact h
  · rw [if_neg hc]; exact ⟨σ, rfl, I⟩
theorem b_st {X : Option (Int32 × gM)} (h : ∃ (v : Int32) (K : gM), X = some (v, K) ∧ bInv K) : ∃ K, (bd2 X fun _ σ' => some σ') = some K ∧ bInv K := by
  obtain ⟨v, K, e, I⟩ := h
  exact ⟨K, by rw [e, bd2_s], I⟩
theorem at_ex {L : Nat} (hL : L ≤ 260) (xs : Nat → Int32) {i : Nat} (hi : i ≤ 13) : ∃ x : Int32, ∀ σ : gM, f_L_at σ L xs (nI i) = some x := by
  by_cases h : L ≤ i
  · exact ⟨0, fun σ => by unfold f_L_at; rw [if_pos (by rw [nI_leq (by omega) (by omega)]; exact h)]⟩
  · exact ⟨xs i, fun σ => by unfold f_L_at; rw [if_neg (by rw [nI_leq (by omega) (by omega)]; exact h), nI_gi (by omega) (by omega), g_nIc (by omega)]⟩
theorem gz_s {α : Type} {x : Int32} {A : Option α} (h : ¬ x = 0) : gz x A = A := if_neg h
theorem b_L16 {L : Nat} {xs : Nat → Int32} {p : Int32} : ∀ (k i n : Nat) (σ : gM), i + k = 5 → 1 ≤ i → k < n → bInv σ → ∃ K, f_L_build_L16 L xs p n (nI i) σ = some K ∧ bInv K := by
  intro k
  induction k with
  | zero =>
    intro i n σ hi h1 hn I
    obtain ⟨m, rfl⟩ : ∃ m, n = m + 1 := ⟨n - 1, by omega⟩
    have : i = 5 := by omega
    subst this
    exact ⟨σ, by rw [f_L_build_L16, if_pos (by decide)], I⟩
  | succ k ih =>
    intro i n σ hi h1 hn I
    obtain ⟨m, rfl⟩ : ∃ m, n = m + 1 := ⟨n - 1, by omega⟩
    rw [f_L_build_L16, if_neg (by rw [show (5 : Int32) = nI 5 from rfl, nI_leq (by omega) (by omega)]; omega), gz_s (nI_nz h1 (by omega)), nm_s]
    obtain ⟨v, K, e1, I1⟩ := b_0 I (((p >>> ((2 * nI i) &&& 31)) &&& 3) - ((p >>> ((2 * nI i) &&& 31)) &&& 3) / nI i * nI i) (nI i) (1 + ((p >>> ((3 * nI i) &&& 31)) &&& 15))
    rw [e1, bd2_s, nm_s, nI_s (by omega)]
    exact ih (i + 1) m K (by omega) (by omega) (by omega) I1
theorem b_L16a {L : Nat} {xs : Nat → Int32} {p : Int32} : ∃ K, f_L_build_L16 L xs p 6 1 σ0 = some K ∧ bInv K := by
  obtain ⟨m, hm, e3⟩ := and_n (p >>> ((2 * nI 1) &&& 31)) (m := 3) (by omega)
  obtain ⟨w, hw, e15⟩ := and_n (p >>> ((3 * nI 1) &&& 31)) (m := 15) (by omega)
  have e0 : (nI m - nI m / nI 1 * nI 1) = nI 0 := by
    rcases (show m = 0 ∨ m = 1 ∨ m = 2 ∨ m = 3 by omega) with rfl | rfl | rfl | rfl <;> decide
  have hs : f_L_build_L16 L xs p 6 (nI 1) σ0 = bd2 (f_L_act σ0 0 (nI 0) (nI 1) (nI (1 + w))) fun r7 σ8 => f_L_build_L16 L xs p 5 (nI 2) σ8 := by
    rw [f_L_build_L16, if_neg (by decide), gz_s (by decide), nm_s]
    simp only [nm_s]
    rw [show (3 : Int32) = nI 3 from rfl, show (15 : Int32) = nI 15 from rfl, e3, show (nI 3 * nI 1) = (3 : Int32) * nI 1 from rfl, e15, e0, show (1 : Int32) + nI w = nI (1 + w) from nI_al (k := 1) (by omega)]
    rfl
  rw [show (1 : Int32) = nI 1 from rfl, hs, act_0]
  have V := now_0.2.2
  obtain ⟨d1, d2⟩ := rd_ok V (i := 0) (j := 1) (w := 1 + w) (by omega) (by omega) (by omega) (by omega) (by omega) (aN0_z (by omega))
  have hro : roadsN aN0 ≤ 36 := roadsN_le aN0 6 (by omega)
  obtain ⟨K, k1, k2, k3, k4, k5⟩ := chg_ok now_0 his_0 (nI_ge0 (by omega)) d1 d2
  rw [k1, actM_l, bd2_s]
  refine b_L16 3 2 5 K (by omega) (by omega) (by omega) ⟨_, _, _, _, k2, k3, ?_, ?_, ?_⟩
  · rw [k5 204 (by omega) (by omega) (by omega)]; rfl
  · have := rdA_1 (a := aN0) (i := 0) (j := 1) (x := 1 + w)
    rw [show (1 : Nat) = 6 * 0 + 1 from rfl, this]; omega
  · rw [rdA_n (by omega) (by omega), aN0_z (by omega)]
    exact fun P p0 _ => p0
theorem b_L55 {L : Nat} {xs : Nat → Int32} {p : Int32} : ∀ (k i n : Nat) (σ : gM), i + k = 2 → k < n → bInv σ → ∃ K, f_L_build_L55 L xs p n (nI i) σ = some K ∧ bInv K := by
  intro k
  induction k with
  | zero =>
    intro i n σ hi hn I
    obtain ⟨m, rfl⟩ : ∃ m, n = m + 1 := ⟨n - 1, by omega⟩
    have : i = 2 := by omega
    subst this
    exact ⟨σ, by rw [f_L_build_L55, if_pos (by decide)], I⟩
  | succ k ih =>
    intro i n σ hi hn I
    obtain ⟨m, rfl⟩ : ∃ m, n = m + 1 := ⟨n - 1, by omega⟩
    rw [f_L_build_L55, if_neg (by rw [show (2 : Int32) = nI 2 from rfl, nI_leq (by omega) (by omega)]; omega), nm_s]
    obtain ⟨v, K, e1, I1⟩ := b_2 I (1 + (((p >>> ((16 + (2 * nI i)) &&& 31)) &&& 3) - ((p >>> ((16 + (2 * nI i)) &&& 31)) &&& 3) / 3 * 3)) 0 0
    rw [e1, bd2_s, nm_s, nI_s (by omega)]
    exact ih (i + 1) m K (by omega) (by omega) I1
theorem b_L90 {L : Nat} (hL : L ≤ 260) {xs : Nat → Int32} : ∀ (k i n : Nat) (σ : gM), i + k = 13 → k < n → bInv σ → ∃ K, f_L_build_L90 L xs n (nI i) σ = some K ∧ bInv K := by
  intro k
  induction k with
  | zero =>
    intro i n σ hi hn I
    obtain ⟨m, rfl⟩ : ∃ m, n = m + 1 := ⟨n - 1, by omega⟩
    have : i = 13 := by omega
    subst this
    exact ⟨σ, by rw [f_L_build_L90, if_pos (by decide)], I⟩
  | succ k ih =>
    intro i n σ hi hn I
    obtain ⟨m, rfl⟩ : ∃ m, n = m + 1 := ⟨n - 1, by omega⟩
    obtain ⟨x, hx⟩ := at_ex hL xs (i := i) (by omega)
    obtain ⟨pn, hp0, hp⟩ : ∃ pn : Int32, ¬ pn = 0 ∧ (bd (f_X12_parcelCount σ) fun r24 => nm (if 1 < r24 then r24 else 1) fun x25 => (some x25 : Option Int32)) = some pn := by
      obtain ⟨e, a, c, nx, R, -⟩ := I
      have h12 : a 36 ≤ 12 := R.2.2.1
      refine ⟨if 1 < nI (a 36) then nI (a 36) else 1, ?_, by rw [q_parcelCount R, bd_s, nm_s]⟩
      by_cases h : (1 : Int32) < nI (a 36)
      · rw [if_pos h]
        rw [show (1 : Int32) = nI 1 from rfl, nI_ltq (by omega) (by omega)] at h
        exact nI_nz (by omega) (by omega)
      · rw [if_neg h]; decide
    rw [f_L_build_L90, if_neg (by rw [show (13 : Int32) = nI 13 from rfl, nI_leq (by omega) (by omega)]; omega), hx, bd_s]
    obtain ⟨r24, hr24⟩ : ∃ r, f_X12_parcelCount σ = some r := by
      obtain ⟨e, a, c, nx, R, -⟩ := I
      exact ⟨_, q_parcelCount R⟩
    rw [hr24, bd_s, nm_s] at hp
    have hp2 : (if 1 < r24 then r24 else 1) = pn := Option.some.inj hp
    rw [hr24, bd_s]
    simp only [nm_s]
    rw [hp2]
    obtain ⟨v1, K1, e1, I1⟩ := b_1 I (1 + (x &&& 15)) ((x >>> ((4 : Int32) &&& 31)) &&& 3) (((x >>> ((6 : Int32) &&& 31)) &&& 7) - ((x >>> ((6 : Int32) &&& 31)) &&& 7) / 6 * 6)
    rw [e1, bd2_s]
    simp only [gz_s hp0]
    obtain ⟨K2, e2, I2⟩ := b_if (c := ((x >>> ((9 : Int32) &&& 31)) &&& 1) = 0) I1 (b_st (b_4 I1 (((x >>> ((10 : Int32) &&& 31)) &&& 15) - ((x >>> ((10 : Int32) &&& 31)) &&& 15) / pn * pn) (((x >>> ((14 : Int32) &&& 31)) &&& 3) - ((x >>> ((14 : Int32) &&& 31)) &&& 3) / 3 * 3) 0))
    rw [e2, bd_s]
    obtain ⟨r41, hr41⟩ : ∃ r, f_X12_parcelCount K2 = some r := by
      obtain ⟨e, a, c, nx, R, -⟩ := I2
      exact ⟨_, q_parcelCount R⟩
    rw [hr41, bd_s]
    obtain ⟨v3, K3, e3, I3⟩ := b_4 I2 (r41 - 1) (((x >>> ((16 : Int32) &&& 31)) &&& 3) - ((x >>> ((16 : Int32) &&& 31)) &&& 3) / 3 * 3) 0
    rw [e3, bd2_s]
    obtain ⟨K4, e4, I4⟩ := b_if (c := ((x >>> ((18 : Int32) &&& 31)) &&& 3) = 0) I3 (b_st (b_6 I3 (((x >>> ((20 : Int32) &&& 31)) &&& 3) - ((x >>> ((20 : Int32) &&& 31)) &&& 3) / 3 * 3) (((x >>> ((22 : Int32) &&& 31)) &&& 7) - ((x >>> ((22 : Int32) &&& 31)) &&& 7) / 6 * 6) 0))
    rw [e4, bd_s]
    obtain ⟨K5, e5, I5⟩ := b_if (c := ((x >>> ((18 : Int32) &&& 31)) &&& 3) = 1) I4 (b_st (b_2 I4 (1 + (((x >>> ((20 : Int32) &&& 31)) &&& 3) - ((x >>> ((20 : Int32) &&& 31)) &&& 3) / 3 * 3)) 0 0))
    rw [e5, bd_s]
    obtain ⟨K6, e6, I6⟩ := b_if (c := ((x >>> ((18 : Int32) &&& 31)) &&& 7) = 2) I5 (b_st (b_5 I5 (((x >>> ((21 : Int32) &&& 31)) &&& 15) - ((x >>> ((21 : Int32) &&& 31)) &&& 15) / pn * pn) 0 0))
    rw [e6, bd_s]
    obtain ⟨K7, e7, I7⟩ := b_if (c := ((x >>> ((18 : Int32) &&& 31)) &&& 7) = 6) I6 (b_st (b_7 I6 (((x >>> ((21 : Int32) &&& 31)) &&& 15) - ((x >>> ((21 : Int32) &&& 31)) &&& 15) / pn * pn) 0 0))
    rw [e7, bd_s]
    obtain ⟨K8, e8, I8⟩ := b_if (c := ((x >>> ((18 : Int32) &&& 31)) &&& 7) = 3) I7 (b_st (b_3 I7 (((x >>> ((21 : Int32) &&& 31)) &&& 3) - ((x >>> ((21 : Int32) &&& 31)) &&& 3) / 3 * 3) (20 + ((x >>> ((23 : Int32) &&& 31)) &&& 31)) 0))
    rw [e8, bd_s]
    obtain ⟨K9, e9, I9⟩ := b_if (c := ((x >>> ((18 : Int32) &&& 31)) &&& 7) = 7) I8 (b_st (b_0 I8 (((x >>> ((21 : Int32) &&& 31)) &&& 7) - ((x >>> ((21 : Int32) &&& 31)) &&& 7) / 6 * 6) (((x >>> ((24 : Int32) &&& 31)) &&& 7) - ((x >>> ((24 : Int32) &&& 31)) &&& 7) / 6 * 6) (1 + ((x >>> ((27 : Int32) &&& 31)) &&& 7))))
    rw [e9, bd_s, nI_s (by omega)]
    exact ih (i + 1) m K9 (by omega) (by omega) I9
theorem b_build {L : Nat} (hL : L ≤ 260) (xs : Nat → Int32) : ∃ K, f_L_build L xs = some K ∧ bInv K := by
  obtain ⟨x, hx⟩ := at_ex hL xs (i := 0) (by omega)
  obtain ⟨K1, e1, I1⟩ := b_L16a (L := L) (xs := xs) (p := x)
  obtain ⟨K2, e2, I2⟩ := b_L55 (L := L) (xs := xs) (p := x) 2 0 4 K1 (by omega) (by omega) I1
  obtain ⟨K3, e3, I3⟩ := b_L90 hL (xs := xs) 12 1 14 K2 (by omega) (by omega) I2
  refine ⟨K3, ?_, I3⟩
  unfold f_L_build
  rw [show f_L_at σ0 L xs 0 = some x from hx σ0, bd_s, e1, bd_s, show f_L_build_L55 L xs x 4 0 K1 = some K2 from e2, bd_s, show f_L_build_L90 L xs 14 1 K2 = some K3 from e3, bd_s]
