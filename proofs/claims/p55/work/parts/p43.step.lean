/-! the changes, each told apart from the notes that are taken of it: the depot's on its block, the reference's on its row; e holds the row's numbers without a bound (38, 39, 100 .. 111) -/
def okD (D : gM → Option (Int32 × gM)) (e : Nat → Int32) (a : Nat → Nat) (v : Int32) (e' : Nat → Int32) (a' : Nat → Nat) : Prop := ∀ τ : gM, blkR τ 0 e a → ∃ τ2 : gM, D τ = some (v, τ2) ∧ (∀ i, 19 ≤ i ∨ i = 0 → τ2 i = τ i) ∧ blkR τ2 0 e' a'
def noD (D : gM → Option (Int32 × gM)) (e : Nat → Int32) (a : Nat → Nat) (n : Nat) : Prop := ∀ τ : gM, blkR τ 0 e a → ∃ τ2 : gM, D τ = some (-2 - nI n, τ2) ∧ ∀ i, i ≠ 4 → i ≠ 5 → i ≠ 6 → τ2 i = τ i
def fD (D : gM → Option (Int32 × gM)) (σ : gM) : Option ((Int32 × gM) ⊕ (Nat × gM)) := bd (f_X7_prepare σ) fun σ2 => bd2 (D σ2) fun r4 σ5 => bt2 (f_X12_recorded σ5 r4) (fun r7 σ8 => some (.inl (r7, σ8))) (fun n9 σ8 => some (.inr (n9, σ8)))
theorem blk_e {σ : gM} {k : Nat} {r r' : Nat → Int32} {a : Nat → Nat} (h36 : a 36 ≤ 12) (hr : ∀ j, j < 134 → (j = 38 ∨ j = 39 ∨ (100 ≤ j ∧ j < 112)) → r' j = r j) (B : blkR σ k r a) : blkR σ k r' a := by
  obtain ⟨b1, b2, b3, b4, b5, b6, b7, b8, b9⟩ := B
  refine ⟨b1, b2, b3, fun p hp => ?_, b5, b6.trans (hr 39 (by omega) (by omega)).symm, b7, b8.trans (hr 38 (by omega) (by omega)).symm, b9⟩
  obtain ⟨p1, p2, p3, p4, p5⟩ := b4 p hp
  exact ⟨p1, p2, p3, p4, p5.trans (hr _ (by omega) (by omega)).symm⟩
/-- a change that is refused -/
theorem chg_no {D : gM → Option (Int32 × gM)} {σ : gM} {e : Nat → Int32} {a : Nat → Nat} {c nx n : Nat} (R : nowR σ e a) (Hh : hisD σ c nx) (hn : n ≤ 4) (hD : noD D e a n) :
    ∃ K : gM, fD D σ = some (.inr (n, K)) ∧ nowR K e a ∧ ∀ i, i ≠ 4 → i ≠ 5 → i ≠ 6 → (i < 1 + 18 * (nx + 2) ∨ 1 + 18 * (nx + 2) + 18 ≤ i) → K i = σ i := by
  obtain ⟨σ1, ep, h1, hb⟩ := e_prepare R Hh
  obtain ⟨hc, hx, g1, g2⟩ := id Hh
  have B1 : blkR σ1 0 e a := blk_congr R.2.2.1 (fun o q p1 _ _ _ => by rw [h1 _ (by omega)]) (fun _ _ => rfl) R.1
  obtain ⟨K, eD, hK⟩ := hD σ1 B1
  refine ⟨K, ?_, ⟨blk_congr R.2.2.1 (fun o q p1 p2 p3 p4 => by rw [hK _ (by omega) (by omega) (by omega)]) (fun _ _ => rfl) B1, trivial, R.2.2⟩, fun i i1 i2 i3 hi => by rw [hK i i1 i2 i3, h1 i hi]⟩
  unfold fD
  rw [ep, bd_s, eD, bd2_s, rc_no n hn]; rfl
/-- a change that is done: the ring holds the state before -/
theorem chg_ok {D : gM → Option (Int32 × gM)} {σ : gM} {e e' : Nat → Int32} {a a' : Nat → Nat} {c nx : Nat} {v : Int32} (R : nowR σ e a) (Hh : hisD σ c nx) (hv : 0 ≤ v) (hD : okD D e a v e' a') (hV : vdR e' a') :
    ∃ K : gM, fD D σ = some (.inl (v, K)) ∧ nowR K e' a' ∧ hisD K (min (c + 1) 8) ((nx + 1) % 9) ∧ blkR K (nx + 2) e a ∧ ∀ i, i ≠ 199 → (19 ≤ i ∨ i = 0) → (i < 1 + 18 * (nx + 2) ∨ 1 + 18 * (nx + 2) + 18 ≤ i) → K i = σ i := by
  obtain ⟨σ1, ep, h1, hb⟩ := e_prepare R Hh
  obtain ⟨hc, hx, g1, g2⟩ := id Hh
  have B1 : blkR σ1 0 e a := blk_congr R.2.2.1 (fun o q p1 _ _ _ => by rw [h1 _ (by omega)]) (fun _ _ => rfl) R.1
  obtain ⟨σ2, eD, h2, B2⟩ := hD σ1 B1
  have e199 : σ2 199 = σ 199 := by rw [h2 199 (by omega), h1 199 (by omega)]
  generalize hK : mset (mset σ2 199 1 (nI ((nx + 1) % 9))) 199 2 (nI (min (c + 1) 8)) = K
  have kk : ∀ i, i ≠ 199 → K i = σ2 i := fun i hi => funext fun q => by
    rw [← hK, mset_ne1 _ _ hi, mset_ne1 _ _ hi]
  refine ⟨K, ?_, ⟨blk_congr hV.1 (fun o q p1 p2 p3 p4 => by rw [kk _ (by omega)]) (fun _ _ => rfl) B2, trivial, hV⟩, ⟨by omega, by omega, ?_, ?_⟩, ?_, fun i i1 i2 hi => by rw [kk i i1, h2 i i2, h1 i hi]⟩
  · unfold fD
    rw [ep, bd_s, eD, bd2_s, rc_ok hv hc hx (by rw [e199]; exact g1) (by rw [e199]; exact g2), hK]; rfl
  · rw [← hK, mset_ne2 _ _ (by omega), mset_same]
  · rw [← hK, mset_same]
  · exact blk_congr R.2.2.1 (fun o q p1 p2 p3 p4 => by rw [kk _ (by omega), h2 _ (by omega)]) (fun _ _ => rfl) hb
/-- what can be come to along the roads -/
def rcB (a : Nat → Nat) (s v : Nat) : Prop := ∀ P : Nat → Prop, P s → (∀ u w, u < 6 → w < 6 → 0 < a (6 * u + w) → P u → P w) → P v
/-- the roads stay, and the sack 0 stays where it can be come to -/
def gP (a a' : Nat → Nat) : Prop := (∀ j, j < 36 → 0 < a j → 0 < a' j) ∧ (a' 128 = a 128 ∨ rcB a (a 128) (a' 128))
theorem gP_of {a a' : Nat → Nat} (h : ∀ j, j < 36 ∨ j = 128 → a' j = a j) : gP a a' := ⟨fun j hj hp => by rw [h j (Or.inl hj)]; exact hp, Or.inl (h 128 (Or.inr rfl))⟩
/-- a change's two ends -/
def chgD (D : gM → Option (Int32 × gM)) : Prop := ∀ (e : Nat → Int32) (a : Nat → Nat), vdR e a → (∃ (v : Int32) (e' : Nat → Int32) (a' : Nat → Nat), 0 ≤ v ∧ okD D e a v e' a' ∧ vdR e' a' ∧ gP a a') ∨ ∃ n : Nat, n ≤ 4 ∧ noD D e a n
