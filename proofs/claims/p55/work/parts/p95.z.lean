/-! THE LAW: the known depot; tools -/
def spB (a d : Nat → Nat) (s : Nat) : Bool := (decide (d s = 0) && (List.range 6).all fun u => (List.range 6).all fun v => decide (0 < a (6 * u + v) → d v ≤ d u + a (6 * u + v))) && (((List.range 6).all fun v => (decide (v = s) || decide (d v = 1000)) || (List.range 6).any fun u => decide (0 < a (6 * u + v) ∧ d v = d u + a (6 * u + v))) && (List.range 6).all fun v => decide (d v = 1000 ∨ d v ≤ 120))
theorem spB_ok {a d : Nat → Nat} {s : Nat} (h : spB a d s = true) : spR a s d := by
  unfold spB at h
  simp only [Bool.and_eq_true, Bool.or_eq_true, List.all_eq_true, List.any_eq_true, decide_eq_true_eq, List.mem_range] at h
  obtain ⟨⟨h1, h2⟩, h3, h4⟩ := h
  refine ⟨h1, fun u v hu hv hp => h2 u hu v hv hp, fun v hv => ?_, h4⟩
  rcases h3 v hv with (h | h) | ⟨u, hu, h⟩
  · exact Or.inl h
  · exact Or.inr (Or.inl h)
  · exact Or.inr (Or.inr ⟨u, hu, h⟩)
theorem sp_congr {a b d : Nat → Nat} {s : Nat} (h : ∀ j, j < 36 → a j = b j) (k : spR b s d) : spR a s d := by
  refine ⟨k.1, fun u v hu hv hp => ?_, fun v hv => ?_, k.2.2.2⟩
  · rw [h _ (by omega)] at hp ⊢; exact k.2.1 u v hu hv hp
  · rcases k.2.2.1 v hv with q | q | ⟨u, hu, q1, q2⟩
    · exact Or.inl q
    · exact Or.inr (Or.inl q)
    · exact Or.inr (Or.inr ⟨u, hu, by rw [h _ (by omega)]; exact q1, by rw [h _ (by omega)]; exact q2⟩)
def zR (r : Nat) (j : Nat) : Nat := if j = 1 ∨ j = 6 then r else if j = 8 ∨ j = 13 then 3 else if j = 2 ∨ j = 12 then 20 else 0
def zD (r s v : Nat) : Nat := if s = v then 0 else if s + v = 1 then r else if s + v = 3 ∧ s < 3 ∧ v < 3 ∧ s * v = 2 then 3 else if s + v = 2 then r + 3 else 1000
theorem zD_b : ((List.range 8).all fun r => (List.range 6).all fun s => spB (zR (r + 1)) (zD (r + 1) s) s) = true := by decide +kernel
theorem zD_ok {r s : Nat} (h1 : 1 ≤ r) (h2 : r ≤ 8) (hs : s < 6) {a : Nat → Nat} (h : ∀ j, j < 36 → a j = zR r j) : spR a s (zD r s) := by
  refine sp_congr h (spB_ok ?_)
  have := List.all_eq_true.mp zD_b (r - 1) (List.mem_range.mpr (by omega))
  have := List.all_eq_true.mp this s (List.mem_range.mpr hs)
  rw [show r - 1 + 1 = r by omega] at this
  exact this
def z0D (s v : Nat) : Nat := if s = v then 0 else 1000
theorem z0D_b : ((List.range 6).all fun s => spB (fun _ => 0) (z0D s) s) = true := by decide +kernel
theorem z0D_ok {s : Nat} (hs : s < 6) : spR aN0 s (z0D s) := by
  refine sp_congr (fun j hj => aN0_z (by omega)) (spB_ok ?_)
  exact List.all_eq_true.mp z0D_b s (List.mem_range.mpr hs)
def zInv (e : Nat → Int32) (a : Nat → Nat) (σ : gM) : Prop := ∃ c nx : Nat, nowR σ e a ∧ hisD σ c nx ∧ σ 204 2 = 0
theorem zI_f {e : Nat → Int32} {a : Nat → Nat} {σ τ : gM} (I : zInv e a σ) (h : ∀ i, i ≠ 4 → i ≠ 5 → i ≠ 6 → i ≠ 202 → i ≠ 203 → τ i = σ i) : zInv e a τ := by
  obtain ⟨c, nx, R, Hh, h2⟩ := I
  exact ⟨c, nx, now_f R (fun i i1 i2 i3 i4 => h i i1 i2 i3 (by omega) (by omega)), ⟨Hh.1, Hh.2.1, by rw [h 199 (by omega) (by omega) (by omega) (by omega) (by omega)]; exact Hh.2.2.1, by rw [h 199 (by omega) (by omega) (by omega) (by omega) (by omega)]; exact Hh.2.2.2⟩, by rw [h 204 (by omega) (by omega) (by omega) (by omega) (by omega)]; exact h2⟩
theorem zI_R {e : Nat → Int32} {a : Nat → Nat} {σ : gM} (I : zInv e a σ) : nowR σ e a := by
  obtain ⟨c, nx, R, -⟩ := I
  exact R
theorem z_ok {D : gM → Option (Int32 × gM)} {e e' : Nat → Int32} {a a' : Nat → Nat} {v : Int32} {σ : gM} (I : zInv e a σ) (hv : 0 ≤ v) (h : okD D e a v e' a' ∧ vdR e' a') : ∃ K : gM, fD D σ = some (.inl (v, K)) ∧ zInv e' a' K := by
  obtain ⟨c, nx, R, Hh, h2⟩ := I
  have hx := Hh.2.1
  obtain ⟨K, k1, k2, k3, -, k5⟩ := chg_ok R Hh hv h.1 h.2
  exact ⟨K, k1, _, _, k2, k3, by rw [k5 204 (by omega) (by omega) (by omega)]; exact h2⟩
theorem z_no {D : gM → Option (Int32 × gM)} {e : Nat → Int32} {a : Nat → Nat} {n : Nat} {σ : gM} (I : zInv e a σ) (hn : n ≤ 4) (h : noD D e a n) : ∃ K : gM, fD D σ = some (.inr (n, K)) ∧ zInv e a K := by
  obtain ⟨c, nx, R, Hh, h2⟩ := I
  have hx := Hh.2.1
  obtain ⟨K, k1, k2, k3⟩ := chg_no R Hh hn h
  exact ⟨K, k1, c, nx, k2, ⟨Hh.1, Hh.2.1, by rw [k3 199 (by omega) (by omega) (by omega) (by omega)]; exact Hh.2.2.1, by rw [k3 199 (by omega) (by omega) (by omega) (by omega)]; exact Hh.2.2.2⟩, by rw [k3 204 (by omega) (by omega) (by omega) (by omega)]; exact h2⟩
theorem z_9 {σ : gM} {e : Nat → Int32} {a : Nat → Nat} (I : xInv e a σ) : f_Z9 σ (nI (a 36)) (stV e a) = some () := by
  obtain ⟨c, nx, R, Hh, h2, hb, h6⟩ := I
  obtain ⟨K, k1, k2⟩ := d_restore hb R.2.2 h6
  unfold f_Z9
  rw [k1, btn2_l, if_pos rfl, l_state k2, bd_s, if_pos rfl]
theorem z_0 {L : Nat} (hL : L ≤ 260) {xs : Nat → Int32} {σ : gM} {r6 r9 : Int32} (h : ∀ r w : Nat, 1 ≤ r → r ≤ 8 → 2 ≤ w → w ≤ 11 → f_Z1 σ r6 r9 (nI r) (nI w) = some ()) : f_Z0 L xs σ r6 r9 = some () := by
  obtain ⟨x, hx⟩ := at_ex hL xs (i := 13) (by omega)
  obtain ⟨m, hm, e7⟩ := and_n x (m := 7) (by omega)
  obtain ⟨q, hq, e15⟩ := and_n (x >>> ((3 : Int32) &&& 31)) (m := 15) (by omega)
  have e10 : ∀ q, q ≤ 15 → nI q - nI q / 10 * 10 = nI (q % 10) := by
    intro q hq
    rcases (show q = 0 ∨ q = 1 ∨ q = 2 ∨ q = 3 ∨ q = 4 ∨ q = 5 ∨ q = 6 ∨ q = 7 ∨ q = 8 ∨ q = 9 ∨ q = 10 ∨ q = 11 ∨ q = 12 ∨ q = 13 ∨ q = 14 ∨ q = 15 by omega) with rfl | rfl | rfl | rfl | rfl | rfl | rfl | rfl | rfl | rfl | rfl | rfl | rfl | rfl | rfl | rfl <;> decide
  have hw : q % 10 < 10 := Nat.mod_lt _ (by omega)
  unfold f_Z0
  rw [show f_L_at σ L xs 13 = some x from hx σ, bd_s, nm_s, nm_s, nm_s, show x &&& 7 = nI m from e7, show (x >>> ((3 : Int32) &&& 31)) &&& 15 = nI q from e15, e10 q hq, show (1 : Int32) + nI m = nI (1 + m) from nI_al (k := 1) (by omega), show (2 : Int32) + nI (q % 10) = nI (2 + q % 10) from nI_al (k := 2) (by omega)]
  exact h (1 + m) (2 + q % 10) (by omega) (by omega) (by omega) (by omega)
