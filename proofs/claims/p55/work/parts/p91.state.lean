/-! THE LAW: the state as a number -/
def itV (g : Nat → Int32 → Int32) : Nat → Nat → Int32 → Int32
  | _, 0, v => v
  | i, k + 1, v => itV g (i + 1) k (g i v)
theorem loop_it {β : Type} {F : Nat → Int32 → Int32 → Option β} {g : Nat → Int32 → Int32} {N : Nat} {fin : Int32 → β} (hs : ∀ n i v, i < N → F (n + 1) v (nI i) = F n (g i v) (nI (i + 1))) (he : ∀ n v, F (n + 1) v (nI N) = some (fin v)) : ∀ (k i n : Nat) (v : Int32), i + k = N → k < n → F n v (nI i) = some (fin (itV g i k v)) := by
  intro k
  induction k with
  | zero =>
    intro i n v hi hn
    obtain ⟨m, rfl⟩ : ∃ m, n = m + 1 := ⟨n - 1, by omega⟩
    rw [show i = N by omega, he]; rfl
  | succ k ih =>
    intro i n v hi hn
    obtain ⟨m, rfl⟩ : ∃ m, n = m + 1 := ⟨n - 1, by omega⟩
    rw [hs m i v (by omega), ih (i + 1) m (g i v) (by omega) (by omega)]; rfl
def rdV (a : Nat → Nat) (k o : Nat) : Int32 := if a (6 * k + o) = 0 then 0 else nI (a (6 * k + o))
def st1 (a : Nat → Nat) (k : Nat) (v : Int32) : Int32 := itV (fun o v => 31 * v + rdV a k o) 0 k v
def st2 (e : Nat → Int32) (a : Nat → Nat) (p : Nat) (v : Int32) : Int32 := 31 * (31 * (31 * (31 * (31 * v + nI (a (40 + p))) + nI (a (52 + p))) + nI (a (64 + p))) + stL (a (76 + p))) + 7 * (if a (76 + p) = 1 then nI (a (88 + p)) else -1) + e (100 + p)
def st3 (a : Nat → Nat) (g : Nat) (v : Int32) : Int32 := 31 * (31 * v + nI (a (112 + g))) + nI (3 - a (120 + g))
def st4 (a : Nat → Nat) (k : Nat) (v : Int32) : Int32 := 31 * (31 * v + nI (a (128 + k))) + nI (a (131 + k))
def stV (e : Nat → Int32) (a : Nat → Nat) : Int32 := 31 * itV (st4 a) 0 3 (itV (st3 a) 0 (a 37) (itV (st2 e a) 0 (a 36) (itV (st1 a) 0 6 (31 * (31 * e 38 + e 39) + nI (a 36))))) + nI (a 37)
theorem l_road {σ : gM} {e : Nat → Int32} {a : Nat → Nat} (R : nowR σ e a) {k o : Nat} (hk : k < 6) (ho : o < 6) : f_L_road σ (nI k) (nI o) = some (rdV a k o) := by
  have hR := rds_of R.1 R.2.2
  have h20 := hR.2.1 k o hk ho
  unfold f_L_road f_X12_roadLength f_X12_requirePlaces
  rw [ls_ok hk, bt_l, ls_ok ho, bt_l, bt_l, r_length hR hk ho, bd_s]
  unfold rdV
  by_cases h : a (6 * k + o) = 0
  · rw [if_pos h, if_pos h, pr_no, bt_r, bt_r, if_pos rfl]
  · rw [if_neg h, if_neg h, pr_ok (nI_ge0 (by omega)), bt_l, bt_l]
theorem l_sackOf {σ : gM} {e : Nat → Int32} {a : Nat → Nat} (R : nowR σ e a) {p : Nat} (hp : p < a 36) : f_L_sackOf σ (nI p) = some (if a (76 + p) = 1 then nI (a (88 + p)) else -1) := by
  have q := (R.2.2.2.2.2.2.1 p hp).2.2.2.2.1
  unfold f_L_sackOf
  rw [q_state R hp, btn_l]
  by_cases h : a (76 + p) = 1
  · rw [h, if_pos (show stL 1 = 115 from rfl), q_sackOf R hp h, btn_l, if_pos rfl]
  · rw [if_neg h, if_neg]
    rcases (show a (76 + p) = 0 ∨ a (76 + p) = 2 by omega) with h2 | h2 <;> rw [h2] <;> decide
theorem l_state {σ : gM} {e : Nat → Int32} {a : Nat → Nat} (R : nowR σ e a) : f_L_state σ = some (stV e a) := by
  have h36 : a 36 ≤ 12 := R.2.2.1
  have h37 : a 37 ≤ 8 := R.2.2.2.1
  have e1 : ∀ v, f_L_state_L23 σ 14 v 0 = some (itV (st1 a) 0 6 v) := fun v => by
    refine loop_it (F := fun n v i => f_L_state_L23 σ n v i) (g := st1 a) (N := 6) (fin := fun v => v) (fun n i v hi => ?_) (fun n v => ?_) 6 0 14 v (by omega) (by omega)
    · show f_L_state_L23 σ (n + 1) v (nI i) = f_L_state_L23 σ n (st1 a i v) (nI (i + 1))
      have e2 : f_L_state_L31 (nI i) σ 14 v 0 = some (st1 a i v) := by
        refine loop_it (F := fun n v o => f_L_state_L31 (nI i) σ n v o) (g := fun o v => 31 * v + rdV a i o) (N := i) (fin := fun v => v) (fun n o v ho => ?_) (fun n v => ?_) i 0 14 v (by omega) (by omega)
        · show f_L_state_L31 (nI i) σ (n + 1) v (nI o) = f_L_state_L31 (nI i) σ n (31 * v + rdV a i o) (nI (o + 1))
          rw [f_L_state_L31, if_neg (by rw [nI_leq (by omega) (by omega)]; omega), l_road R (by omega) (by omega), bd_s, nm_s, nm_s, nI_s (by omega)]
        · show f_L_state_L31 (nI i) σ (n + 1) v (nI i) = _
          rw [f_L_state_L31, if_pos (by rw [nI_leq (by omega) (by omega)]; omega)]
      rw [f_L_state_L23, if_neg (by rw [show (6 : Int32) = nI 6 from rfl, nI_leq (by omega) (by omega)]; omega), e2, bd_s, nm_s, nI_s (by omega)]
    · show f_L_state_L23 σ (n + 1) v (nI 6) = _
      rw [f_L_state_L23, if_pos (by decide)]
  have e2 : ∀ v, f_L_state_L62 σ 14 v 0 = some (itV (st2 e a) 0 (a 36) v) := fun v => by
    refine loop_it (F := fun n v i => f_L_state_L62 σ n v i) (g := st2 e a) (N := a 36) (fin := fun v => v) (fun n i v hi => ?_) (fun n v => ?_) (a 36) 0 14 v (by omega) (by omega)
    · show f_L_state_L62 σ (n + 1) v (nI i) = f_L_state_L62 σ n (st2 e a i v) (nI (i + 1))
      rw [f_L_state_L62, q_parcelCount R, bd_s, if_neg (by rw [nI_leq (by omega) (by omega)]; omega), q_weight R hi, btn_l, q_hazard R hi, btn_l, q_destination R hi, btn_l, q_state R hi, btn_l, l_sackOf R hi, bd_s, q_returns R hi, btn_l, nm_s, nm_s, nI_s (by omega)]; rfl
    · show f_L_state_L62 σ (n + 1) v (nI (a 36)) = _
      rw [f_L_state_L62, q_parcelCount R, bd_s, if_pos (by rw [nI_leq (by omega) (by omega)]; omega)]
  have e3 : ∀ v, f_L_state_L134 σ 14 v 0 = some (itV (st3 a) 0 (a 37) v) := fun v => by
    refine loop_it (F := fun n v i => f_L_state_L134 σ n v i) (g := st3 a) (N := a 37) (fin := fun v => v) (fun n i v hi => ?_) (fun n v => ?_) (a 37) 0 14 v (by omega) (by omega)
    · show f_L_state_L134 σ (n + 1) v (nI i) = f_L_state_L134 σ n (st3 a i v) (nI (i + 1))
      rw [f_L_state_L134, q_gloveCount R, bd_s, if_neg (by rw [nI_leq (by omega) (by omega)]; omega), q_grade R hi, btn_l, q_usesLeft R hi, btn_l, nm_s, nm_s, nI_s (by omega)]; rfl
    · show f_L_state_L134 σ (n + 1) v (nI (a 37)) = _
      rw [f_L_state_L134, q_gloveCount R, bd_s, if_pos (by rw [nI_leq (by omega) (by omega)]; omega)]
  have e4 : ∀ v, f_L_state_L170 σ 14 v 0 = some (itV (st4 a) 0 3 v) := fun v => by
    refine loop_it (F := fun n v i => f_L_state_L170 σ n v i) (g := st4 a) (N := 3) (fin := fun v => v) (fun n i v hi => ?_) (fun n v => ?_) 3 0 14 v (by omega) (by omega)
    · show f_L_state_L170 σ (n + 1) v (nI i) = f_L_state_L170 σ n (st4 a i v) (nI (i + 1))
      rw [f_L_state_L170, if_neg (by rw [show (3 : Int32) = nI 3 from rfl, nI_leq (by omega) (by omega)]; omega), q_place R hi, btn_l, q_capacity R hi, btn_l, nm_s, nm_s, nI_s (by omega)]; rfl
    · show f_L_state_L170 σ (n + 1) v (nI 3) = _
      rw [f_L_state_L170, if_pos (by decide)]
  unfold f_L_state
  rw [q_effortSoFar R, bd_s, q_glovesUsedUp R, bd_s, q_parcelCount R, bd_s, nm_s, e1, bd_s, e2, bd_s, e3, bd_s, e4, bd_s, q_gloveCount R, bd_s]; rfl
