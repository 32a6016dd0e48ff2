/-! the machine's ways of counting what fits -/
def cwN (a : Nat → Nat) (n w : Nat) : Nat := sm (fun p => if a (76 + p) = 0 ∧ a (40 + p) = w then 1 else 0) n
theorem cwN_le (a : Nat → Nat) (n w : Nat) (hn : n ≤ 12) : cwN a n w ≤ 12 := Nat.le_trans (sm_le (B := 1) (fun i hi => by split <;> omega)) (by omega)
theorem nI_div {c w : Nat} (hc : c ≤ 4096) (hw : w ≤ 4096) : nI c / nI w = nI (c / w) := by
  have hle : c / w ≤ c := Nat.div_le_self c w
  apply g_toInt_inj
  rw [Int32.toInt_div, g_nIt hc, g_nIt hw, g_nIt (by omega)]
  rw [show (c : Int).tdiv (w : Int) = ((c / w : Nat) : Int) from rfl]
  generalize c / w = q at hle
  unfold Int.bmod
  dsimp only
  split <;> omega
theorem d_waitW {τ : gM} {e : Nat → Int32} {a : Nat → Nat} (B : blkR τ 0 e a) (V : vdR e a) {w : Nat} (hw : w ≤ 20) : f_X8_waitingOfWeight τ (nI w) = some (nI (cwN a (a 36) w)) := by
  have h12 : a 36 ≤ 12 := V.1
  have hn : τ 7 5 = nI (a 36) := B.2.2.1
  unfold f_X8_waitingOfWeight
  rw [show f_X8_waitingOfWeight_L4 (nI w) τ gFU 0 0 = some (nI (cwN a (a 36) w)) from
    loop_sum (F := fun n i v => f_X8_waitingOfWeight_L4 (nI w) τ n v i) (fin := fun v => v) (by omega) (by have := cwN_le a (a 36) w h12; unfold cwN at this; omega) (fun n i v hi => ?_) (fun n v => ?_)]
  · rfl
  · obtain ⟨p1, p2, p3, p4, p5⟩ := B.2.2.2.1 i hi
    obtain ⟨q1, q2, q3, q4, q5, q6⟩ := V.2.2.2.2.1 i hi
    rw [f_X8_waitingOfWeight_L4, hn]
    simp (disch := omega) only [nI_leq, if_neg, nI_gi, g_nIc, nm_s, nI_s]
    rw [show τ 11 i = _ from p4, show τ 8 i = _ from p1]
    simp only [wh_in q6]
    simp (disch := omega) only [nI_inj]
    by_cases c1 : a (76 + i) = 0
    · by_cases c2 : a (40 + i) = w
      · rw [if_pos c1, if_pos c2, if_pos ⟨c1, c2⟩]; rfl
      · rw [if_pos c1, if_neg c2, if_neg (fun q => c2 q.2), nI_add0]
    · rw [if_neg c1, if_neg (fun q => c1 q.1), nI_add0]
  · rw [f_X8_waitingOfWeight_L4, hn, if_pos (by rw [nI_leq (by omega) (by omega)]; omega)]
theorem fd_le {xs : List Nat} : ∀ {c n : Nat}, (∀ y, y ∈ xs → 1 ≤ y) → (fdL xs c n).1 ≤ c ∧ (fdL xs c n).2 ≤ n + c := by
  induction xs with
  | nil => intro c n _; exact ⟨Nat.le_refl _, Nat.le_add_right _ _⟩
  | cons x xs ih =>
    intro c n h
    have hx := h x List.mem_cons_self
    have ht : ∀ y, y ∈ xs → 1 ≤ y := fun y hy => h y (List.mem_cons_of_mem _ hy)
    show (if x ≤ c then fdL xs (c - x) (n + 1) else fdL xs c n).1 ≤ c ∧ (if x ≤ c then fdL xs (c - x) (n + 1) else fdL xs c n).2 ≤ n + c
    by_cases c1 : x ≤ c
    · rw [if_pos c1]
      have := ih (c := c - x) (n := n + 1) ht
      omega
    · rw [if_neg c1]
      exact ih ht
/-- room and count when the weights up to k are in -/
def fdP (a : Nat → Nat) (c k : Nat) : Nat × Nat := fdL (Pl (cwN a (a 36)) k) c 0
theorem fdP_le {a : Nat → Nat} {c k : Nat} : (fdP a c k).1 ≤ c ∧ (fdP a c k).2 ≤ c := by
  have := fd_le (xs := Pl (cwN a (a 36)) k) (c := c) (n := 0) (fun y hy => (Pl_mem hy).1)
  unfold fdP
  omega
theorem fdP_s {a : Nat → Nat} {c k : Nat} : fdP a c (k + 1) = ((fdP a c k).1 - min ((fdP a c k).1 / (k + 1)) (cwN a (a 36) (k + 1)) * (k + 1), (fdP a c k).2 + min ((fdP a c k).1 / (k + 1)) (cwN a (a 36) (k + 1))) := by
  show fdL (Pl (cwN a (a 36)) k ++ List.replicate (cwN a (a 36) (k + 1)) (k + 1)) c 0 = _
  rw [fd_app, fd_rep (by omega)]; rfl
/-- the depot's number -/
def fitN (a : Nat → Nat) (c : Nat) : Nat := gsL (Pl (cwN a (a 36)) 20) c
theorem fdP_k {a : Nat → Nat} {c k : Nat} : (fdP a c k).2 = gsL (Pl (cwN a (a 36)) k) c := by
  have h := fd_gs (xs := Pl (cwN a (a 36)) k) (c := c) (n := 0) (Pl_srt k)
  rw [Nat.zero_add] at h
  exact h
theorem fdP_20 {a : Nat → Nat} {c : Nat} : (fdP a c 20).2 = fitN a c := fdP_k
theorem fd_one {w c m : Nat} : fdL [w] c m = if w ≤ c then (c - w, m + 1) else (c, m) := rfl
theorem fitN_le {a : Nat → Nat} {c : Nat} : fitN a c ≤ c := gs_le (fun y hy => (Pl_mem hy).1)
theorem d_room {τ : gM} {e : Nat → Int32} {a : Nat → Nat} (B : blkR τ 0 e a) (V : vdR e a) {k : Nat} (hk : k < 3) : f_X3_roomIn τ (nI k) = some (nI (a (131 + k) - loadN a k)) := by
  obtain ⟨v1, v2, v3, v4⟩ := V.2.2.2.2.2.2.2 k hk
  unfold f_X3_roomIn f_X11_capacityOf
  rw [nI_gi (by omega) (by omega), g_nIc (by omega), show τ 18 k = _ from (B.2.2.2.2.2.2.2.2 k hk).2, bd_s, d_weightAt B V (by omega), bd_s, nI_subn v4 (by omega)]
theorem d_fitG {τ : gM} {e : Nat → Int32} {a : Nat → Nat} (B : blkR τ 0 e a) (V : vdR e a) {k : Nat} (hk : k < 3) : f_X4_fittingGreedily τ (nI k) = some (nI (fitN a (a (131 + k) - loadN a k))) := by
  have h12 : a 36 ≤ 12 := V.1
  obtain ⟨v1, v2, v3, v4⟩ := V.2.2.2.2.2.2.2 k hk
  unfold f_X4_fittingGreedily
  rw [d_room B V hk, bd_s]
  generalize hc : a (131 + k) - loadN a k = c
  have hc60 : c ≤ 60 := by omega
  have key : ∀ j i n, i + j = 20 → j < n → f_X4_fittingGreedily_L12 τ n (nI (fdP a c i).1) (nI (fdP a c i).2) (nI (i + 1)) = some (nI (fdP a c 20).2) := by
    intro j
    induction j with
    | zero =>
      intro i n hi hn
      obtain ⟨m, rfl⟩ : ∃ m, n = m + 1 := ⟨n - 1, by omega⟩
      have : i = 20 := by omega
      subst this
      rw [f_X4_fittingGreedily_L12, if_pos (by decide)]
    | succ j ih =>
      intro i n hi hn
      obtain ⟨m, rfl⟩ : ∃ m, n = m + 1 := ⟨n - 1, by omega⟩
      have b := fdP_le (a := a) (c := c) (k := i)
      have bw := cwN_le a (a 36) (i + 1) h12
      have hd : (fdP a c i).1 / (i + 1) ≤ (fdP a c i).1 := Nat.div_le_self _ _
      have hm : (fdP a c i).1 / (i + 1) * (i + 1) ≤ (fdP a c i).1 := Nat.div_mul_le_self _ _
      have hs := fdP_s (a := a) (c := c) (k := i)
      have ht : min ((fdP a c i).1 / (i + 1)) (cwN a (a 36) (i + 1)) * (i + 1) ≤ (fdP a c i).1 := Nat.le_trans (Nat.mul_le_mul_right _ (Nat.min_le_left _ _)) hm
      have ht2 : min ((fdP a c i).1 / (i + 1)) (cwN a (a 36) (i + 1)) ≤ 12 := Nat.le_trans (Nat.min_le_right _ _) bw
      rw [← ih (i + 1) m (by omega) (by omega), hs]
      rw [f_X4_fittingGreedily_L12, if_neg (by rw [show (20 : Int32) = nI 20 from rfl, nI_ltq (by omega) (by omega)]; omega), d_waitW B V (by omega), bd_s, gz, if_neg (nI_nz (by omega) (by omega)), nI_div (by omega) (by omega)]
      have hmin : (if nI ((fdP a c i).1 / (i + 1)) < nI (cwN a (a 36) (i + 1)) then nI ((fdP a c i).1 / (i + 1)) else nI (cwN a (a 36) (i + 1))) = nI (min ((fdP a c i).1 / (i + 1)) (cwN a (a 36) (i + 1))) := by
        simp (disch := omega) only [nI_ltq]
        by_cases q : (fdP a c i).1 / (i + 1) < cwN a (a 36) (i + 1)
        · rw [if_pos q, Nat.min_eq_left (by omega)]
        · rw [if_neg q, Nat.min_eq_right (by omega)]
      rw [hmin, nm_s, nm_s, nm_s, nm_s, nI_al (by omega), nI_mul (by omega) (by omega) (by omega), nI_subn ht (by omega), nI_s (by omega)]
  have := key 20 0 gFU (by omega) (by rw [gFU_eq]; omega)
  rw [show f_X4_fittingGreedily_L12 τ gFU (nI c) 0 1 = _ from this, bd_s, fdP_20]
theorem m_45n {a : Nat → Nat} {i w c m : Nat} : fdL (List.replicate (cwN a (i + 1) w) w) c m = if a (76 + i) = 0 ∧ a (40 + i) = w then (if w ≤ (fdL (List.replicate (cwN a i w) w) c m).1 then ((fdL (List.replicate (cwN a i w) w) c m).1 - w, (fdL (List.replicate (cwN a i w) w) c m).2 + 1) else ((fdL (List.replicate (cwN a i w) w) c m).1, (fdL (List.replicate (cwN a i w) w) c m).2)) else fdL (List.replicate (cwN a i w) w) c m := by
  have eN : cwN a (i + 1) w = cwN a i w + if a (76 + i) = 0 ∧ a (40 + i) = w then 1 else 0 := rfl
  rw [eN]
  by_cases h : a (76 + i) = 0 ∧ a (40 + i) = w
  · rw [if_pos h, if_pos h, List.replicate_succ', fd_app, fd_one]
  · rw [if_neg h, if_neg h, Nat.add_zero]
