/-! the questions about distances -/
theorem eqv_of {σ σ' : gM} (h : ∀ j, j ≠ 4 → j ≠ 5 → j ≠ 6 → j ≠ 226 → σ' j = σ j) : eqv σ σ' := fun i k hi => by
  rw [h i (fun e => hi (by unfold irr; omega)) (fun e => hi (by unfold irr; omega)) (fun e => hi (by unfold irr; omega)) (fun e => hi (by unfold irr; omega))]
theorem sp_ex {τ : gM} {a : Nat → Nat} (hR : rdsR τ a) : ∃ δ : Nat → Nat → Nat, ∀ i, i < 6 → spR a i (δ i) := by
  have h : ∀ i, ∃ d : Nat → Nat, i < 6 → spR a i d := fun i => by
    by_cases hi : i < 6
    · obtain ⟨_, d, _, _, h, _⟩ := e_measure hR hi
      exact ⟨d, fun _ => h⟩
    · exact ⟨fun _ => 0, fun q => absurd q hi⟩
  exact ⟨fun i => Classical.choose (h i), fun i hi => Classical.choose_spec (h i) hi⟩
theorem e_shortest {τ : gM} {a δ : Nat → Nat} (hR : rdsR τ a) {s v : Nat} (hs : s < 6) (hv : v < 6) (hδ : spR a s δ) : ∃ τ' : gM, f_X9_shortest τ (nI s) (nI v) = some (oD (δ v), τ') ∧ ∀ j, j ≠ 4 → j ≠ 5 → τ' j = τ j := by
  obtain ⟨τ', d, h1, h2, h3, h4⟩ := e_measure hR hs
  refine ⟨τ', ?_, h2⟩
  unfold f_X9_shortest
  rw [h1, bd_s, nI_gi (by omega) (by omega), g_nIc (by omega), h4 v hv, sp_uniq h3 hδ v hv]
theorem nI_1000 {x : Nat} (h : x ≤ 4096) : (nI x = 1000) = (x = 1000) := by
  rw [show (1000 : Int32) = nI 1000 from rfl, nI_inj h (by omega)]
theorem bd2_re {X : Option (Int32 × gM)} : (bd2 X fun r2 σ3 => some (r2, σ3)) = X := by
  cases X <;> rfl
/-- the farthest of the first n -/
def fpN (δ : Nat → Nat) (s : Nat) : Nat → Nat
  | 0 => s
  | i + 1 => if δ i = 1000 then fpN δ s i else if δ i ≤ δ (fpN δ s i) then fpN δ s i else i
theorem fp_lt {δ : Nat → Nat} {s : Nat} (hs : s < 6) (h0 : δ s = 0) : ∀ n, n ≤ 6 → fpN δ s n < 6 ∧ δ (fpN δ s n) ≠ 1000
  | 0, _ => ⟨hs, by show δ s ≠ 1000; omega⟩
  | n + 1, h => by
    have ih := fp_lt hs h0 n (by omega)
    unfold fpN
    by_cases h1 : δ n = 1000
    · rw [if_pos h1]; exact ih
    · rw [if_neg h1]
      by_cases h2 : δ n ≤ δ (fpN δ s n)
      · rw [if_pos h2]; exact ih
      · rw [if_neg h2]; exact ⟨by omega, h1⟩
theorem nI_mul0 {x y : Nat} (hx : x ≤ 4096) (hy : y ≤ 4096) : (0 : Int32) ≤ nI x * nI y := by
  have hxy : x * y ≤ 4096 * 4096 := Nat.mul_le_mul hx hy
  have e : (x : Int) * (y : Int) = ((x * y : Nat) : Int) := by simp
  rw [Int32.le_iff_toInt_le, Int32.toInt_mul, g_nIt hx, g_nIt hy, e, show (0 : Int32).toInt = 0 from rfl]
  unfold Int.bmod
  dsimp only
  split <;> omega
theorem nI_mul1 {x y : Nat} (hx : x ≤ 4096) (hy : y ≤ 4096) : ¬ nI x * nI y = -1 := fun h => by
  have := nI_mul0 hx hy
  rw [h] at this
  exact absurd this (by decide)
theorem ls_ok {σ : gM} {i : Nat} (h : i < 6) : f_X12_requireIndex σ (nI i) 6 = some (.inl ()) := rq_ok (N := 6) h (by omega)
theorem now_f {σ τ : gM} {e : Nat → Int32} {a : Nat → Nat} (R : nowR σ e a) (h : ∀ i, i ≠ 4 → i ≠ 5 → i ≠ 6 → i < 19 → τ i = σ i) : nowR τ e a :=
  ⟨blk_congr R.2.2.1 (fun o q p1 p2 p3 p4 => by rw [h _ (by omega) (by omega) (by omega) (by omega)]) (fun _ _ => rfl) R.1, trivial, R.2.2⟩
theorem now_f0 {σ τ : gM} {e : Nat → Int32} {a : Nat → Nat} (R : nowR σ e a) (h : ∀ i q, 1 ≤ i → i < 19 → τ i q = σ i q) : nowR τ e a :=
  ⟨blk_congr R.2.2.1 (fun o q p1 p2 p3 p4 => h _ q (by omega) (by omega)) (fun _ _ => rfl) R.1, trivial, R.2.2⟩
theorem q_distance {σ : gM} {e : Nat → Int32} {a δ : Nat → Nat} (R : nowR σ e a) {i j : Nat} (hi : i < 6) (hj : j < 6) (hδ : spR a i δ) (h : δ j ≠ 1000) : ∃ τ : gM, f_X12_distance σ (nI i) (nI j) = some (.inl (nI (δ j), τ)) ∧ ∀ x, x ≠ 4 → x ≠ 5 → x ≠ 6 → τ x = σ x := by
  obtain ⟨σ5, s1, s2⟩ := e_shortest (rds_of R.1 R.2.2) hi hj hδ
  have hle := sp_le hδ hj
  refine ⟨σ5, ?_, fun x x1 x2 _ => s2 x x1 x2⟩
  unfold f_X12_distance f_X12_requirePlaces
  rw [ls_ok hi, bt_l, ls_ok hj, bt_l, bt_l, s1, bd2_s, oD_n h, pr_ok (nI_ge0 (by omega)), bt_l]
theorem q_distanceByRounds {σ : gM} {e : Nat → Int32} {a : Nat → Nat} {δ : Nat → Nat → Nat} (R : nowR σ e a) {i j : Nat} (hi : i < 6) (hj : j < 6) (hδ : ∀ i, i < 6 → spR a i (δ i)) (h : δ i j ≠ 1000) : ∃ τ : gM, f_X12_distanceByRounds σ (nI i) (nI j) = some (.inl (nI (δ i j), τ)) ∧ ∀ x, x ≠ 4 → x ≠ 5 → x ≠ 6 → τ x = σ x := by
  obtain ⟨σ5, s1, s2, s3⟩ := e_floyd (rds_of R.1 R.2.2) hδ
  have hle := sp_le (hδ i hi) hj
  refine ⟨σ5, ?_, fun x _ _ x3 => s2 x x3⟩
  unfold f_X12_distanceByRounds f_X12_requirePlaces
  rw [ls_ok hi, bt_l, ls_ok hj, bt_l, bt_l, s1, bd_s, f_X9_measuredByRounds, ix36 hi hj, nI_gi (by omega) (by omega), g_nIc (by omega), s3 i j hi hj, bd_s, oD_n h, pr_ok (nI_ge0 (by omega)), bt_l]
theorem q_farthestPlace {σ : gM} {e : Nat → Int32} {a δ : Nat → Nat} (R : nowR σ e a) {s : Nat} (hs : s < 6) (hδ0 : spR a s δ) : ∃ τ : gM, f_X12_farthestPlace σ (nI s) = some (.inl (nI (fpN δ s 6), τ)) ∧ ∀ x, x ≠ 4 → x ≠ 5 → x ≠ 6 → τ x = σ x := by
  obtain ⟨τ5, δ2, s1, s2, hδ, s3⟩ := e_measure (rds_of R.1 R.2.2) hs
  have eF : ∀ n, n ≤ 6 → fpN δ2 s n = fpN δ s n := by
    intro n
    induction n with
    | zero => intro _; rfl
    | succ n ih =>
      intro hn
      have u1 := sp_uniq hδ hδ0 n (by omega)
      have u2 := sp_uniq hδ hδ0 (fpN δ s n) (fp_lt hs hδ0.1 n (by omega)).1
      show (if δ2 n = 1000 then fpN δ2 s n else if δ2 n ≤ δ2 (fpN δ2 s n) then fpN δ2 s n else n) = (if δ n = 1000 then fpN δ s n else if δ n ≤ δ (fpN δ s n) then fpN δ s n else n)
      rw [ih (by omega), u1, u2]
  rw [← eF 6 (by omega)]
  have eD : f_X9_farthestFrom_L9 τ5 gFU (nI s) 0 = some (nI (fpN δ2 s 6)) := by
    refine loop_val (F := fun n i v => f_X9_farthestFrom_L9 τ5 n v i) (N := 6) (val := fun i => nI (fpN δ2 s i)) (by omega) (fun n i hi => ?_) (fun n => ?_)
    · obtain ⟨k1, k2⟩ := fp_lt hs hδ.1 i (by omega)
      have b1 := sp_le hδ hi
      have b2 := sp_le hδ k1
      show f_X9_farthestFrom_L9 τ5 (n + 1) (nI (fpN δ2 s i)) (nI i) = f_X9_farthestFrom_L9 τ5 n (nI (if δ2 i = 1000 then fpN δ2 s i else if δ2 i ≤ δ2 (fpN δ2 s i) then fpN δ2 s i else i)) (nI (i + 1))
      rw [f_X9_farthestFrom_L9, show (6 : Int32) = nI 6 from rfl]
      simp (disch := omega) only [nI_leq, if_neg, nI_gi, g_nIc, nm_s, nI_s]
      rw [s3 i hi, s3 _ k1, oD_n k2]
      by_cases c1 : δ2 i = 1000
      · rw [if_pos c1, c1, if_pos (show oD 1000 ≤ nI (δ2 (fpN δ2 s i)) from Int32.le_trans (by decide : (-1 : Int32) ≤ 0) (nI_ge0 (by omega)))]
      · rw [if_neg c1, oD_n c1]
        simp (disch := omega) only [nI_leq]
        by_cases c2 : δ2 i ≤ δ2 (fpN δ2 s i)
        · rw [if_pos c2, if_pos c2]
        · rw [if_neg c2, if_neg c2]
    · show f_X9_farthestFrom_L9 τ5 (n + 1) (nI (fpN δ2 s 6)) (nI 6) = _
      rw [f_X9_farthestFrom_L9, if_pos (by decide)]
  refine ⟨τ5, ?_, fun x x1 x2 _ => s2 x x1 x2⟩
  unfold f_X12_farthestPlace
  rw [ls_ok hs, bt_l, f_X9_farthestFrom, s1, bd_s, eD, bd_s, bd2_s]
theorem q_effortTo {σ : gM} {e : Nat → Int32} {a δ : Nat → Nat} (R : nowR σ e a) {k v : Nat} (hk : k < 3) (hv : v < 6) (hδ : spR a (a (128 + k)) δ) (hd : δ v ≠ 1000) : ∃ τ : gM, f_X12_effortTo σ (nI k) (nI v) = some (.inl (nI (δ v) * nI (loadN a k), τ)) ∧ ∀ x, x ≠ 4 → x ≠ 5 → x ≠ 6 → τ x = σ x := by
  obtain ⟨p1, p2, p3, p4⟩ := R.2.2.2.2.2.2.2.2.2 k hk
  have hs : a (128 + k) < 6 := by omega
  have hle := sp_le hδ hv
  obtain ⟨σ5, s1, s2⟩ := e_shortest (rds_of R.1 R.2.2) hs hv hδ
  have e17 : σ 17 k = nI (a (128 + k)) := (R.1.2.2.2.2.2.2.2.2 k hk).1
  have B5 : blkR σ5 0 e a := blk_congr R.2.2.1 (fun o q h1 h2 h3 h4 => by rw [s2 _ (by omega) (by omega)]) (fun _ _ => rfl) R.1
  refine ⟨σ5, ?_, fun x x1 x2 _ => s2 x x1 x2⟩
  unfold f_X12_effortTo
  rw [ss_ok hk, bt_l, ls_ok hv, bt_l, f_X3_effortOf, f_X11_placeOf, nI_gi (by omega) (by omega), g_nIc (by omega), e17, bd_s, s1, bd2_s, if_neg (by rw [oD_eq (by omega)]; exact hd), d_weightAt B5 R.2.2 (by omega), bd_s, bd2_s, oD_n hd, pr_ok (nI_mul0 (by omega) (by omega)), bt_l]
