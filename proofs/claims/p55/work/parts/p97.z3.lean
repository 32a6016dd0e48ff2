/-! THE LAW: the known depot, the questions, the puts, the carries -/
theorem bst_congr {a b : Nat → Nat} {h : Nat} : ∀ n, (∀ i, i < n → a (112 + i) = b (112 + i) ∧ a (120 + i) = b (120 + i)) → bst a h n = bst b h n
  | 0, _ => rfl
  | n + 1, H => by
    have ih := bst_congr (h := h) n (fun i hi => H i (by omega))
    have hl := bst_le b h n
    obtain ⟨q1, q2⟩ := H n (by omega)
    show (if a (112 + n) < h then bst a h n else if bst a h n = 0 then n + 1 else if betB a n (bst a h n - 1) = true then n + 1 else bst a h n) = (if b (112 + n) < h then bst b h n else if bst b h n = 0 then n + 1 else if betB b n (bst b h n - 1) = true then n + 1 else bst b h n)
    rw [ih, q1]
    by_cases c : bst b h n = 0
    · rw [if_pos c, if_pos c]
    · obtain ⟨q3, q4⟩ := H (bst b h n - 1) (by omega)
      have e : betB a n (bst b h n - 1) = betB b n (bst b h n - 1) := by
        unfold betB
        rw [q1, q2, q3, q4]
      rw [e]
def gT2 (g0 u0 g1 u1 : Nat) : Nat → Nat := fun j => if j = 112 then g0 else if j = 113 then g1 else if j = 120 then u0 else if j = 121 then u1 else 0
theorem bst_2 {a : Nat → Nat} {g0 u0 g1 u1 : Nat} (h1 : a 112 = g0 ∧ a 113 = g1) (h2 : a 120 = u0 ∧ a 121 = u1) (h : Nat) : bst a h 2 = bst (gT2 g0 u0 g1 u1) h 2 := by
  refine bst_congr 2 (fun i hi => ?_)
  rcases (show i = 0 ∨ i = 1 by omega) with rfl | rfl
  · exact ⟨h1.1, h2.1⟩
  · exact ⟨h1.2, h2.2⟩
theorem bst_1 {a : Nat → Nat} {g0 u0 : Nat} (h1 : a 112 = g0) (h2 : a 120 = u0) (h : Nat) : bst a h 1 = bst (gT2 g0 u0 0 0) h 1 := by
  refine bst_congr 1 (fun i hi => ?_)
  obtain rfl : i = 0 := by omega
  exact ⟨h1, h2⟩
theorem load3 {a : Nat → Nat} (h36 : a 36 = 3) (k : Nat) : loadN a k = (if a 76 = 1 ∧ a 88 = k then a 40 else 0) + (if a 77 = 1 ∧ a 89 = k then a 41 else 0) + (if a 78 = 1 ∧ a 90 = k then a 42 else 0) := by
  unfold loadN
  rw [h36]
  show 0 + _ + _ + _ = _
  rw [Nat.zero_add]
theorem zload {a : Nat → Nat} {r w m s0 k0 s1 k1 s2 k2 h0 h1 h2 g0 u0 g1 u1 q c : Nat} (Z : zV a r w m s0 k0 s1 k1 s2 k2 h0 h1 h2 g0 u0 g1 u1 q c) (k : Nat) : loadN a k = (if s0 = 1 ∧ k0 = k then w else 0) + (if s1 = 1 ∧ k1 = k then 20 else 0) + (if s2 = 1 ∧ k2 = k then 15 else 0) := by
  obtain ⟨hR, h36, h37, ⟨h40, h41, h42⟩, ⟨h52, h53, h54⟩, ⟨h64, h65, h66⟩, ⟨h76, h77, h78⟩, ⟨h88, h89, h90⟩, ⟨h112, h113⟩, ⟨h120, h121⟩, h128, h131, h133, h132⟩ := id Z
  rw [load3 h36, h76, h77, h78, h88, h89, h90, h40, h41, h42]
theorem hd0 {e : Nat → Int32} {a : Nat → Nat} {p : Nat} (h : a (52 + p) = 0) : hdA a p = a ∧ hdE e a p = e := ⟨if_pos h, if_pos h⟩
theorem hd1 {e : Nat → Int32} {a : Nat → Nat} {p g u : Nat} (h : ¬ a (52 + p) = 0) (hb : bst a (a (52 + p)) (a 37) = g + 1) (hu : a (120 + g) + 1 = u) (hu3 : ¬ u = 3) : hdA a p = pt a (120 + g) u ∧ hdE e a p = e := by
  unfold hdA hdE
  rw [if_neg h, if_neg h, hb, show g + 1 - 1 = g by omega]
  unfold usA usE
  rw [hu, if_neg hu3, if_neg hu3]
  exact ⟨rfl, rfl⟩
theorem hd3 {e : Nat → Int32} {a : Nat → Nat} {p g : Nat} (h : ¬ a (52 + p) = 0) (hb : bst a (a (52 + p)) (a 37) = g + 1) (hu : a (120 + g) + 1 = 3) : hdA a p = pt (shA (pt a (120 + g) 3) g 7) 37 (a 37 - 1) ∧ hdE e a p = pe e 39 (e 39 + 1) := by
  unfold hdA hdE
  rw [if_neg h, if_neg h, hb, show g + 1 - 1 = g by omega]
  unfold usA usE
  rw [hu, if_pos rfl, if_pos rfl]
  exact ⟨rfl, rfl⟩
theorem sf_b {a : Nat → Nat} {p x : Nat} (hb : bst a (a (52 + p)) (a 37) = x + 1) : sfB a p = true := by
  unfold sfB
  rw [hb]
  simp
theorem sf_0 {a : Nat → Nat} {p : Nat} (h : a (52 + p) = 0) : sfB a p = true := by
  unfold sfB
  rw [h]
  simp
theorem z_put {σ : gM} {e e' : Nat → Int32} {a b : Nat → Nat} (I : zInv e a σ) {p k l : Nat} (hp : p < a 36) (hk : k < 3) (hs : a (76 + p) = 0) (hl : loadN a k + a (40 + p) = l) (hc : l ≤ a (131 + k)) (hf : sfB a p = true) (hb : hdA a p = b ∧ hdE e a p = e') : ∃ K, f_X12_put σ (nI p) (nI k) = some (.inl (nI l, K)) ∧ zInv e' (pt (pt b (76 + p) 1) (88 + p) k) K := by
  have V := (zI_R I).2.2
  have h60 := (V.2.2.2.2.2.2.2 k hk).2.2.1
  obtain ⟨o1, o2⟩ := pu_ok V hp hk hs (by omega) hf
  unfold puA at o1 o2
  rw [hb.1, hb.2, hl] at o1
  rw [hb.1, hb.2] at o2
  exact z_ok I (nI_ge0 (by omega)) ⟨o1, o2⟩
theorem z_carry {σ : gM} {e : Nat → Int32} {a δ : Nat → Nat} (I : zInv e a σ) {k d x l : Nat} (hk : k < 3) (hd : d < 6) (hs : ¬ a (128 + k) = d) (hδ : spR a (a (128 + k)) δ) (hx : δ d = x) (hinf : ¬ x = 1000) (hl : loadN a k = l) {n : Nat} (hn : dvN a k d (a 36) = n) : ∃ K, f_X12_carry σ (nI k) (nI d) = some (.inl (nI n, K)) ∧ zInv (pe e 38 (e 38 + nI x * nI l)) (cyA a k d (a 36)) K := by
  have V := (zI_R I).2.2
  have h12 := V.1
  have := dvN_le (a := a) (k := k) (d := d) h12
  have o := cy_ok V hk hd hs hδ (by rw [hx]; exact hinf)
  rw [hx, hl, hn] at o
  exact z_ok I (nI_ge0 (by omega)) o
def cntW (w x : Nat) : Nat := (if w = x then 1 else 0) + (if 20 = x then 1 else 0) + (if 15 = x then 1 else 0)
theorem cnt_b : ((List.range 10).all fun k => decide (gsL (Pl (cntW (k + 2)) 20) 30 = 2)) = true := by decide +kernel
theorem fp_b : ((List.range 8).all fun k => decide (fpN (zD (k + 1) 0) 0 6 = 2)) = true := by decide +kernel
theorem z_3 {K0 σ : gM} {r6 r9 : Int32} {e : Nat → Int32} {a : Nat → Nat} {r w : Nat} (r1 : 1 ≤ r) (r2 : r ≤ 8) (w1 : 2 ≤ w) (w2 : w ≤ 11) (I : zInv e a K0) (Z : zV a r w 2 0 0 0 0 0 0 2 0 3 2 0 3 0 0 30) (h : ∀ K, zInv e a K → f_Z4 K σ r6 r9 (nI r) (nI w) = some ()) : f_Z3 K0 σ r6 r9 (nI r) (nI w) = some () := by
  obtain ⟨hR, h36, h37, ⟨h40, h41, h42⟩, ⟨h52, h53, h54⟩, ⟨h64, h65, h66⟩, ⟨h76, h77, h78⟩, ⟨h88, h89, h90⟩, ⟨h112, h113⟩, ⟨h120, h121⟩, h128, h131, h133, h132⟩ := id Z
  have er : (nI r + 3 : Int32) = nI (r + 3) := nI_al (k := r) (i := 3) (by omega)
  obtain ⟨K1, e1, o1⟩ := q_distance (zI_R I) (i := 0) (j := 2) (by omega) (by omega) (zD_ok r1 r2 (s := 0) (by omega) hR) (by show r + 3 ≠ 1000; omega)
  have I1 := zI_f I (fun i i1 i2 i3 _ _ => o1 i i1 i2 i3)
  obtain ⟨K2, e2, o2⟩ := q_distanceByRounds (zI_R I1) (i := 2) (j := 0) (by omega) (by omega) (fun i hi => zD_ok r1 r2 (s := i) hi hR) (by show r + 3 ≠ 1000; omega)
  have I2 := zI_f I1 (fun i i1 i2 i3 _ _ => o2 i i1 i2 i3)
  obtain ⟨K3, e3, o3⟩ := q_farthestPlace (zI_R I2) (s := 0) (by omega) (zD_ok r1 r2 (s := 0) (by omega) hR)
  have I3 := zI_f I2 (fun i i1 i2 i3 _ _ => o3 i i1 i2 i3)
  have f2 : fpN (zD r 0) 0 6 = 2 := by
    have := List.all_eq_true.mp fp_b (r - 1) (List.mem_range.mpr (by omega))
    rw [show r - 1 + 1 = r by omega] at this
    exact of_decide_eq_true this
  rw [f2] at e3
  have e4 := q_gloveFor (zI_R I3) (j := 0) (g := 0) (by omega) (by show ¬ a 52 = 0; omega) (by show bst a (a 52) (a 37) = 1; rw [h52, h37, bst_2 ⟨h112, h113⟩ ⟨h120, h121⟩]; rfl)
  have e5 := q_gloveFor (zI_R I3) (j := 2) (g := 1) (by omega) (by show ¬ a 54 = 0; omega) (by show bst a (a 54) (a 37) = 2; rw [h54, h37, bst_2 ⟨h112, h113⟩ ⟨h120, h121⟩]; rfl)
  have e6 : f_L_act K3 10 1 0 0 = some (-4, K3) := by
    unfold f_L_act
    rw [if_neg (by decide), if_neg (by decide), if_neg (by decide), if_neg (by decide), if_neg (by decide), if_neg (by decide), if_neg (by decide), if_neg (by decide), if_neg (by decide), if_neg (by decide), if_pos rfl, show f_X12_gloveFor K3 1 = some (.inr 3) from q_gloveFor0 (zI_R I3) (j := 1) (by omega) h53, bt_r, if_neg (by decide), if_neg (by decide), if_neg (by decide), if_pos rfl]
  have eh : iI ((waN a : Int) - lfI a) = 3 := by
    have x1 : waN a = 3 := by unfold waN; rw [h36]; simp [sm, h76, h77, h78]
    have x2 : wgN a 1 = 2 := by unfold wgN; rw [h36]; simp [sm, h76, h77, h78, h52, h53, h54]
    have x3 : wgN a 2 = 2 := by unfold wgN; rw [h36]; simp [sm, h76, h77, h78, h52, h53, h54]
    have x4 : wgN a 3 = 1 := by unfold wgN; rw [h36]; simp [sm, h76, h77, h78, h52, h53, h54]
    have y2 : usN a 1 = 6 := by unfold usN; rw [h37]; simp [sm, h112, h113, h120, h121]
    have y3 : usN a 2 = 6 := by unfold usN; rw [h37]; simp [sm, h112, h113, h120, h121]
    have y4 : usN a 3 = 3 := by unfold usN; rw [h37]; simp [sm, h112, h113, h120, h121]
    unfold lfI shI
    rw [x1, x2, x3, x4, y2, y3, y4]
    decide
  obtain ⟨K4, e7, o7⟩ := q_handleable (zI_R I3)
  rw [eh] at e7
  have I4 := zI_f I3 o7
  have e8 := q_byShortage (zI_R I4)
  rw [eh] at e8
  have ef : fitN a (a (131 + 0) - loadN a 0) = 2 := by
    rw [show a (131 + 0) = 30 from h131, zload Z]
    show fitN a (30 - (0 + 0 + 0)) = 2
    unfold fitN
    rw [Pl_congr (g := cntW w) (fun x _ _ => by unfold cwN cntW; rw [h36]; simp [sm, h76, h77, h78, h40, h41, h42])]
    have := List.all_eq_true.mp cnt_b (w - 2) (List.mem_range.mpr (by omega))
    rw [show w - 2 + 2 = w by omega] at this
    exact of_decide_eq_true this
  have e9 := q_mostFitting (zI_R I4) (k := 0) (by omega)
  rw [ef] at e9
  obtain ⟨K5, e10, o10⟩ := q_mostFittingByTable (zI_R I4) (k := 0) (by omega)
  rw [ef] at e10
  have I5 := zI_f I4 o10
  have e11 := q_mostFitting (zI_R I5) (k := 0) (by omega)
  rw [ef] at e11
  unfold f_Z3
  rw [show f_X12_distance K0 0 2 = some (.inl (nI (r + 3), K1)) from e1, btn2_l, if_pos (show nI (r + 3) = nI r + 3 from er.symm), show f_X12_distanceByRounds K1 2 0 = some (.inl (nI (r + 3), K2)) from e2, btn2_l, if_pos (show nI (r + 3) = nI r + 3 from er.symm), show f_X12_farthestPlace K2 0 = _ from e3, btn2_l, if_pos (show nI 2 = 2 from rfl), show f_X12_gloveFor K3 0 = _ from e4, btn_l, if_pos (show nI 0 = 0 from rfl), show f_X12_gloveFor K3 2 = _ from e5, btn_l, if_pos (show nI 1 = 1 from rfl), e6, bd2_s, if_pos rfl, e7, bd2_s, if_pos rfl, e8, bd_s, if_pos rfl, show f_X12_mostFitting K4 0 = _ from e9, btn_l, if_neg (by rw [show nI w + 15 = nI (w + 15) from nI_al (k := w) (i := 15) (by omega), show (30 : Int32) = nI 30 from rfl, nI_ltq (by omega) (by omega)]; omega), bd_s, if_pos (show nI 2 = 2 from rfl), show f_X12_mostFittingByTable K4 0 = _ from e10, btn2_l, show f_X12_mostFitting K5 0 = _ from e11, btn_l, if_pos rfl]
  exact h K5 I5
theorem z_4 {K0 σ : gM} {r6 r9 : Int32} {e : Nat → Int32} {a : Nat → Nat} {r w : Nat} (r1 : 1 ≤ r) (r2 : r ≤ 8) (w1 : 2 ≤ w) (w2 : w ≤ 11) (I : zInv e a K0) (Z : zV a r w 2 0 0 0 0 0 0 2 0 3 2 0 3 0 0 30) (h : ∀ K a, zInv e a K → zV a r w 2 1 0 1 0 1 1 2 0 3 2 1 3 1 0 31 → f_Z5 K σ r6 r9 (nI r) (nI w) = some ()) : f_Z4 K0 σ r6 r9 (nI r) (nI w) = some () := by
  obtain ⟨hR, h36, h37, ⟨h40, h41, h42⟩, ⟨h52, h53, h54⟩, ⟨h64, h65, h66⟩, ⟨h76, h77, h78⟩, ⟨h88, h89, h90⟩, ⟨h112, h113⟩, ⟨h120, h121⟩, h128, h131, h133, h132⟩ := id Z
  -- put 0 0
  have b0 : bst a (a (52 + 0)) (a 37) = 0 + 1 := by
    show bst a (a 52) (a 37) = 1
    rw [h52, h37, bst_2 ⟨h112, h113⟩ ⟨h120, h121⟩]; rfl
  obtain ⟨K1, n1, I1⟩ := z_put I (p := 0) (k := 0) (l := w) (by omega) (by omega) h76 (by rw [zload Z]; show 0 + 0 + 0 + a 40 = w; omega) (by show w ≤ a 131; omega) (sf_b b0) (hd1 (u := 1) (by show ¬ a 52 = 0; omega) b0 (by show a 120 + 1 = 1; omega) (by omega))
  have Z1 : zV (pt (pt (pt a (120 + 0) 1) (76 + 0) 1) (88 + 0) 0) r w 2 1 0 0 0 0 0 2 0 3 2 1 3 0 0 30 := ⟨fun j hj => (pt_n (by omega)).trans ((pt_n (by omega)).trans ((pt_n (by omega)).trans (hR j hj))), h36, h37, ⟨h40, h41, h42⟩, ⟨h52, h53, h54⟩, ⟨h64, h65, h66⟩, ⟨rfl, h77, h78⟩, ⟨rfl, h89, h90⟩, ⟨h112, h113⟩, ⟨rfl, h121⟩, h128, h131, h133, h132⟩
  generalize pt (pt (pt a (120 + 0) 1) (76 + 0) 1) (88 + 0) 0 = a1 at I1 Z1
  clear h36 h37 h40 h41 h42 h52 h53 h54 h64 h65 h66 h76 h77 h78 h88 h89 h90 h112 h113 h120 h121 h128 h131 h133 h132 hR b0
  obtain ⟨hR, h36, h37, ⟨h40, h41, h42⟩, ⟨h52, h53, h54⟩, ⟨h64, h65, h66⟩, ⟨h76, h77, h78⟩, ⟨h88, h89, h90⟩, ⟨h112, h113⟩, ⟨h120, h121⟩, h128, h131, h133, h132⟩ := id Z1
  have q1 := q_usesLeft (zI_R I1) (j := 0) (by omega)
  rw [show 3 - a1 (120 + 0) = 2 from by show 3 - a1 120 = 2; omega] at q1
  -- capacity 31
  obtain ⟨K2, n2, I2⟩ := z_ok I1 (nI_ge0 (by show a1 131 ≤ 4096; omega)) (cap_ok (zI_R I1).2.2 (k := 0) (q := 31) (by omega) (by omega) (by omega) (by rw [zload Z1]; show w + 0 + 0 ≤ 31; omega))
  rw [show a1 (131 + 0) = 30 from h131] at n2
  have Z2 : zV (pt a1 (131 + 0) 31) r w 2 1 0 0 0 0 0 2 0 3 2 1 3 0 0 31 := ⟨fun j hj => (pt_n (by omega)).trans (hR j hj), h36, h37, ⟨h40, h41, h42⟩, ⟨h52, h53, h54⟩, ⟨h64, h65, h66⟩, ⟨h76, h77, h78⟩, ⟨h88, h89, h90⟩, ⟨h112, h113⟩, ⟨h120, h121⟩, h128, rfl, h133, h132⟩
  generalize pt a1 (131 + 0) 31 = a2 at I2 Z2
  clear h36 h37 h40 h41 h42 h52 h53 h54 h64 h65 h66 h76 h77 h78 h88 h89 h90 h112 h113 h120 h121 h128 h131 h133 h132 hR
  obtain ⟨hR, h36, h37, ⟨h40, h41, h42⟩, ⟨h52, h53, h54⟩, ⟨h64, h65, h66⟩, ⟨h76, h77, h78⟩, ⟨h88, h89, h90⟩, ⟨h112, h113⟩, ⟨h120, h121⟩, h128, h131, h133, h132⟩ := id Z2
  -- put 1 0
  obtain ⟨K3, n3, I3⟩ := z_put I2 (p := 1) (k := 0) (l := w + 20) (by omega) (by omega) h77 (by rw [zload Z2]; show w + 0 + 0 + a2 41 = w + 20; omega) (by show w + 20 ≤ a2 131; omega) (sf_0 h53) (hd0 h53)
  have Z3 : zV (pt (pt a2 (76 + 1) 1) (88 + 1) 0) r w 2 1 0 1 0 0 0 2 0 3 2 1 3 0 0 31 := ⟨fun j hj => (pt_n (by omega)).trans ((pt_n (by omega)).trans (hR j hj)), h36, h37, ⟨h40, h41, h42⟩, ⟨h52, h53, h54⟩, ⟨h64, h65, h66⟩, ⟨h76, rfl, h78⟩, ⟨h88, rfl, h90⟩, ⟨h112, h113⟩, ⟨h120, h121⟩, h128, h131, h133, h132⟩
  generalize pt (pt a2 (76 + 1) 1) (88 + 1) 0 = a3 at I3 Z3
  clear h36 h37 h40 h41 h42 h52 h53 h54 h64 h65 h66 h76 h77 h78 h88 h89 h90 h112 h113 h120 h121 h128 h131 h133 h132 hR
  obtain ⟨hR, h36, h37, ⟨h40, h41, h42⟩, ⟨h52, h53, h54⟩, ⟨h64, h65, h66⟩, ⟨h76, h77, h78⟩, ⟨h88, h89, h90⟩, ⟨h112, h113⟩, ⟨h120, h121⟩, h128, h131, h133, h132⟩ := id Z3
  have q3 := q_usesLeft (zI_R I3) (j := 0) (by omega)
  rw [show 3 - a3 (120 + 0) = 2 from by show 3 - a3 120 = 2; omega] at q3
  have q4 := q_load (zI_R I3) (j := 0) (by omega)
  rw [zload Z3] at q4
  -- put 2 0 is refused
  obtain ⟨K4, n4, I4⟩ := z_no I3 (by omega) (pu_no3 (zI_R I3).2.2 (p := 2) (k := 0) (by omega) (by omega) h78 (by rw [zload Z3]; show ¬ w + 20 + 0 + a3 42 ≤ a3 131; omega))
  -- put 2 1
  have b2 : bst a3 (a3 (52 + 2)) (a3 37) = 1 + 1 := by
    show bst a3 (a3 54) (a3 37) = 2
    rw [h54, h37, bst_2 ⟨h112, h113⟩ ⟨h120, h121⟩]; rfl
  obtain ⟨K5, n5, I5⟩ := z_put I4 (p := 2) (k := 1) (l := 15) (by omega) (by omega) h78 (by rw [zload Z3]; show 0 + 0 + 0 + a3 42 = 15; omega) (by show 15 ≤ a3 132; omega) (sf_b b2) (hd1 (u := 1) (by show ¬ a3 54 = 0; omega) b2 (by show a3 121 + 1 = 1; omega) (by omega))
  have Z5 : zV (pt (pt (pt a3 (120 + 1) 1) (76 + 2) 1) (88 + 2) 1) r w 2 1 0 1 0 1 1 2 0 3 2 1 3 1 0 31 := ⟨fun j hj => (pt_n (by omega)).trans ((pt_n (by omega)).trans ((pt_n (by omega)).trans (hR j hj))), h36, h37, ⟨h40, h41, h42⟩, ⟨h52, h53, h54⟩, ⟨h64, h65, h66⟩, ⟨h76, h77, rfl⟩, ⟨h88, h89, rfl⟩, ⟨h112, h113⟩, ⟨h120, rfl⟩, h128, h131, h133, h132⟩
  generalize pt (pt (pt a3 (120 + 1) 1) (76 + 2) 1) (88 + 2) 1 = a5 at I5 Z5
  clear h36 h37 h40 h41 h42 h52 h53 h54 h64 h65 h66 h76 h77 h78 h88 h89 h90 h112 h113 h120 h121 h128 h131 h133 h132 hR b2
  obtain ⟨hR, h36, h37, ⟨h40, h41, h42⟩, ⟨h52, h53, h54⟩, ⟨h64, h65, h66⟩, ⟨h76, h77, h78⟩, ⟨h88, h89, h90⟩, ⟨h112, h113⟩, ⟨h120, h121⟩, h128, h131, h133, h132⟩ := id Z5
  have q5 := q_usesLeft (zI_R I5) (j := 1) (by omega)
  rw [show 3 - a5 (120 + 1) = 2 from by show 3 - a5 121 = 2; omega] at q5
  obtain ⟨K6, q6, o6⟩ := q_effortTo (zI_R I5) (k := 0) (v := 2) (δ := zD r 0) (by omega) (by omega) (by rw [show a5 (128 + 0) = 0 from h128]; exact zD_ok r1 r2 (by omega) hR) (by show r + 3 ≠ 1000; omega)
  rw [zload Z5] at q6
  have I6 := zI_f I5 (fun i i1 i2 i3 _ _ => o6 i i1 i2 i3)
  have ew : (nI w + 20 : Int32) = nI (w + 20) := nI_al (k := w) (i := 20) (by omega)
  have er : (nI r + 3 : Int32) = nI (r + 3) := nI_al (k := r) (i := 3) (by omega)
  unfold f_Z4
  rw [show f_X12_put K0 0 0 = _ from n1, btn2_l, if_pos rfl, show f_X12_usesLeft K1 0 = _ from q1, btn_l, if_pos (show nI 2 = 2 from rfl), show f_X12_setCapacity K1 0 31 = _ from n2, btn2_l, if_pos (show nI 30 = 30 from rfl), show f_X12_put K2 1 0 = _ from n3, btn2_l, if_pos ew.symm, show f_X12_usesLeft K3 0 = _ from q3, btn_l, if_pos (show nI 2 = 2 from rfl), show f_X12_load K3 0 = some (.inl (nI (w + 20))) from q4, btn_l, if_pos ew.symm, show f_L_act K3 4 2 0 0 = some (-4, K4) from by rw [act_4, show fD (fun τ => f_X3_putIn τ 2 0) K3 = _ from n4, actM_r (by omega)]; rfl, bd2_s, if_pos rfl, show f_X12_put K4 2 1 = _ from n5, btn2_l, if_pos (show nI 15 = 15 from rfl), show f_X12_usesLeft K5 1 = _ from q5, btn_l, if_pos (show nI 2 = 2 from rfl), show f_X12_effortTo K5 0 2 = some (.inl (nI (r + 3) * nI (w + 20), K6)) from q6, btn2_l, if_pos (by rw [er, ew])]
  exact h K6 a5 I6 Z5
