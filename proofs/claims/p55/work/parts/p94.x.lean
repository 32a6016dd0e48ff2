/-! THE LAW: texts against calls -/
theorem rc_sym {e : Nat → Int32} {a : Nat → Nat} (V : vdR e a) {s : Nat} (r : rcB a 0 s) : rcB a s 0 := r (fun v => rcB a v 0) (fun _ p0 _ => p0) (fun u w hu hw hp ih P p0 ps => ih P (ps w u hw hu (by rw [← (V.2.2.1 u w hu hw).2]; exact hp) p0) ps)
theorem rc_e {a : Nat → Nat} {u v : Nat} (hu : u < 6) (hv : v < 6) (h : 0 < a (6 * u + v)) : rcB a u v := fun _ p0 ps => ps u v hu hv h p0
theorem rc_ne {e : Nat → Int32} {a δ : Nat → Nat} (V : vdR e a) {s v : Nat} (r : rcB a s v) (h : spR a s δ) : δ v ≠ 1000 := r (fun v => δ v ≠ 1000) (by rw [h.1]; omega) (fun u w hu hw hp hne => by
  have h1 := h.2.1 u w hu hw hp
  have h2 := h.2.2.2 u hu
  have h3 := h.2.2.2 w hw
  have h4 := (V.2.2.1 u w hu hw).1
  omega)
theorem carry_ok {e : Nat → Int32} {a : Nat → Nat} (V : vdR e a) (h1 : 0 < a 1) (hr : rcB a 0 (a 128)) {d : Nat} (hd : d ≤ 1) (hs : ¬ a 128 = d) : ∃ (v : Int32) (e' : Nat → Int32) (a' : Nat → Nat), 0 ≤ v ∧ okD (fun τ => f_X3_bring τ (nI 0) (nI d)) e a v e' a' ∧ vdR e' a' ∧ 0 < a' 1 ∧ rcB a' 0 (a' 128) ∧ a' 128 = d := by
  have h12 : a 36 ≤ 12 := V.1
  obtain ⟨v1, v2, v3, v4⟩ := V.2.2.2.2.2.2.2 0 (by omega)
  have hR0 : rdsR (fun i j => if i = 3 then nI (a j) else 0) a := ⟨fun i hi => if_pos rfl, fun i j hi hj => (V.2.2.1 i j hi hj).1, V.2.2.2.1⟩
  obtain ⟨δs, hδs⟩ := sp_ex hR0
  have hδ := hδs (a (128 + 0)) (by omega)
  have hinf : ¬ δs (a (128 + 0)) d = 1000 := by
    refine rc_ne V ?_ hδ
    refine rc_tr (rc_sym V hr) ?_
    rcases (show d = 0 ∨ d = 1 by omega) with rfl | rfl
    · exact fun _ p0 _ => p0
    · exact rc_e (by omega) (by omega) h1
  obtain ⟨c1, c2⟩ := cy_ok V (k := 0) (d := d) (by omega) (by omega) hs hδ hinf
  obtain ⟨g1, g2⟩ := cy_gP V (k := 0) (d := d) (by omega) (by omega) hδ hinf
  have e128 : cyA a 0 d (a 36) 128 = d := cyA_k (k := 0) h12
  refine ⟨_, _, _, nI_ge0 (by have := dvN_le (a := a) (k := 0) (d := d) h12; omega), c1, c2, g1 1 (by omega) h1, ?_, e128⟩
  rcases g2 with g2 | g2
  · rw [g2]; exact rc_mono g1 hr
  · exact rc_tr (rc_mono g1 hr) (rc_mono g1 g2)
def xInv (e : Nat → Int32) (a : Nat → Nat) (σ : gM) : Prop := ∃ c nx : Nat, nowR σ e a ∧ hisD σ c nx ∧ σ 204 2 = 0 ∧ blkR σ 1 e a ∧ σ 0 6 = 1
/-- a text is malformed at a position -/
theorem x_bad {σ : gM} {e : Nat → Int32} {a : Nat → Nat} (I : xInv e a σ) {tx : List Int32} {pos : Nat} {p : Int32} {cs : List (Nat × List Int32)} (hl : tx.length ≤ 60) (hc : tx.all (fun x => decide (vp_nar .char x = x)) = true) (hQ : prs (hT tx.length (fun j => tx.getD j 0)) tx.length 10 0 = (false, pos, cs)) (hp : pos ≤ 60) (hpp : p = nI pos) : ∃ K : gM, f_L_fails σ tx p = some (1, K) ∧ xInv e a K ∧ K 0 8 = σ 0 8 := by
  obtain ⟨c, nx, R, Hh, h2, hb, h6⟩ := I
  obtain ⟨σ1, e1, H1, o1⟩ := d_put hl hc h2
  have R1 : nowR σ1 e a := now_f0 R (fun i q i1 i2 => by rw [o1 i (by omega) (by omega)])
  have Hh1 : hisD σ1 c nx := ⟨Hh.1, Hh.2.1, by rw [o1 199 (by omega) (by omega)]; exact Hh.2.2.1, by rw [o1 199 (by omega) (by omega)]; exact Hh.2.2.2⟩
  obtain ⟨K, k1, k2, k3, k4, k5, k6⟩ := rc_bad R1 Hh1 hl H1 hQ hp
  refine ⟨K, ?_, ⟨c, nx, k2, k3, k5, blk_congr R.2.2.1 (fun o q y1 _ _ _ => by rw [k6 _ q (by omega) (by omega) (by omega), o1 _ (by omega) (by omega)]) (fun _ _ => rfl) hb, by rw [k6 0 6 (by omega) (by omega) (by omega), o1 0 (by omega) (by omega)]; exact h6⟩, by rw [k6 0 8 (by omega) (by omega) (by omega), o1 0 (by omega) (by omega)]⟩
  unfold f_L_fails f_L_runs
  rw [e1, bd_s, k1, bt2_r, if_pos rfl, bd2_s, if_pos rfl, q_error k4 (nI_ge0 (by omega)), btn_l, if_pos hpp.symm]
/-- a text of which a command is refused -/
theorem x_no {σ : gM} {e e1 : Nat → Int32} {a a1 : Nat → Nat} (I : xInv e a σ) {tx : List Int32} {pos n : Nat} {cs ys : List (Nat × List Int32)} {y : Nat × List Int32} (hl : tx.length ≤ 60) (hc : tx.all (fun x => decide (vp_nar .char x = x)) = true) (hQ : prs (hT tx.length (fun j => tx.getD j 0)) tx.length 10 0 = (true, pos, cs)) (hly : ys.length < cs.length) (hcy : ∀ j, j < ys.length → cg cs j = cg ys j) (hy0 : cg cs ys.length = y) (hs : seqOk ys e a e1 a1) (hn : n ≤ 4) (hy : noD (cD y.1 (ng y.2 0) (ng y.2 1) (ng y.2 2)) e1 a1 n) : ∃ K1 K : gM, f_L_put σ tx = some K1 ∧ f_L_runs K1 = some (-2, K) ∧ xInv e a K ∧ K 0 8 = nI ys.length := by
  obtain ⟨c, nx, R, Hh, h2, hb, h6⟩ := I
  obtain ⟨σ1, e1, H1, o1⟩ := d_put hl hc h2
  have R1 : nowR σ1 e a := now_f0 R (fun i q i1 i2 => by rw [o1 i (by omega) (by omega)])
  have Hh1 : hisD σ1 c nx := ⟨Hh.1, Hh.2.1, by rw [o1 199 (by omega) (by omega)]; exact Hh.2.2.1, by rw [o1 199 (by omega) (by omega)]; exact Hh.2.2.2⟩
  obtain ⟨K, k1, k2, k3, k4, k5, k6⟩ := rc_fail R1 Hh1 hl H1 hQ hly hcy hy0 hs hn hy
  have hx := Hh.2.1
  refine ⟨σ1, K, e1, ?_, ⟨c, nx, k2, k3, k5, blk_congr R.2.2.1 (fun o q y1 _ _ _ => by rw [k6 _ q (by omega) (by omega) (by omega) (by omega) (by omega), o1 _ (by omega) (by omega)]) (fun _ _ => rfl) hb, by rw [k6 0 6 (by omega) (by omega) (by omega) (by omega) (by omega), o1 0 (by omega) (by omega)]; exact h6⟩, k4⟩
  unfold f_L_runs
  rw [k1, bt2_r, if_neg (by decide), if_pos rfl]
theorem x_3 {L : Nat} {xs : Nat → Int32} {σ : gM} {e : Nat → Int32} {a : Nat → Nat} {r6 : Int32} (I : xInv e a σ) (h8 : σ 0 8 = 0) (hz : ∀ K, xInv e a K → f_Z0 L xs K r6 (stV e a) = some ()) : f_X3 L xs σ r6 (stV e a) = some () := by
  unfold f_X3
  obtain ⟨K1, e1, I1, o1⟩ := x_bad I (tx := gByt.getD 20 []) (pos := 1) (p := 1) (cs := []) (by decide +kernel) (by decide +kernel) (by decide +kernel) (by omega) (by decide)
  obtain ⟨K2, e2, I2, o2⟩ := x_bad I1 (tx := gByt.getD 21 []) (pos := 8) (p := 8) (cs := []) (by decide +kernel) (by decide +kernel) (by decide +kernel) (by omega) (by decide)
  obtain ⟨K3, e3, I3, o3⟩ := x_bad I2 (tx := gByt.getD 22 []) (pos := 6) (p := 6) (cs := []) (by decide +kernel) (by decide +kernel) (by decide +kernel) (by omega) (by decide)
  obtain ⟨K4, e4, I4, o4⟩ := x_bad I3 (tx := gByt.getD 23 []) (pos := 11) (p := 11) (cs := []) (by decide +kernel) (by decide +kernel) (by decide +kernel) (by omega) (by decide)
  obtain ⟨K5, e5, I5, o5⟩ := x_bad I4 (tx := gByt.getD 24 []) (pos := 7) (p := 7) (cs := []) (by decide +kernel) (by decide +kernel) (by decide +kernel) (by omega) (by decide)
  obtain ⟨K6, e6, I6, o6⟩ := x_bad I5 (tx := gByt.getD 25 []) (pos := 0) (p := 0) (cs := []) (by decide +kernel) (by decide +kernel) (by decide +kernel) (by omega) (by decide)
  obtain ⟨K7, e7, I7, o7⟩ := x_bad I6 (tx := gByt.getD 26 []) (pos := 6) (p := 6) (cs := [(4, [1])]) (by decide +kernel) (by decide +kernel) (by decide +kernel) (by omega) (by decide)
  obtain ⟨K8, e8, I8, o8⟩ := x_bad I7 (tx := gByt.getD 27 []) (pos := 7) (p := 7) (cs := []) (by decide +kernel) (by decide +kernel) (by decide +kernel) (by omega) (by decide)
  obtain ⟨K9, e9, I9, o9⟩ := x_bad I8 (tx := gByt.getD 28 []) (pos := 1) (p := 1) (cs := []) (by decide +kernel) (by decide +kernel) (by decide +kernel) (by omega) (by decide)
  obtain ⟨K10, e10, I10, o10⟩ := x_bad I9 (tx := gByt.getD 29 []) (pos := 4) (p := 4) (cs := []) (by decide +kernel) (by decide +kernel) (by decide +kernel) (by omega) (by decide)
  obtain ⟨K11, e11, I11, o11⟩ := x_bad I10 (tx := gByt.getD 30 []) (pos := 0) (p := 0) (cs := []) (by decide +kernel) (by decide +kernel) (by decide +kernel) (by omega) (by decide)
  have h8' : K11 0 8 = 0 := by rw [o11, o10, o9, o8, o7, o6, o5, o4, o3, o2, o1]; exact h8
  have I11' := I11
  obtain ⟨c, nx, R, -⟩ := I11'
  rw [e1, bd2_s, if_neg (by decide), e2, bd2_s, if_neg (by decide), e3, bd2_s, if_neg (by decide), e4, bd2_s, if_neg (by decide), e5, bd2_s, if_neg (by decide), e6, bd2_s, if_neg (by decide), e7, bd2_s, if_neg (by decide), e8, bd2_s, if_neg (by decide), e9, bd2_s, if_neg (by decide), e10, bd2_s, if_neg (by decide), e11, bd2_s, if_neg (by decide), q_failed h8' (by decide), btn_l, if_pos rfl, l_state R, bd_s, if_pos rfl]
  exact hz K11 I11
theorem gb_s {α : Type} {b : Bool} {A : Option α} (h : b = true) : gb b A = A := if_pos h
theorem cD_5 {x y w : Int32} : cD 5 x y w = fun τ => f_X3_bring τ x y := rfl
theorem cD_0 {x y w : Int32} : cD 0 x y w = fun τ => f_X3_joinPlaces τ x y w := rfl
theorem cD_2 {x y w : Int32} : cD 2 x y w = fun τ => f_X3_addGlove τ x := rfl
def tx62 (f : Int32) : List Int32 := (([] ++ (gByt.getD 16 [])) ++ [f + 48]) ++ (gByt.getD 18 [])
def tx18 (f : Int32) : List Int32 := ((([] ++ (gByt.getD 16 [])) ++ [f + 48]) ++ (gByt.getD 17 [])) ++ [(1 - f) + 48]
theorem tx62_ok : ∀ f, f < 2 → (tx62 (nI f)).length ≤ 60 ∧ (tx62 (nI f)).all (fun x => decide (vp_nar .char x = x)) = true ∧ lOkb (tx62 (nI f)) = true ∧ prs (hT (tx62 (nI f)).length (fun j => (tx62 (nI f)).getD j 0)) (tx62 (nI f)).length 10 0 = (true, 20, [(5, [0, nI f]), (0, [2, 2, 1])]) := by
  intro f hf
  rcases (show f = 0 ∨ f = 1 by omega) with rfl | rfl <;> exact ⟨by decide +kernel, by decide +kernel, by decide +kernel, by decide +kernel⟩
theorem tx18_ok : ∀ f, f < 2 → (tx18 (nI f)).length ≤ 60 ∧ (tx18 (nI f)).all (fun x => decide (vp_nar .char x = x)) = true ∧ lOkb (tx18 (nI f)) = true ∧ prs (hT (tx18 (nI f)).length (fun j => (tx18 (nI f)).getD j 0)) (tx18 (nI f)).length 10 0 = (true, 19, [(5, [0, nI f]), (5, [0, nI (1 - f)])]) := by
  intro f hf
  rcases (show f = 0 ∨ f = 1 by omega) with rfl | rfl <;> exact ⟨by decide +kernel, by decide +kernel, by decide +kernel, by decide +kernel⟩
theorem rd_22 {e : Nat → Int32} {a : Nat → Nat} : noD (fun τ => f_X3_joinPlaces τ (nI 2) (nI 2) (nI 1)) e a 1 := by
  refine noD_i (fun τ B => ?_)
  show f_X3_joinPlaces τ (nI 2) (nI 2) (nI 1) = _
  unfold f_X3_joinPlaces
  rw [show f_X12_isIndex τ (nI 2) 6 = _ from ix_ok (N := 6) (by omega) (by omega), bd_s, if_neg (by decide), bd_s, if_neg (by decide), if_pos rfl]; rfl
theorem x_2 {L : Nat} {xs : Nat → Int32} {σ : gM} {e : Nat → Int32} {a : Nat → Nat} {r6 : Int32} {f : Nat} (hf : f < 2) (hs : ¬ a 128 = f) (h1 : 0 < a 1) (hr : rcB a 0 (a 128)) (I : xInv e a σ) (hz : ∀ K, xInv e a K → f_Z0 L xs K r6 (stV e a) = some ()) : f_X2 L xs σ r6 (stV e a) (nI f) = some () := by
  have V : vdR e a := by
    obtain ⟨c, nx, R, -⟩ := I
    exact R.2.2
  obtain ⟨v, e1, a1, hv, c1, c2, c3, c4, c5⟩ := carry_ok V h1 hr (d := f) (by omega) hs
  obtain ⟨t1, t2, t3, t4⟩ := tx62_ok f hf
  obtain ⟨K1, K, p1, p2, I1, p4⟩ := x_no I (ys := [(5, [0, nI f])]) (y := (0, [2, 2, 1])) (n := 1) t1 t2 t4 (by show 1 < 2; omega) (fun j hj => by
    have hj : j < 1 := hj
    obtain rfl : j = 0 := by omega
    rfl) rfl ⟨v, e1, a1, hv, c1, rfl, rfl⟩ (by omega) rd_22
  have p4 : K 0 8 = 1 := p4
  have R1 : nowR K e a := by
    obtain ⟨c, nx, R, -⟩ := I1
    exact R
  obtain ⟨K2, K3, q1, q2, I3, q4⟩ := x_no I1 (tx := gByt.getD 19 []) (pos := 7) (cs := [(2, [4])]) (ys := []) (y := (2, [4])) (n := 1) (by decide +kernel) (by decide +kernel) (by decide +kernel) (by show 0 < 1; omega) (fun j hj => absurd hj (Nat.not_lt_zero _)) rfl ⟨rfl, rfl⟩ (by omega) (show noD (fun τ => f_X3_addGlove τ 4) e a 1 from by_no1 (fun τ => by unfold f_X12_isWithin; rw [if_neg (by decide), if_pos (by decide)]))
  have q4 : K3 0 8 = 0 := q4
  have R3 : nowR K3 e a := by
    obtain ⟨c, nx, R, -⟩ := I3
    exact R
  unfold f_X2
  rw [show gi (nI f) 10 _ = _ from nI_gi (n := 10) (by omega) (by omega), nm_s, gb_s (show lOkb ((([] ++ (gByt.getD 16 [])) ++ [nI f + 48]) ++ (gByt.getD 18 [])) = true from t3), show f_L_put σ ((([] ++ (gByt.getD 16 [])) ++ [nI f + 48]) ++ (gByt.getD 18 [])) = some K1 from p1, bd_s, p2, bd2_s, if_pos rfl, q_failed p4 (by decide), btn_l, if_pos rfl, l_state R1, bd_s, if_pos rfl, q1, bd_s, q2, bd2_s, if_pos rfl, q_failed q4 (by decide), btn_l, if_pos rfl, l_state R3, bd_s, if_pos rfl]
  exact x_3 I3 q4 hz
theorem x_1 {L : Nat} (hL : L ≤ 260) {xs : Nat → Int32} (hz : ∀ (e : Nat → Int32) (a : Nat → Nat) (K : gM), xInv e a K → f_Z0 L xs K (nI (a 36)) (stV e a) = some ()) : f_X1 L xs = some () := by
  obtain ⟨σ, eB, e, a, c, nx, R, Hh, h2, h1, hr⟩ := b_build hL xs
  have V := R.2.2
  have hc := Hh.1
  have hx := Hh.2.1
  obtain ⟨σ7, s1, R7, B7, s6, s7⟩ := d_save R
  have Hh7 : hisD σ7 c nx := ⟨hc, hx, (s7 199 1 (by omega) (by omega)).trans Hh.2.2.1, (s7 199 2 (by omega) (by omega)).trans Hh.2.2.2⟩
  have h27 : σ7 204 2 = 0 := (s7 204 2 (by omega) (by omega)).trans h2
  obtain ⟨f, hf, hfe, hne⟩ : ∃ f, f < 2 ∧ (if nI (a (128 + 0)) = 1 then some (0 : Int32) else some 1) = some (nI f) ∧ ¬ a 128 = f := by
    have h5 := (V.2.2.2.2.2.2.2 0 (by omega)).1
    by_cases q : a 128 = 1
    · refine ⟨0, by omega, ?_, by omega⟩
      rw [if_pos (by rw [show a (128 + 0) = 1 from q]; rfl)]; rfl
    · refine ⟨1, by omega, ?_, q⟩
      rw [if_neg (by rw [show (1 : Int32) = nI 1 from rfl, nI_inj (by omega) (by omega)]; exact q)]; rfl
  have e1f : (1 : Int32) - nI f = nI (1 - f) := by
    rcases (show f = 0 ∨ f = 1 by omega) with rfl | rfl <;> decide
  obtain ⟨t1, t2, t3, t4⟩ := tx18_ok f hf
  obtain ⟨v1, e1, a1, hv1, c1, V1, r1, r2, p1⟩ := carry_ok V h1 hr (d := f) (by omega) hne
  obtain ⟨v2, e2, a2, hv2, c2, V2, -, -, -⟩ := carry_ok V1 r1 r2 (d := 1 - f) (by omega) (by omega)
  -- by text
  obtain ⟨σ24, u1, H24, o24⟩ := d_put (σ := σ7) t1 t2 h27
  have R24 : nowR σ24 e a := now_f0 R7 (fun i q i1 i2 => by rw [o24 i (by omega) (by omega)])
  have Hh24 : hisD σ24 c nx := ⟨hc, hx, by rw [o24 199 (by omega) (by omega)]; exact Hh7.2.2.1, by rw [o24 199 (by omega) (by omega)]; exact Hh7.2.2.2⟩
  obtain ⟨σ27, k1, R27, Hh27, B27, k5, k6⟩ := rc_done R24 Hh24 t1 H24 t4 (e' := e2) (a' := a2) ⟨v1, e1, a1, hv1, c1, v2, e2, a2, hv2, c2, rfl, rfl⟩ V2
  have k1 : f_X12_runCommands σ24 = some (.inl (2, σ27)) := k1
  -- by calls
  obtain ⟨σ31, m1, R31, Hh31, B31, m5⟩ := chg_ok R Hh hv1 c1 V1
  obtain ⟨σ35, n1, R35, Hh35, B35, n5⟩ := chg_ok R31 Hh31 hv2 c2 V2
  -- undone
  have en : ((nx + 1) % 9 + 8) % 9 = nx := by omega
  have Hh27' : hisD σ27 (min c 7 + 1) ((nx + 1) % 9) := by rw [show min c 7 + 1 = min (c + 1) 8 by omega]; exact Hh27
  obtain ⟨σ44, w1, R44, Hh44, w4⟩ := d_undo Hh27' (by rw [en]; exact B27) V
  obtain ⟨d, hd⟩ : ∃ d, min (min (c + 1) 8 + 1) 8 = d + 2 := ⟨min (min (c + 1) 8 + 1) 8 - 2, by omega⟩
  have hx1 : (nx + 1) % 9 ≤ 8 := by omega
  have en2 : (((nx + 1) % 9 + 1) % 9 + 8) % 9 = (nx + 1) % 9 := by omega
  obtain ⟨σ51, y1, R51, Hh51, y4⟩ := d_undo (d := d + 1) (by rw [show d + 1 + 1 = d + 2 from rfl, ← hd]; exact Hh35) (by rw [en2]; exact B35) V1
  rw [en2] at Hh51
  have B51 : blkR σ51 (nx + 2) e a := blk_congr V.1 (fun o q q1 _ _ _ => by rw [y4 _ q (by omega) (by omega), n5 _ (by omega) (by omega) (by omega)]) (fun _ _ => rfl) B31
  obtain ⟨σ55, z1, R55, -, -⟩ := d_undo (d := d) Hh51 (by rw [en]; exact B51) V
  have X44 : xInv e a σ44 := by
    refine ⟨_, _, R44, Hh44, ?_, ?_, ?_⟩
    · rw [w4 204 2 (by omega) (by omega)]; exact k5
    · exact blk_congr V.1 (fun o q q1 _ _ _ => by rw [w4 _ q (by omega) (by omega), k6 _ q (by omega) (by omega) (by omega) (by omega) (by omega), o24 _ (by omega) (by omega)]) (fun _ _ => rfl) B7
    · rw [w4 0 6 (by omega) (by omega), k6 0 6 (by omega) (by omega) (by omega) (by omega) (by omega), o24 0 (by omega) (by omega)]; exact s6
  unfold f_X1
  rw [eB, bd_s, bd_s, s1, bd2_s, l_state R7, bd_s, show f_X12_place σ7 0 = _ from q_place R7 (j := 0) (by omega), btn_l, hfe, bd_s]
  rw [show gi (nI f) 10 _ = _ from nI_gi (n := 10) (by omega) (by omega), e1f, show gi (nI (1 - f)) 10 _ = _ from nI_gi (n := 10) (by omega) (by omega), nm_s]
  have t3' : lOkb (((([] ++ (gByt.getD 16 [])) ++ [nI f + 48]) ++ (gByt.getD 17 [])) ++ [nI (1 - f) + 48]) = true := by rw [← e1f]; exact t3
  have u1' : f_L_put σ7 (((([] ++ (gByt.getD 16 [])) ++ [nI f + 48]) ++ (gByt.getD 17 [])) ++ [nI (1 - f) + 48]) = some σ24 := by rw [← e1f]; exact u1
  rw [gb_s t3', u1', bd_s, k1, btn2_l, if_pos rfl, show f_X12_carry σ 0 (nI f) = some (.inl (v1, σ31)) from m1, btn2_l, if_neg (Int32.not_lt.mpr hv1), show f_X12_carry σ31 0 (nI (1 - f)) = some (.inl (v2, σ35)) from n1, btn2_l, if_neg (Int32.not_lt.mpr hv2), l_state R27, bd_s, l_state R35, bd_s, if_pos rfl, w1, btn2_l, if_neg (Int32.not_lt.mpr (nI_ge0 (by omega))), l_state R44, bd_s, if_pos rfl, y1, btn2_l, if_neg (Int32.not_lt.mpr (nI_ge0 (by have := Hh35.1; omega))), z1, btn2_l, if_neg (Int32.not_lt.mpr (nI_ge0 (by have := Hh35.1; omega))), l_state R55, bd_s, if_pos rfl]
  exact x_2 hf hne h1 hr X44 (hz e a)
