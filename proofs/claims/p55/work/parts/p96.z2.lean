/-! THE LAW: the known depot, from the beginning to the parcels -/
theorem z_1 {σ : gM} {r6 r9 x y : Int32} (h : ∀ K, zInv (fun _ => 0) aN0 K → f_Z2 K σ r6 r9 x y = some ()) : f_Z1 σ r6 r9 x y = some () := by
  have I0 : zInv (fun _ => 0) aN0 σ0 := ⟨0, 0, now_0, his_0, rfl⟩
  have V := now_0.2.2
  obtain ⟨τ1, e1, s1⟩ := q_isConsistent (zI_R I0)
  have I1 := zI_f I0 s1
  have e2 : f_X12_roadCount τ1 = some 0 := by
    unfold f_X12_roadCount f_X9_size
    rw [show τ1 2 4 = _ from (zI_R I1).1.2.1, show roadsN aN0 = 0 by decide +kernel]; rfl
  obtain ⟨τ2, e3, s3⟩ := q_handleable (zI_R I1)
  rw [show iI ((waN aN0 : Int) - lfI aN0) = 0 by decide +kernel] at e3
  have I2 := zI_f I1 s3
  have e4 : f_X12_mostFitting τ2 2 = some (.inl 0) := by
    have := q_mostFitting (zI_R I2) (k := 2) (by omega)
    rw [show fitN aN0 (aN0 (131 + 2) - loadN aN0 2) = 0 by decide +kernel] at this
    exact this
  obtain ⟨τ3, e5, s5⟩ := q_farthestPlace (zI_R I2) (s := 3) (by omega) (z0D_ok (s := 3) (by omega))
  have e5 : f_X12_farthestPlace τ2 3 = some (.inl (3, τ3)) := by
    rw [show fpN (z0D 3) 3 6 = 3 by decide +kernel] at e5
    exact e5
  have I3 := zI_f I2 (fun i i1 i2 i3 _ _ => s5 i i1 i2 i3)
  have e6 : f_X12_capacity τ3 0 = some (.inl 30) := q_capacity (zI_R I3) (j := 0) (by omega)
  obtain ⟨K1, k1, I4⟩ := z_no I3 (by omega) (cy_no1 V (k := 0) (d := 0) (by omega) (by omega) (aN0_z (by omega)))
  obtain ⟨K2, k2, I5⟩ := z_no I4 (by omega) (cy_no4 V (k := 0) (d := 1) (δ := z0D 0) (by omega) (by omega) (by rw [aN0_z (by omega)]; omega) (by rw [aN0_z (by omega)]; exact z0D_ok (by omega)) rfl)
  obtain ⟨K3, k3, I6⟩ := z_no I5 (by omega) (pu_no0 V (a1 := 0) (a2 := 0) (by unfold vp_in; decide))
  unfold f_Z1
  rw [e1, bd2_s, if_neg (by decide), e2, bd_s, if_pos rfl, e3, bd2_s, if_pos rfl, e4, btn_l, if_pos rfl, e5, btn2_l, if_pos rfl, e6, btn_l, if_pos rfl, show f_L_act τ3 6 0 0 0 = some (-2, K1) from by rw [act_6, show fD (fun τ => f_X3_bring τ 0 0) τ3 = _ from k1, actM_r (by omega)]; rfl, bd2_s, if_pos rfl, show f_L_act K1 6 0 1 0 = some (-5, K2) from by rw [act_6, show fD (fun τ => f_X3_bring τ 0 1) K1 = _ from k2, actM_r (by omega)]; rfl, bd2_s, if_pos rfl, show f_L_act K2 4 0 0 0 = some (-1, K3) from by rw [act_4, show fD (fun τ => f_X3_putIn τ 0 0) K2 = _ from k3, actM_r (by omega)]; rfl, bd2_s, if_pos rfl]
  exact h K3 I6
def zV (a : Nat → Nat) (r w m s0 k0 s1 k1 s2 k2 h0 h1 h2 g0 u0 g1 u1 q c : Nat) : Prop :=
  (∀ j, j < 36 → a j = zR r j) ∧ a 36 = 3 ∧ a 37 = m ∧ (a 40 = w ∧ a 41 = 20 ∧ a 42 = 15) ∧ (a 52 = h0 ∧ a 53 = h1 ∧ a 54 = h2) ∧ (a 64 = 2 ∧ a 65 = 1 ∧ a 66 = 2) ∧ (a 76 = s0 ∧ a 77 = s1 ∧ a 78 = s2) ∧ (a 88 = k0 ∧ a 89 = k1 ∧ a 90 = k2) ∧ (a 112 = g0 ∧ a 113 = g1) ∧ (a 120 = u0 ∧ a 121 = u1) ∧ a 128 = q ∧ a 131 = c ∧ a 133 = 30 ∧ a 132 = 30
def tx2 (x : Int32) : List Int32 := ((([] ++ (gByt.getD 31 [])) ++ [x + 48]) ++ (gByt.getD 32 []))
def tx2B (r : Nat) : Bool := (decide ((tx2 (nI r)).length ≤ 60) && (tx2 (nI r)).all (fun x => decide (vp_nar .char x = x))) && (lOkb (tx2 (nI r)) && decide (prs (hT (tx2 (nI r)).length (fun j => (tx2 (nI r)).getD j 0)) (tx2 (nI r)).length 10 0 = (true, 49, [(0, [0, 1, nI r]), (0, [1, 2, 3]), (0, [0, 2, 20]), (2, [2]), (2, [3])])))
theorem tx2_b : ((List.range 8).all fun r => tx2B (r + 1)) = true := by decide +kernel
theorem tx2_ok {r : Nat} (h1 : 1 ≤ r) (h2 : r ≤ 8) : (tx2 (nI r)).length ≤ 60 ∧ (tx2 (nI r)).all (fun x => decide (vp_nar .char x = x)) = true ∧ lOkb (tx2 (nI r)) = true ∧ prs (hT (tx2 (nI r)).length (fun j => (tx2 (nI r)).getD j 0)) (tx2 (nI r)).length 10 0 = (true, 49, [(0, [0, 1, nI r]), (0, [1, 2, 3]), (0, [0, 2, 20]), (2, [2]), (2, [3])]) := by
  have := List.all_eq_true.mp tx2_b (r - 1) (List.mem_range.mpr (by omega))
  rw [show r - 1 + 1 = r by omega] at this
  unfold tx2B at this
  rw [Bool.and_eq_true, Bool.and_eq_true, Bool.and_eq_true, decide_eq_true_eq, decide_eq_true_eq] at this
  exact ⟨this.1.1, this.1.2, this.2.1, this.2.2⟩
theorem z_2 {σ K0 : gM} {r6 r9 : Int32} {r w : Nat} (r1 : 1 ≤ r) (r2 : r ≤ 8) (w1 : 2 ≤ w) (w2 : w ≤ 11) (I0 : zInv (fun _ => 0) aN0 K0) (h : ∀ K a, zInv (fun _ => 0) a K → zV a r w 2 0 0 0 0 0 0 2 0 3 2 0 3 0 0 30 → f_Z3 K σ r6 r9 (nI r) (nI w) = some ()) : f_Z2 K0 σ r6 r9 (nI r) (nI w) = some () := by
  obtain ⟨t1, t2, t3, t4⟩ := tx2_ok r1 r2
  obtain ⟨c, nx, R, Hh, hz⟩ := I0
  have hx := Hh.2.1
  have V0 := R.2.2
  obtain ⟨d1, V1⟩ := rd_ok V0 (i := 0) (j := 1) (w := r) (by omega) (by omega) (by omega) r1 (by omega) rfl
  obtain ⟨d2, V2⟩ := rd_ok V1 (i := 1) (j := 2) (w := 3) (by omega) (by omega) (by omega) (by omega) (by omega) rfl
  obtain ⟨d3, V3⟩ := rd_ok V2 (i := 0) (j := 2) (w := 20) (by omega) (by omega) (by omega) (by omega) (by omega) rfl
  obtain ⟨d4, V4⟩ := by_ok V3 (g := 2) (by omega) (by omega) (by rw [show rdA (rdA (rdA aN0 0 1 r) 1 2 3) 0 2 20 37 = 0 from rfl]; omega)
  obtain ⟨d5, V5⟩ := by_ok V4 (g := 3) (by omega) (by omega) (by rw [show byA (rdA (rdA (rdA aN0 0 1 r) 1 2 3) 0 2 20) 2 37 = 1 from rfl]; omega)
  have ro : ∀ a, (0 : Int32) ≤ nI (roadsN a + 1) := fun a => by
    have : roadsN a ≤ 36 := roadsN_le a 6 (by omega)
    exact nI_ge0 (by omega)
  obtain ⟨σ1, u1, H1, o1⟩ := d_put (σ := K0) t1 t2 hz
  have R1 : nowR σ1 _ _ := now_f0 R (fun i q i1 i2 => by rw [o1 i (by omega) (by omega)])
  have Hh1 : hisD σ1 c nx := ⟨Hh.1, Hh.2.1, by rw [o1 199 (by omega) (by omega)]; exact Hh.2.2.1, by rw [o1 199 (by omega) (by omega)]; exact Hh.2.2.2⟩
  obtain ⟨K1, k1, R2, Hh2, -, k5, -⟩ := rc_done R1 Hh1 t1 H1 t4 (e' := fun _ => 0) (a' := byA (byA (rdA (rdA (rdA aN0 0 1 r) 1 2 3) 0 2 20) 2) 3) ⟨_, _, _, ro _, d1, _, _, _, ro _, d2, _, _, _, ro _, d3, _, _, _, nI_ge0 (j := rdA (rdA (rdA aN0 0 1 r) 1 2 3) 0 2 20 37) (by show 0 ≤ 4096; omega), d4, _, _, _, nI_ge0 (j := byA (rdA (rdA (rdA aN0 0 1 r) 1 2 3) 0 2 20) 2 37) (by show 1 ≤ 4096; omega), d5, rfl, rfl⟩ V5
  have k1 : f_X12_runCommands σ1 = some (.inl (5, K1)) := k1
  have I1 : zInv (fun _ => 0) (byA (byA (rdA (rdA (rdA aN0 0 1 r) 1 2 3) 0 2 20) 2) 3) K1 := ⟨_, _, R2, Hh2, k5⟩
  have F : (∀ j, j < 36 → byA (byA (rdA (rdA (rdA aN0 0 1 r) 1 2 3) 0 2 20) 2) 3 j = zR r j) := by
    intro j hj
    have e37 : rdA (rdA (rdA aN0 0 1 r) 1 2 3) 0 2 20 37 = 0 := rfl
    have e37' : byA (rdA (rdA (rdA aN0 0 1 r) 1 2 3) 0 2 20) 2 37 = 1 := rfl
    unfold byA at e37' ⊢
    rw [pt_n (by omega), pt_n (by omega), pt_n (by omega), pt_n (by omega), pt_n (by omega), pt_n (by omega)]
    unfold rdA pt zR
    have := aN0_z (j := j) (by omega)
    rw [this]
    by_cases c1 : j = 1
    · subst c1; rfl
    · by_cases c2 : j = 6
      · subst c2; rfl
      · by_cases c3 : j = 8
        · subst c3; rfl
        · by_cases c4 : j = 13
          · subst c4; rfl
          · by_cases c5 : j = 2
            · subst c5; rfl
            · by_cases c6 : j = 12
              · subst c6; rfl
              · rw [if_neg (by omega), if_neg (by omega), if_neg (by omega), if_neg (by omega), if_neg (by omega), if_neg (by omega), if_neg (by omega), if_neg (by omega), if_neg (by omega)]
  have h36 : byA (byA (rdA (rdA (rdA aN0 0 1 r) 1 2 3) 0 2 20) 2) 3 36 = 0 := rfl
  have G : ∀ j, j < 134 → j ≠ 36 → byA (byA (rdA (rdA (rdA aN0 0 1 r) 1 2 3) 0 2 20) 2) 3 j = byA (byA (rdA (rdA (rdA aN0 0 1 r) 1 2 3) 0 2 20) 2) 3 j := fun _ _ _ => rfl
  obtain ⟨K2, a1, n1, I2, q1⟩ : ∃ (K2 : gM) (a1 : Nat → Nat), f_X12_acceptParcel K1 (nI w) 2 2 = some (.inl (0, K2)) ∧ zInv (fun _ => 0) a1 K2 ∧ a1 = pt (pt (pt (pt (byA (byA (rdA (rdA (rdA aN0 0 1 r) 1 2 3) 0 2 20) 2) 3) 40 w) 52 2) 64 2) 36 1 := by
    obtain ⟨K2, n1, I2⟩ := z_ok I1 (nI_ge0 (by rw [h36]; omega)) (ac_ok2 V5 (w := w) (z := 2) (d := 2) (by omega) (by omega) (by omega) (by omega) (by rw [h36]; omega))
    exact ⟨K2, _, n1, I2, rfl⟩
  have b36 : a1 36 = 1 := by rw [q1]; rfl
  obtain ⟨K3, a2, n2, I3, q2⟩ : ∃ (K3 : gM) (a2 : Nat → Nat), f_X12_acceptParcel K2 20 0 1 = some (.inl (1, K3)) ∧ zInv (fun _ => 0) a2 K3 ∧ a2 = pt (pt (pt (pt a1 41 20) 53 0) 65 1) 36 2 := by
    obtain ⟨K3, n2, I3⟩ := z_ok I2 (nI_ge0 (by rw [b36]; omega)) (ac_ok2 (zI_R I2).2.2 (w := 20) (z := 0) (d := 1) (by omega) (by omega) (by omega) (by omega) (by rw [b36]; omega))
    rw [b36] at n2
    refine ⟨K3, _, n2, I3, ?_⟩
    unfold acA
    rw [b36]
  have c36 : a2 36 = 2 := by rw [q2]; rfl
  obtain ⟨K4, a3, n3, I4, q3⟩ : ∃ (K4 : gM) (a3 : Nat → Nat), f_X12_acceptParcel K3 15 3 2 = some (.inl (2, K4)) ∧ zInv (fun _ => 0) a3 K4 ∧ a3 = pt (pt (pt (pt a2 42 15) 54 3) 66 2) 36 3 := by
    obtain ⟨K4, n3, I4⟩ := z_ok I3 (nI_ge0 (by rw [c36]; omega)) (ac_ok2 (zI_R I3).2.2 (w := 15) (z := 3) (d := 2) (by omega) (by omega) (by omega) (by omega) (by rw [c36]; omega))
    rw [c36] at n3
    refine ⟨K4, _, n3, I4, ?_⟩
    unfold acA
    rw [c36]
  have Z : zV a3 r w 2 0 0 0 0 0 0 2 0 3 2 0 3 0 0 30 := by
    subst q3 q2 q1
    refine ⟨fun j hj => ?_, rfl, rfl, ⟨rfl, rfl, rfl⟩, ⟨rfl, rfl, rfl⟩, ⟨rfl, rfl, rfl⟩, ⟨rfl, rfl, rfl⟩, ⟨rfl, rfl, rfl⟩, ⟨rfl, rfl⟩, ⟨rfl, rfl⟩, rfl, rfl, rfl, rfl⟩
    rw [pt_n (by omega), pt_n (by omega), pt_n (by omega), pt_n (by omega), pt_n (by omega), pt_n (by omega), pt_n (by omega), pt_n (by omega), pt_n (by omega), pt_n (by omega), pt_n (by omega), pt_n (by omega)]
    exact F j hj
  unfold f_Z2
  rw [show gi (nI r) 10 _ = _ from nI_gi (n := 10) (by omega) (by omega), nm_s, gb_s (show lOkb ((([] ++ (gByt.getD 31 [])) ++ [nI r + 48]) ++ (gByt.getD 32 [])) = true from t3), show f_L_put K0 ((([] ++ (gByt.getD 31 [])) ++ [nI r + 48]) ++ (gByt.getD 32 [])) = some σ1 from u1, bd_s, k1, btn2_l, if_pos rfl, n1, btn2_l, if_pos rfl, n2, btn2_l, if_pos rfl, n3, btn2_l, if_pos rfl]
  exact h K4 a3 I4 Z
