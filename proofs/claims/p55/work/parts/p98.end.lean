/-! THE LAW: the known depot, to its end -/
theorem z_5 {K0 σ : gM} {r6 r9 : Int32} {e : Nat → Int32} {a : Nat → Nat} {r w : Nat} (r1 : 1 ≤ r) (r2 : r ≤ 8) (w1 : 2 ≤ w) (w2 : w ≤ 11) (I : zInv e a K0) (E38 : e 38 = 0) (E39 : e 39 = 0) (E101 : e 101 = 0) (Z : zV a r w 2 1 0 1 0 1 1 2 0 3 2 1 3 1 0 31) (h : ∀ K e a, zInv e a K → e 39 = 0 → e 101 = 0 → zV a r w 2 2 0 2 0 1 1 2 0 3 2 1 3 1 2 31 → f_Z6 K σ r6 r9 = some ()) : f_Z5 K0 σ r6 r9 (nI r) (nI w) = some () := by
  obtain ⟨hR, h36, h37, ⟨h40, h41, h42⟩, ⟨h52, h53, h54⟩, ⟨h64, h65, h66⟩, ⟨h76, h77, h78⟩, ⟨h88, h89, h90⟩, ⟨h112, h113⟩, ⟨h120, h121⟩, h128, h131, h133, h132⟩ := id Z
  have ew : (nI w + 20 : Int32) = nI (w + 20) := nI_al (k := w) (i := 20) (by omega)
  -- carry 0 1
  have v0 : dvB a 0 1 0 = false := by
    show (decide (a 76 = 1) && (decide (a 88 = 0) && decide (a 64 = 1))) = false
    rw [h76, h88, h64]; rfl
  have v1 : dvB a 0 1 1 = true := by
    show (decide (a 77 = 1) && (decide (a 89 = 0) && decide (a 65 = 1))) = true
    rw [h77, h89, h65]; rfl
  have v2 : dvB a 0 1 2 = false := by
    show (decide (a 78 = 1) && (decide (a 90 = 0) && decide (a 66 = 1))) = false
    rw [h78, h90, h66]; rfl
  obtain ⟨K1, n1, I1⟩ := z_carry I (k := 0) (d := 1) (x := r) (l := w + 20) (δ := zD r 0) (n := 1) (by omega) (by omega) (by show ¬ a 128 = 1; omega) (by rw [show a (128 + 0) = 0 from h128]; exact zD_ok r1 r2 (by omega) hR) rfl (by omega) (by rw [zload Z]; rfl) (by rw [h36]; unfold dvN; simp [sm, v0, v1, v2])
  have Z1 : zV (cyA a 0 1 (a 36)) r w 2 1 0 2 0 1 1 2 0 3 2 1 3 1 1 31 := by
    have h12 : a 36 ≤ 12 := by omega
    have N : ∀ j, j < 76 ∨ 88 ≤ j → j ≠ 128 → cyA a 0 1 (a 36) j = a j := fun j q1 q2 => cyA_n q1 (by omega) h12
    exact ⟨fun j hj => (N j (by omega) (by omega)).trans (hR j hj), (N 36 (by omega) (by omega)).trans h36, (N 37 (by omega) (by omega)).trans h37, ⟨(N 40 (by omega) (by omega)).trans h40, (N 41 (by omega) (by omega)).trans h41, (N 42 (by omega) (by omega)).trans h42⟩, ⟨(N 52 (by omega) (by omega)).trans h52, (N 53 (by omega) (by omega)).trans h53, (N 54 (by omega) (by omega)).trans h54⟩, ⟨(N 64 (by omega) (by omega)).trans h64, (N 65 (by omega) (by omega)).trans h65, (N 66 (by omega) (by omega)).trans h66⟩, ⟨(cyA_p (p := 0) (by omega)).trans ((if_neg (fun q => by rw [v0] at q; exact absurd q.2 (by decide))).trans h76), (cyA_p (p := 1) (by omega)).trans (if_pos ⟨by omega, v1⟩), (cyA_p (p := 2) (by omega)).trans ((if_neg (fun q => by rw [v2] at q; exact absurd q.2 (by decide))).trans h78)⟩, ⟨(N 88 (by omega) (by omega)).trans h88, (N 89 (by omega) (by omega)).trans h89, (N 90 (by omega) (by omega)).trans h90⟩, ⟨(N 112 (by omega) (by omega)).trans h112, (N 113 (by omega) (by omega)).trans h113⟩, ⟨(N 120 (by omega) (by omega)).trans h120, (N 121 (by omega) (by omega)).trans h121⟩, cyA_k (k := 0) h12, (N 131 (by omega) (by omega)).trans h131, (N 133 (by omega) (by omega)).trans h133, (N 132 (by omega) (by omega)).trans h132⟩
  have E1 : pe e 38 (e 38 + nI r * nI (w + 20)) 38 = nI r * (nI w + 20) := by rw [pe_s, E38, Int32.zero_add, ew]
  have E1a : pe e 38 (e 38 + nI r * nI (w + 20)) 39 = 0 := (pe_n (by omega)).trans E39
  have E1b : pe e 38 (e 38 + nI r * nI (w + 20)) 101 = 0 := (pe_n (by omega)).trans E101
  generalize pe e 38 (e 38 + nI r * nI (w + 20)) = e1 at I1 E1 E1a E1b
  generalize cyA a 0 1 (a 36) = a1 at I1 Z1
  clear h36 h37 h40 h41 h42 h52 h53 h54 h64 h65 h66 h76 h77 h78 h88 h89 h90 h112 h113 h120 h121 h128 h131 h133 h132 hR v0 v1 v2
  obtain ⟨hR, h36, h37, ⟨h40, h41, h42⟩, ⟨h52, h53, h54⟩, ⟨h64, h65, h66⟩, ⟨h76, h77, h78⟩, ⟨h88, h89, h90⟩, ⟨h112, h113⟩, ⟨h120, h121⟩, h128, h131, h133, h132⟩ := id Z1
  have q1 := q_state (zI_R I1) (j := 1) (by omega)
  rw [show a1 (76 + 1) = 2 from h77] at q1
  have q2 := q_effortSoFar (zI_R I1)
  rw [E1] at q2
  have q3 := q_load (zI_R I1) (j := 0) (by omega)
  rw [zload Z1] at q3
  -- carry 0 2
  have v0 : dvB a1 0 2 0 = true := by
    show (decide (a1 76 = 1) && (decide (a1 88 = 0) && decide (a1 64 = 2))) = true
    rw [h76, h88, h64]; rfl
  have v1 : dvB a1 0 2 1 = false := by
    show (decide (a1 77 = 1) && (decide (a1 89 = 0) && decide (a1 65 = 2))) = false
    rw [h77, h89, h65]; rfl
  have v2 : dvB a1 0 2 2 = false := by
    show (decide (a1 78 = 1) && (decide (a1 90 = 0) && decide (a1 66 = 2))) = false
    rw [h78, h90, h66]; rfl
  obtain ⟨K2, n2, I2⟩ := z_carry I1 (k := 0) (d := 2) (x := 3) (l := w) (δ := zD r 1) (n := 1) (by omega) (by omega) (by show ¬ a1 128 = 2; omega) (by rw [show a1 (128 + 0) = 1 from h128]; exact zD_ok r1 r2 (by omega) hR) rfl (by omega) (by rw [zload Z1]; rfl) (by rw [h36]; unfold dvN; simp [sm, v0, v1, v2])
  have Z2 : zV (cyA a1 0 2 (a1 36)) r w 2 2 0 2 0 1 1 2 0 3 2 1 3 1 2 31 := by
    have h12 : a1 36 ≤ 12 := by omega
    have N : ∀ j, j < 76 ∨ 88 ≤ j → j ≠ 128 → cyA a1 0 2 (a1 36) j = a1 j := fun j q1 q2 => cyA_n q1 (by omega) h12
    exact ⟨fun j hj => (N j (by omega) (by omega)).trans (hR j hj), (N 36 (by omega) (by omega)).trans h36, (N 37 (by omega) (by omega)).trans h37, ⟨(N 40 (by omega) (by omega)).trans h40, (N 41 (by omega) (by omega)).trans h41, (N 42 (by omega) (by omega)).trans h42⟩, ⟨(N 52 (by omega) (by omega)).trans h52, (N 53 (by omega) (by omega)).trans h53, (N 54 (by omega) (by omega)).trans h54⟩, ⟨(N 64 (by omega) (by omega)).trans h64, (N 65 (by omega) (by omega)).trans h65, (N 66 (by omega) (by omega)).trans h66⟩, ⟨(cyA_p (p := 0) (by omega)).trans (if_pos ⟨by omega, v0⟩), (cyA_p (p := 1) (by omega)).trans ((if_neg (fun q => by rw [v1] at q; exact absurd q.2 (by decide))).trans h77), (cyA_p (p := 2) (by omega)).trans ((if_neg (fun q => by rw [v2] at q; exact absurd q.2 (by decide))).trans h78)⟩, ⟨(N 88 (by omega) (by omega)).trans h88, (N 89 (by omega) (by omega)).trans h89, (N 90 (by omega) (by omega)).trans h90⟩, ⟨(N 112 (by omega) (by omega)).trans h112, (N 113 (by omega) (by omega)).trans h113⟩, ⟨(N 120 (by omega) (by omega)).trans h120, (N 121 (by omega) (by omega)).trans h121⟩, cyA_k (k := 0) h12, (N 131 (by omega) (by omega)).trans h131, (N 133 (by omega) (by omega)).trans h133, (N 132 (by omega) (by omega)).trans h132⟩
  have E2 : pe e1 38 (e1 38 + nI 3 * nI w) 38 = nI r * (nI w + 20) + 3 * nI w := by rw [pe_s, E1]; rfl
  have E2a : pe e1 38 (e1 38 + nI 3 * nI w) 39 = 0 := (pe_n (by omega)).trans E1a
  have E2b : pe e1 38 (e1 38 + nI 3 * nI w) 101 = 0 := (pe_n (by omega)).trans E1b
  generalize pe e1 38 (e1 38 + nI 3 * nI w) = e2 at I2 E2 E2a E2b
  generalize cyA a1 0 2 (a1 36) = a2 at I2 Z2
  clear h36 h37 h40 h41 h42 h52 h53 h54 h64 h65 h66 h76 h77 h78 h88 h89 h90 h112 h113 h120 h121 h128 h131 h133 h132 hR v0 v1 v2
  obtain ⟨hR, h36, h37, ⟨h40, h41, h42⟩, ⟨h52, h53, h54⟩, ⟨h64, h65, h66⟩, ⟨h76, h77, h78⟩, ⟨h88, h89, h90⟩, ⟨h112, h113⟩, ⟨h120, h121⟩, h128, h131, h133, h132⟩ := id Z2
  have q4 := q_effortSoFar (zI_R I2)
  rw [E2] at q4
  have q5 := q_place (zI_R I2) (j := 0) (by omega)
  rw [show a2 (128 + 0) = 2 from h128] at q5
  obtain ⟨K3, n3, I3⟩ := z_no I2 (by omega) (to_no2 (zI_R I2).2.2 (p := 0) (by omega) (by show ¬ a2 76 = 1; omega))
  unfold f_Z5
  rw [show f_X12_carry K0 0 1 = _ from n1, btn2_l, if_pos (show nI 1 = 1 from rfl), show f_X12_state K1 1 = _ from q1, btn_l, if_pos (show stL 2 = 100 from rfl), q2, bd_s, if_pos rfl, show f_X12_load K1 0 = some (.inl (nI w)) from q3, btn_l, if_pos rfl, show f_X12_carry K1 0 2 = _ from n2, btn2_l, if_pos (show nI 1 = 1 from rfl), q4, bd_s, if_pos rfl, show f_X12_place K2 0 = _ from q5, btn_l, if_pos (show nI 2 = 2 from rfl), show f_L_act K2 5 0 0 0 = some (-3, K3) from by rw [act_5, show fD (fun τ => f_X3_pullOut τ 0) K2 = _ from n3, actM_r (by omega)]; rfl, bd2_s, if_pos rfl]
  exact h K3 e2 a2 I3 E2a E2b Z2
theorem z_6 {K0 σ : gM} {r6 r9 : Int32} {e : Nat → Int32} {a : Nat → Nat} {r w : Nat} (w1 : 2 ≤ w) (w2 : w ≤ 11) (I : zInv e a K0) (E39 : e 39 = 0) (E101 : e 101 = 0) (Z : zV a r w 2 2 0 2 0 1 1 2 0 3 2 1 3 1 2 31) (h : ∀ K e a, zInv e a K → e 39 = 0 → zV a r w 2 0 0 0 0 0 1 3 1 3 2 1 3 2 2 31 → f_Z7 K σ r6 r9 = some ()) : f_Z6 K0 σ r6 r9 = some () := by
  obtain ⟨hR, h36, h37, ⟨h40, h41, h42⟩, ⟨h52, h53, h54⟩, ⟨h64, h65, h66⟩, ⟨h76, h77, h78⟩, ⟨h88, h89, h90⟩, ⟨h112, h113⟩, ⟨h120, h121⟩, h128, h131, h133, h132⟩ := id Z
  have q0 := q_deliveredCount (zI_R I)
  rw [h36, show sm (fun p => if a (76 + p) = 2 then 1 else 0) 3 = 2 by simp [sm, h76, h77, h78]] at q0
  -- comeBack 0
  have hz0 : hzN a 0 = 3 := by
    unfold hzN
    rw [show a (52 + 0) = 2 from h52]; rfl
  obtain ⟨K1, n1, I1⟩ := z_ok I (nI_ge0 (by rw [hz0]; omega)) ⟨cb_ok (zI_R I).2.2 (p := 0) (by omega) h76, back_V (zI_R I).2.2 (p := 0) (by omega) h76⟩
  unfold bkA at I1
  rw [hz0] at n1 I1
  have Z1 : zV (pt (pt a (76 + 0) 0) (52 + 0) 3) r w 2 0 0 2 0 1 1 3 0 3 2 1 3 1 2 31 := ⟨fun j hj => (pt_n (by omega)).trans ((pt_n (by omega)).trans (hR j hj)), h36, h37, ⟨h40, h41, h42⟩, ⟨rfl, h53, h54⟩, ⟨h64, h65, h66⟩, ⟨rfl, h77, h78⟩, ⟨h88, h89, h90⟩, ⟨h112, h113⟩, ⟨h120, h121⟩, h128, h131, h133, h132⟩
  have E1a : bkE e 0 39 = 0 := (pe_n (by omega)).trans E39
  have E1b : bkE e 0 101 = 0 := (pe_n (by omega)).trans E101
  generalize bkE e 0 = e1 at I1 E1a E1b
  generalize pt (pt a (76 + 0) 0) (52 + 0) 3 = a1 at I1 Z1
  clear h36 h37 h40 h41 h42 h52 h53 h54 h64 h65 h66 h76 h77 h78 h88 h89 h90 h112 h113 h120 h121 h128 h131 h133 h132 hR hz0
  obtain ⟨hR, h36, h37, ⟨h40, h41, h42⟩, ⟨h52, h53, h54⟩, ⟨h64, h65, h66⟩, ⟨h76, h77, h78⟩, ⟨h88, h89, h90⟩, ⟨h112, h113⟩, ⟨h120, h121⟩, h128, h131, h133, h132⟩ := id Z1
  -- comeBack 1
  have hz1 : hzN a1 1 = 1 := by
    unfold hzN
    rw [show a1 (52 + 1) = 0 from h53]; rfl
  obtain ⟨K2, n2, I2⟩ := z_ok I1 (nI_ge0 (by rw [hz1]; omega)) ⟨cb_ok (zI_R I1).2.2 (p := 1) (by omega) h77, back_V (zI_R I1).2.2 (p := 1) (by omega) h77⟩
  unfold bkA at I2
  rw [hz1] at n2 I2
  have Z2 : zV (pt (pt a1 (76 + 1) 0) (52 + 1) 1) r w 2 0 0 0 0 1 1 3 1 3 2 1 3 1 2 31 := ⟨fun j hj => (pt_n (by omega)).trans ((pt_n (by omega)).trans (hR j hj)), h36, h37, ⟨h40, h41, h42⟩, ⟨h52, rfl, h54⟩, ⟨h64, h65, h66⟩, ⟨h76, rfl, h78⟩, ⟨h88, h89, h90⟩, ⟨h112, h113⟩, ⟨h120, h121⟩, h128, h131, h133, h132⟩
  have E2a : bkE e1 1 39 = 0 := (pe_n (by omega)).trans E1a
  have E2b : bkE e1 1 101 = 1 := by
    show e1 101 + 1 = 1
    rw [E1b]; rfl
  generalize bkE e1 1 = e2 at I2 E2a E2b
  generalize pt (pt a1 (76 + 1) 0) (52 + 1) 1 = a2 at I2 Z2
  clear h36 h37 h40 h41 h42 h52 h53 h54 h64 h65 h66 h76 h77 h78 h88 h89 h90 h112 h113 h120 h121 h128 h131 h133 h132 hR hz1
  obtain ⟨hR, h36, h37, ⟨h40, h41, h42⟩, ⟨h52, h53, h54⟩, ⟨h64, h65, h66⟩, ⟨h76, h77, h78⟩, ⟨h88, h89, h90⟩, ⟨h112, h113⟩, ⟨h120, h121⟩, h128, h131, h133, h132⟩ := id Z2
  obtain ⟨K3, n3, I3⟩ := z_no I2 (by omega) (cb_no2 (zI_R I2).2.2 (p := 1) (by omega) (by show ¬ a2 77 = 2; omega))
  have q1 := q_returns (zI_R I3) (j := 1) (by omega)
  rw [show e2 (100 + 1) = 1 from E2b] at q1
  have q2 := q_gloveFor (zI_R I3) (j := 0) (g := 1) (by omega) (by show ¬ a2 52 = 0; omega) (by show bst a2 (a2 52) (a2 37) = 2; rw [h52, h37, bst_2 ⟨h112, h113⟩ ⟨h120, h121⟩]; rfl)
  have q3 := q_gloveFor (zI_R I3) (j := 1) (g := 0) (by omega) (by show ¬ a2 53 = 0; omega) (by show bst a2 (a2 53) (a2 37) = 1; rw [h53, h37, bst_2 ⟨h112, h113⟩ ⟨h120, h121⟩]; rfl)
  -- takeOut 2
  have b2 : bst a2 (a2 (52 + 2)) (a2 37) = 1 + 1 := by
    show bst a2 (a2 54) (a2 37) = 2
    rw [h54, h37, bst_2 ⟨h112, h113⟩ ⟨h120, h121⟩]; rfl
  obtain ⟨x1, x2⟩ := hd1 (e := e2) (p := 2) (u := 2) (by show ¬ a2 54 = 0; omega) b2 (by show a2 121 + 1 = 2; omega) (by omega)
  have o := to_ok (zI_R I3).2.2 (p := 2) (by omega) h78 (sf_b b2)
  rw [x1, x2, show a2 (88 + 2) = 1 from h90] at o
  obtain ⟨K4, n4, I4⟩ := z_ok I3 (nI_ge0 (by omega)) o
  have Z4 : zV (pt (pt a2 (120 + 1) 2) (76 + 2) 0) r w 2 0 0 0 0 0 1 3 1 3 2 1 3 2 2 31 := ⟨fun j hj => (pt_n (by omega)).trans ((pt_n (by omega)).trans (hR j hj)), h36, h37, ⟨h40, h41, h42⟩, ⟨h52, h53, h54⟩, ⟨h64, h65, h66⟩, ⟨h76, h77, rfl⟩, ⟨h88, h89, h90⟩, ⟨h112, h113⟩, ⟨h120, rfl⟩, h128, h131, h133, h132⟩
  generalize pt (pt a2 (120 + 1) 2) (76 + 2) 0 = a4 at I4 Z4
  clear h36 h37 h40 h41 h42 h52 h53 h54 h64 h65 h66 h76 h77 h78 h88 h89 h90 h112 h113 h120 h121 h128 h131 h133 h132 hR b2 x1 x2 o
  obtain ⟨hR, h36, h37, ⟨h40, h41, h42⟩, ⟨h52, h53, h54⟩, ⟨h64, h65, h66⟩, ⟨h76, h77, h78⟩, ⟨h88, h89, h90⟩, ⟨h112, h113⟩, ⟨h120, h121⟩, h128, h131, h133, h132⟩ := id Z4
  have q4 := q_usesLeft (zI_R I4) (j := 1) (by omega)
  rw [show 3 - a4 (120 + 1) = 1 from by show 3 - a4 121 = 1; omega] at q4
  have eh : iI ((waN a4 : Int) - lfI a4) = 2 := by
    have x1 : waN a4 = 3 := by unfold waN; rw [h36]; simp [sm, h76, h77, h78]
    have x2 : wgN a4 1 = 3 := by unfold wgN; rw [h36]; simp [sm, h76, h77, h78, h52, h53, h54]
    have x3 : wgN a4 2 = 2 := by unfold wgN; rw [h36]; simp [sm, h76, h77, h78, h52, h53, h54]
    have x4 : wgN a4 3 = 2 := by unfold wgN; rw [h36]; simp [sm, h76, h77, h78, h52, h53, h54]
    have y2 : usN a4 1 = 3 := by unfold usN; rw [h37]; simp [sm, h112, h113, h120, h121]
    have y3 : usN a4 2 = 3 := by unfold usN; rw [h37]; simp [sm, h112, h113, h120, h121]
    have y4 : usN a4 3 = 1 := by unfold usN; rw [h37]; simp [sm, h112, h113, h120, h121]
    unfold lfI shI
    rw [x1, x2, x3, x4, y2, y3, y4]
    decide
  obtain ⟨K5, q5, o5⟩ := q_handleable (zI_R I4)
  rw [eh] at q5
  have I5 := zI_f I4 o5
  unfold f_Z6
  rw [q0, bd_s, if_pos (show nI 2 = 2 from rfl), show f_X12_comeBack K0 0 = _ from n1, btn2_l, if_pos (show nI 3 = 3 from rfl), show f_X12_comeBack K1 1 = _ from n2, btn2_l, if_pos (show nI 1 = 1 from rfl), show f_L_act K2 7 1 0 0 = some (-3, K3) from by rw [act_7, show fD (fun τ => f_X3_takeBack τ 1) K2 = _ from n3, actM_r (by omega)]; rfl, bd2_s, if_pos rfl, show f_X12_returns K3 1 = _ from q1, btn_l, if_pos rfl, show f_X12_gloveFor K3 0 = _ from q2, btn_l, if_pos (show nI 1 = 1 from rfl), show f_X12_gloveFor K3 1 = _ from q3, btn_l, if_pos (show nI 0 = 0 from rfl), show f_X12_takeOut K3 2 = _ from n4, btn2_l, if_pos (show nI 1 = 1 from rfl), show f_X12_usesLeft K4 1 = _ from q4, btn_l, if_pos (show nI 1 = 1 from rfl), q5, bd2_s, if_pos rfl]
  exact h K5 e2 a4 I5 E2a Z4
