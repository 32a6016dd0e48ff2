/-! the reference reads a command -/
def nsM (z : gM) (b : Nat) (ns : List Int32) : Prop := ∀ j, j < ns.length → z 227 (b + 1 + j) = ng ns j
def stM (z : gM) (t b k : Nat) (R : Bool × Nat × List Int32) : Prop := rpr z t R ∧ (R.1 = true → R.2.2.length = k ∧ nsM z b R.2.2)
def frB (z z' : gM) (b : Nat) : Prop := ∀ i q, ¬ (i = 219 ∧ (q = 14 ∨ q = 15)) → ¬ (i = 227 ∧ b < q ∧ q < b + 4) → z' i q = z i q
theorem frB.rf {z : gM} {b : Nat} : frB z z b := fun _ _ _ _ => rfl
theorem frB.tr {z y x : gM} {b : Nat} (h : frB z y b) (k : frB y x b) : frB z x b := fun i q i1 i2 => (k i q i1 i2).trans (h i q i1 i2)
theorem frB_R {z z' : gM} {t b : Nat} {T : Nat → Int32} (h : frB z z' b) (H : RT z t T) : RT z' t T := ⟨(h 219 7 (by omega) (by omega)).trans H.1, fun j hj => (h 224 j (by omega) (by omega)).trans (H.2 j hj)⟩
theorem ext_1 {h : Nat → Int32} {R : Bool × Nat × List Int32} {c : Int32} (e : (ext h R [c]).1 = true) : R.1 = true := by
  by_cases q : R.1 = true
  · exact q
  · rw [show ext h R [c] = R from if_neg q] at e; exact absurd e q
theorem ext_t {h : Nat → Int32} {p : Nat} {ns L : List Int32} : ext h (true, p, ns) L = pm h L p ns := if_pos rfl
theorem P_needs {z : gM} {t b k : Nat} {T : Nat → Int32} {R : Bool × Nat × List Int32} (c : Int32) (H : RT z t T) (ht : t ≤ 60) (hS : stM z t b k R) (c1 : c ≠ 35) (c2 : c ≠ 37) (c3 : c ≠ -1) : ∃ z' : gM, f_X13_needs z c = some z' ∧ RT z' t T ∧ stM z' t b k (ext (hT t T) R [c]) ∧ frB z z' b := by
  obtain ⟨z', n1, n2, n3, n4⟩ := m_needs H ht hS.1 c1 c2 c3
  refine ⟨z', n1, frP_R n3 H, ⟨n2, fun e => ?_⟩, fun i q i1 _ => n3 i q i1⟩
  obtain ⟨l1, l2⟩ := hS.2 (ext_1 e)
  rw [n4 e]
  exact ⟨l1, fun j hj => (n3 _ _ (by omega)).trans (l2 j hj)⟩
theorem P_three {z : gM} {t b k : Nat} {T : Nat → Int32} {R : Bool × Nat × List Int32} (x y w : Int32) (H : RT z t T) (ht : t ≤ 60) (hS : stM z t b k R) (x1 : x ≠ 35) (x2 : x ≠ 37) (x3 : x ≠ -1) (y1 : y ≠ 35) (y2 : y ≠ 37) (y3 : y ≠ -1) (w1 : w ≠ 35) (w2 : w ≠ 37) (w3 : w ≠ -1) : ∃ z' : gM, f_X13_needsThree z x y w = some z' ∧ RT z' t T ∧ stM z' t b k (ext (hT t T) R [x, y, w]) ∧ frB z z' b := by
  obtain ⟨z1, a1, a2, a3, a4⟩ := P_needs x H ht hS x1 x2 x3
  obtain ⟨z2, b1, b2, b3, b4⟩ := P_needs y a2 ht a3 y1 y2 y3
  obtain ⟨z3, c1, c2, c3, c4⟩ := P_needs w b2 ht b3 w1 w2 w3
  refine ⟨z3, ?_, c2, ?_, (a4.tr b4).tr c4⟩
  · unfold f_X13_needsThree
    rw [a1, bd_s, b1, bd_s, c1, bd_s]
  · rw [ext_app, ext_app] at c3
    exact c3
theorem P_dig {z : gM} {t b k m : Nat} {T : Nat → Int32} {R : Bool × Nat × List Int32} (c d : Int32) (H : RT z t T) (ht : t ≤ 60) (hS : stM z t b k R) (c1 : c ≠ 35) (c2 : c ≠ 37) (c3 : c ≠ -1) (hm : (m = 1 ∧ d = 35) ∨ (m = 2 ∧ d = 37)) (hk : k ≤ 2) {w : Int32} (hw : w = nI m) : ∃ (v : Int32) (z' : gM), f_X13_digitsAfter z c w = some (v, z') ∧ RT (mset z' 227 (b + 1 + k) v) t T ∧ stM (mset z' 227 (b + 1 + k) v) t b (k + 1) (ext (hT t T) R [c, d]) ∧ frB z (mset z' 227 (b + 1 + k) v) b := by
  subst hw
  obtain ⟨v, z', n1, n2, n3, n4⟩ := m_digits H ht hS.1 c1 c2 c3 hm
  have fr : frB z (mset z' 227 (b + 1 + k) v) b := fun i q i1 i2 => by
    rw [← n3 i q i1]
    by_cases hi : i = 227
    · subst hi; exact mset_ne2 _ _ (by omega)
    · exact mset_ne1 _ _ hi
  refine ⟨v, z', n1, frB_R fr H, ⟨⟨(mset_ne1 _ _ (by decide)).trans n2.1, (mset_ne1 _ _ (by decide)).trans n2.2.1, n2.2.2⟩, fun e => ?_⟩, fr⟩
  obtain ⟨e1, e2⟩ := n4 e
  obtain ⟨l1, l2⟩ := hS.2 e1
  rw [e2]
  refine ⟨by rw [List.length_append, List.length_singleton, l1], fun j hj => ?_⟩
  rw [List.length_append, List.length_singleton] at hj
  by_cases hjk : j = k
  · subst hjk
    rw [mset_same, ← l1, ng_end]
  · rw [mset_ne2 _ _ (by omega), n3 _ _ (by omega), ng_app (by omega)]
    exact l2 j (by omega)
theorem m_back {z : gM} {t b p : Nat} {T : Nat → Int32} (H : RT z t T) (ht : t ≤ 60) (hS : stM z t b 0 (true, p + 1, [])) (hb : b + 4 ≤ 240) : ∃ z' : gM, (bd (f_X13_needsThree z 97 99 107) fun y1 =>
    bd2 (f_X13_digitsAfter y1 32 2) fun v2 y2 =>
    gi (nI b + 1) 240 <|
    nm (mset y2 227 ((nI b + 1).toNatClampNeg) v2) fun y2' =>
    some y2') = some z' ∧ stM z' t b 1 (pm (hT t T) [97, 99, 107, 32, 37] (p + 1) []) ∧ frB z z' b := by
  obtain ⟨y1, a1, H1, S1, F1⟩ := P_three 97 99 107 H ht hS (by decide) (by decide) (by decide) (by decide) (by decide) (by decide) (by decide) (by decide) (by decide)
  obtain ⟨v2, y2, a2, H2, S2, F2⟩ := P_dig (k := 0) (m := 2) 32 37 H1 ht S1 (by decide) (by decide) (by decide) (Or.inr ⟨rfl, rfl⟩) (by omega) (w := 2) rfl
  refine ⟨(mset y2 227 (b + 1 + 0) v2), ?_, ?_, (F1.tr F2)⟩
  · rw [a1, bd_s, a2, bd2_s, show nI b + 1 = nI (b + 1) from nI_al (k := b) (i := 1) (by omega), nI_gi (by omega) (by omega), g_nIc (by omega), nm_s]
  · simp only [ext_app, List.cons_append, List.nil_append] at S2
    rw [ext_t] at S2
    exact S2
theorem m_carry {z : gM} {t b p : Nat} {T : Nat → Int32} (H : RT z t T) (ht : t ≤ 60) (hS : stM z t b 0 (true, p + 1, [])) (hb : b + 4 ≤ 240) : ∃ z' : gM, (bd (f_X13_needsThree z 97 114 114) fun y1 =>
    bd (f_X13_needs y1 121) fun y2 =>
    bd2 (f_X13_digitsAfter y2 32 1) fun v3 y3 =>
    gi (nI b + 1) 240 <|
    nm (mset y3 227 ((nI b + 1).toNatClampNeg) v3) fun y3' =>
    bd2 (f_X13_digitsAfter y3' 32 1) fun v4 y4 =>
    gi (nI b + 2) 240 <|
    nm (mset y4 227 ((nI b + 2).toNatClampNeg) v4) fun y4' =>
    some y4') = some z' ∧ stM z' t b 2 (pm (hT t T) [97, 114, 114, 121, 32, 35, 32, 35] (p + 1) []) ∧ frB z z' b := by
  obtain ⟨y1, a1, H1, S1, F1⟩ := P_three 97 114 114 H ht hS (by decide) (by decide) (by decide) (by decide) (by decide) (by decide) (by decide) (by decide) (by decide)
  obtain ⟨y2, a2, H2, S2, F2⟩ := P_needs 121 H1 ht S1 (by decide) (by decide) (by decide)
  obtain ⟨v3, y3, a3, H3, S3, F3⟩ := P_dig (k := 0) (m := 1) 32 35 H2 ht S2 (by decide) (by decide) (by decide) (Or.inl ⟨rfl, rfl⟩) (by omega) (w := 1) rfl
  obtain ⟨v4, y4, a4, H4, S4, F4⟩ := P_dig (k := 1) (m := 1) 32 35 H3 ht S3 (by decide) (by decide) (by decide) (Or.inl ⟨rfl, rfl⟩) (by omega) (w := 1) rfl
  refine ⟨(mset y4 227 (b + 1 + 1) v4), ?_, ?_, (((F1.tr F2).tr F3).tr F4)⟩
  · rw [a1, bd_s, a2, bd_s, a3, bd2_s, show nI b + 1 = nI (b + 1) from nI_al (k := b) (i := 1) (by omega), nI_gi (by omega) (by omega), g_nIc (by omega), nm_s, show mset y3 227 (b + 1) v3 = mset y3 227 (b + 1 + 0) v3 from rfl, a4, bd2_s, show nI b + 2 = nI (b + 2) from nI_al (k := b) (i := 2) (by omega), nI_gi (by omega) (by omega), g_nIc (by omega), nm_s]
  · simp only [ext_app, List.cons_append, List.nil_append] at S4
    rw [ext_t] at S4
    exact S4
theorem m_glove {z : gM} {t b p : Nat} {T : Nat → Int32} (H : RT z t T) (ht : t ≤ 60) (hS : stM z t b 0 (true, p + 1, [])) (hb : b + 4 ≤ 240) : ∃ z' : gM, (bd (f_X13_needsThree z 108 111 118) fun y1 =>
    bd (f_X13_needs y1 101) fun y2 =>
    bd2 (f_X13_digitsAfter y2 32 1) fun v3 y3 =>
    gi (nI b + 1) 240 <|
    nm (mset y3 227 ((nI b + 1).toNatClampNeg) v3) fun y3' =>
    some y3') = some z' ∧ stM z' t b 1 (pm (hT t T) [108, 111, 118, 101, 32, 35] (p + 1) []) ∧ frB z z' b := by
  obtain ⟨y1, a1, H1, S1, F1⟩ := P_three 108 111 118 H ht hS (by decide) (by decide) (by decide) (by decide) (by decide) (by decide) (by decide) (by decide) (by decide)
  obtain ⟨y2, a2, H2, S2, F2⟩ := P_needs 101 H1 ht S1 (by decide) (by decide) (by decide)
  obtain ⟨v3, y3, a3, H3, S3, F3⟩ := P_dig (k := 0) (m := 1) 32 35 H2 ht S2 (by decide) (by decide) (by decide) (Or.inl ⟨rfl, rfl⟩) (by omega) (w := 1) rfl
  refine ⟨(mset y3 227 (b + 1 + 0) v3), ?_, ?_, ((F1.tr F2).tr F3)⟩
  · rw [a1, bd_s, a2, bd_s, a3, bd2_s, show nI b + 1 = nI (b + 1) from nI_al (k := b) (i := 1) (by omega), nI_gi (by omega) (by omega), g_nIc (by omega), nm_s]
  · simp only [ext_app, List.cons_append, List.nil_append] at S3
    rw [ext_t] at S3
    exact S3
theorem m_out {z : gM} {t b p : Nat} {T : Nat → Int32} (H : RT z t T) (ht : t ≤ 60) (hS : stM z t b 0 (true, p + 1, [])) (hb : b + 4 ≤ 240) : ∃ z' : gM, (bd (f_X13_needs z 117) fun y1 =>
    bd (f_X13_needs y1 116) fun y2 =>
    bd2 (f_X13_digitsAfter y2 32 2) fun v3 y3 =>
    gi (nI b + 1) 240 <|
    nm (mset y3 227 ((nI b + 1).toNatClampNeg) v3) fun y3' =>
    some y3') = some z' ∧ stM z' t b 1 (pm (hT t T) [117, 116, 32, 37] (p + 1) []) ∧ frB z z' b := by
  obtain ⟨y1, a1, H1, S1, F1⟩ := P_needs 117 H ht hS (by decide) (by decide) (by decide)
  obtain ⟨y2, a2, H2, S2, F2⟩ := P_needs 116 H1 ht S1 (by decide) (by decide) (by decide)
  obtain ⟨v3, y3, a3, H3, S3, F3⟩ := P_dig (k := 0) (m := 2) 32 37 H2 ht S2 (by decide) (by decide) (by decide) (Or.inr ⟨rfl, rfl⟩) (by omega) (w := 2) rfl
  refine ⟨(mset y3 227 (b + 1 + 0) v3), ?_, ?_, ((F1.tr F2).tr F3)⟩
  · rw [a1, bd_s, a2, bd_s, a3, bd2_s, show nI b + 1 = nI (b + 1) from nI_al (k := b) (i := 1) (by omega), nI_gi (by omega) (by omega), g_nIc (by omega), nm_s]
  · simp only [ext_app, List.cons_append, List.nil_append] at S3
    rw [ext_t] at S3
    exact S3
theorem m_parcel {z : gM} {t b p : Nat} {T : Nat → Int32} (H : RT z t T) (ht : t ≤ 60) (hS : stM z t b 0 (true, p + 1, [])) (hb : b + 4 ≤ 240) : ∃ z' : gM, (bd (f_X13_needsThree z 97 114 99) fun y1 =>
    bd (f_X13_needs y1 101) fun y2 =>
    bd (f_X13_needs y2 108) fun y3 =>
    bd2 (f_X13_digitsAfter y3 32 2) fun v4 y4 =>
    gi (nI b + 1) 240 <|
    nm (mset y4 227 ((nI b + 1).toNatClampNeg) v4) fun y4' =>
    bd2 (f_X13_digitsAfter y4' 32 1) fun v5 y5 =>
    gi (nI b + 2) 240 <|
    nm (mset y5 227 ((nI b + 2).toNatClampNeg) v5) fun y5' =>
    bd2 (f_X13_digitsAfter y5' 32 1) fun v6 y6 =>
    gi (nI b + 3) 240 <|
    nm (mset y6 227 ((nI b + 3).toNatClampNeg) v6) fun y6' =>
    some y6') = some z' ∧ stM z' t b 3 (pm (hT t T) [97, 114, 99, 101, 108, 32, 37, 32, 35, 32, 35] (p + 1) []) ∧ frB z z' b := by
  obtain ⟨y1, a1, H1, S1, F1⟩ := P_three 97 114 99 H ht hS (by decide) (by decide) (by decide) (by decide) (by decide) (by decide) (by decide) (by decide) (by decide)
  obtain ⟨y2, a2, H2, S2, F2⟩ := P_needs 101 H1 ht S1 (by decide) (by decide) (by decide)
  obtain ⟨y3, a3, H3, S3, F3⟩ := P_needs 108 H2 ht S2 (by decide) (by decide) (by decide)
  obtain ⟨v4, y4, a4, H4, S4, F4⟩ := P_dig (k := 0) (m := 2) 32 37 H3 ht S3 (by decide) (by decide) (by decide) (Or.inr ⟨rfl, rfl⟩) (by omega) (w := 2) rfl
  obtain ⟨v5, y5, a5, H5, S5, F5⟩ := P_dig (k := 1) (m := 1) 32 35 H4 ht S4 (by decide) (by decide) (by decide) (Or.inl ⟨rfl, rfl⟩) (by omega) (w := 1) rfl
  obtain ⟨v6, y6, a6, H6, S6, F6⟩ := P_dig (k := 2) (m := 1) 32 35 H5 ht S5 (by decide) (by decide) (by decide) (Or.inl ⟨rfl, rfl⟩) (by omega) (w := 1) rfl
  refine ⟨(mset y6 227 (b + 1 + 2) v6), ?_, ?_, (((((F1.tr F2).tr F3).tr F4).tr F5).tr F6)⟩
  · rw [a1, bd_s, a2, bd_s, a3, bd_s, a4, bd2_s, show nI b + 1 = nI (b + 1) from nI_al (k := b) (i := 1) (by omega), nI_gi (by omega) (by omega), g_nIc (by omega), nm_s, show mset y4 227 (b + 1) v4 = mset y4 227 (b + 1 + 0) v4 from rfl, a5, bd2_s, show nI b + 2 = nI (b + 2) from nI_al (k := b) (i := 2) (by omega), nI_gi (by omega) (by omega), g_nIc (by omega), nm_s, show mset y5 227 (b + 2) v5 = mset y5 227 (b + 1 + 1) v5 from rfl, a6, bd2_s, show nI b + 3 = nI (b + 3) from nI_al (k := b) (i := 3) (by omega), nI_gi (by omega) (by omega), g_nIc (by omega), nm_s]
  · simp only [ext_app, List.cons_append, List.nil_append] at S6
    rw [ext_t] at S6
    exact S6
theorem m_put {z : gM} {t b p : Nat} {T : Nat → Int32} (H : RT z t T) (ht : t ≤ 60) (hS : stM z t b 0 (true, p + 1, [])) (hb : b + 4 ≤ 240) : ∃ z' : gM, (bd (f_X13_needs z 117) fun y1 =>
    bd (f_X13_needs y1 116) fun y2 =>
    bd2 (f_X13_digitsAfter y2 32 2) fun v3 y3 =>
    gi (nI b + 1) 240 <|
    nm (mset y3 227 ((nI b + 1).toNatClampNeg) v3) fun y3' =>
    bd2 (f_X13_digitsAfter y3' 32 1) fun v4 y4 =>
    gi (nI b + 2) 240 <|
    nm (mset y4 227 ((nI b + 2).toNatClampNeg) v4) fun y4' =>
    some y4') = some z' ∧ stM z' t b 2 (pm (hT t T) [117, 116, 32, 37, 32, 35] (p + 1) []) ∧ frB z z' b := by
  obtain ⟨y1, a1, H1, S1, F1⟩ := P_needs 117 H ht hS (by decide) (by decide) (by decide)
  obtain ⟨y2, a2, H2, S2, F2⟩ := P_needs 116 H1 ht S1 (by decide) (by decide) (by decide)
  obtain ⟨v3, y3, a3, H3, S3, F3⟩ := P_dig (k := 0) (m := 2) 32 37 H2 ht S2 (by decide) (by decide) (by decide) (Or.inr ⟨rfl, rfl⟩) (by omega) (w := 2) rfl
  obtain ⟨v4, y4, a4, H4, S4, F4⟩ := P_dig (k := 1) (m := 1) 32 35 H3 ht S3 (by decide) (by decide) (by decide) (Or.inl ⟨rfl, rfl⟩) (by omega) (w := 1) rfl
  refine ⟨(mset y4 227 (b + 1 + 1) v4), ?_, ?_, (((F1.tr F2).tr F3).tr F4)⟩
  · rw [a1, bd_s, a2, bd_s, a3, bd2_s, show nI b + 1 = nI (b + 1) from nI_al (k := b) (i := 1) (by omega), nI_gi (by omega) (by omega), g_nIc (by omega), nm_s, show mset y3 227 (b + 1) v3 = mset y3 227 (b + 1 + 0) v3 from rfl, a4, bd2_s, show nI b + 2 = nI (b + 2) from nI_al (k := b) (i := 2) (by omega), nI_gi (by omega) (by omega), g_nIc (by omega), nm_s]
  · simp only [ext_app, List.cons_append, List.nil_append] at S4
    rw [ext_t] at S4
    exact S4
theorem m_road {z : gM} {t b p : Nat} {T : Nat → Int32} (H : RT z t T) (ht : t ≤ 60) (hS : stM z t b 0 (true, p + 1, [])) (hb : b + 4 ≤ 240) : ∃ z' : gM, (bd (f_X13_needsThree z 111 97 100) fun y1 =>
    bd2 (f_X13_digitsAfter y1 32 1) fun v2 y2 =>
    gi (nI b + 1) 240 <|
    nm (mset y2 227 ((nI b + 1).toNatClampNeg) v2) fun y2' =>
    bd2 (f_X13_digitsAfter y2' 45 1) fun v3 y3 =>
    gi (nI b + 2) 240 <|
    nm (mset y3 227 ((nI b + 2).toNatClampNeg) v3) fun y3' =>
    bd2 (f_X13_digitsAfter y3' 32 2) fun v4 y4 =>
    gi (nI b + 3) 240 <|
    nm (mset y4 227 ((nI b + 3).toNatClampNeg) v4) fun y4' =>
    some y4') = some z' ∧ stM z' t b 3 (pm (hT t T) [111, 97, 100, 32, 35, 45, 35, 32, 37] (p + 1) []) ∧ frB z z' b := by
  obtain ⟨y1, a1, H1, S1, F1⟩ := P_three 111 97 100 H ht hS (by decide) (by decide) (by decide) (by decide) (by decide) (by decide) (by decide) (by decide) (by decide)
  obtain ⟨v2, y2, a2, H2, S2, F2⟩ := P_dig (k := 0) (m := 1) 32 35 H1 ht S1 (by decide) (by decide) (by decide) (Or.inl ⟨rfl, rfl⟩) (by omega) (w := 1) rfl
  obtain ⟨v3, y3, a3, H3, S3, F3⟩ := P_dig (k := 1) (m := 1) 45 35 H2 ht S2 (by decide) (by decide) (by decide) (Or.inl ⟨rfl, rfl⟩) (by omega) (w := 1) rfl
  obtain ⟨v4, y4, a4, H4, S4, F4⟩ := P_dig (k := 2) (m := 2) 32 37 H3 ht S3 (by decide) (by decide) (by decide) (Or.inr ⟨rfl, rfl⟩) (by omega) (w := 2) rfl
  refine ⟨(mset y4 227 (b + 1 + 2) v4), ?_, ?_, (((F1.tr F2).tr F3).tr F4)⟩
  · rw [a1, bd_s, a2, bd2_s, show nI b + 1 = nI (b + 1) from nI_al (k := b) (i := 1) (by omega), nI_gi (by omega) (by omega), g_nIc (by omega), nm_s, show mset y2 227 (b + 1) v2 = mset y2 227 (b + 1 + 0) v2 from rfl, a3, bd2_s, show nI b + 2 = nI (b + 2) from nI_al (k := b) (i := 2) (by omega), nI_gi (by omega) (by omega), g_nIc (by omega), nm_s, show mset y3 227 (b + 2) v3 = mset y3 227 (b + 1 + 1) v3 from rfl, a4, bd2_s, show nI b + 3 = nI (b + 3) from nI_al (k := b) (i := 3) (by omega), nI_gi (by omega) (by omega), g_nIc (by omega), nm_s]
  · simp only [ext_app, List.cons_append, List.nil_append] at S4
    rw [ext_t] at S4
    exact S4
