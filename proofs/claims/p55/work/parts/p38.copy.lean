theorem cpy_lt {f g : Nat → Int32} {n q : Nat} (h : q < n) : va_cpy f g 0 0 n q = f q := by
  unfold va_cpy
  rw [if_pos (by omega)]
  congr 1
  omega
theorem st_r (σ : gM) (t o n : Nat) : (∀ i, i ≠ t → rset σ t (va_cpy (σ o) (σ t) 0 0 n) i = σ i) ∧ ∀ q, q < n → rset σ t (va_cpy (σ o) (σ t) 0 0 n) t q = σ o q :=
  ⟨fun i hi => rset_ne σ _ hi, fun q hq => by rw [rset_eq, cpy_lt hq]⟩
theorem st_m (σ : gM) (t o k : Nat) : (∀ i, i ≠ t → mset σ t k (σ o k) i = σ i) ∧ mset σ t k (σ o k) t k = σ o k ∧ ∀ q, q ≠ k → mset σ t k (σ o k) t q = σ t q :=
  ⟨fun i hi => funext fun q => mset_ne1 σ _ hi, mset_same σ t k _, fun q hq => mset_ne2 σ _ hq⟩
/-- a state is copied: the target stands for what the source stands for, all else stays -/
theorem e_copyFrom {σ : gM} {kt ko : Nat} (hne : kt ≠ ko) : ∃ σ' : gM, f_X3_copyFrom σ kt ko = some σ' ∧ (∀ i, i < 1 + 18 * kt ∨ 1 + 18 * kt + 18 ≤ i → σ' i = σ i) ∧ ∀ (r : Nat → Int32) (a : Nat → Nat), a 36 ≤ 12 → a 37 ≤ 8 → blkR σ ko r a → blkR σ' kt r a := by
  unfold f_X3_copyFrom f_X9_copyFrom f_X8_copyFrom f_X6_copyFrom f_X11_copyFrom
  obtain ⟨n0, c0⟩ := st_r σ (1 + 18 * kt + 2) (1 + 18 * ko + 2) 36
  rw [nm_s]
  generalize rset σ (1 + 18 * kt + 2) (va_cpy (σ (1 + 18 * ko + 2)) (σ (1 + 18 * kt + 2)) 0 0 36) = σ1 at n0 c0 ⊢
  obtain ⟨n1, c1, d1⟩ := st_m σ1 (1 + 18 * kt + 1) (1 + 18 * ko + 1) 4
  rw [nm_s]
  generalize mset σ1 (1 + 18 * kt + 1) 4 (σ1 (1 + 18 * ko + 1) 4) = σ2 at n1 c1 d1 ⊢
  rw [bd_s]
  obtain ⟨n2, c2⟩ := st_r σ2 (1 + 18 * kt + 7) (1 + 18 * ko + 7) 12
  rw [nm_s]
  generalize rset σ2 (1 + 18 * kt + 7) (va_cpy (σ2 (1 + 18 * ko + 7)) (σ2 (1 + 18 * kt + 7)) 0 0 12) = σ3 at n2 c2 ⊢
  obtain ⟨n3, c3⟩ := st_r σ3 (1 + 18 * kt + 8) (1 + 18 * ko + 8) 12
  rw [nm_s]
  generalize rset σ3 (1 + 18 * kt + 8) (va_cpy (σ3 (1 + 18 * ko + 8)) (σ3 (1 + 18 * kt + 8)) 0 0 12) = σ4 at n3 c3 ⊢
  obtain ⟨n4, c4⟩ := st_r σ4 (1 + 18 * kt + 9) (1 + 18 * ko + 9) 12
  rw [nm_s]
  generalize rset σ4 (1 + 18 * kt + 9) (va_cpy (σ4 (1 + 18 * ko + 9)) (σ4 (1 + 18 * kt + 9)) 0 0 12) = σ5 at n4 c4 ⊢
  obtain ⟨n5, c5⟩ := st_r σ5 (1 + 18 * kt + 10) (1 + 18 * ko + 10) 12
  rw [nm_s]
  generalize rset σ5 (1 + 18 * kt + 10) (va_cpy (σ5 (1 + 18 * ko + 10)) (σ5 (1 + 18 * kt + 10)) 0 0 12) = σ6 at n5 c5 ⊢
  obtain ⟨n6, c6⟩ := st_r σ6 (1 + 18 * kt + 11) (1 + 18 * ko + 11) 12
  rw [nm_s]
  generalize rset σ6 (1 + 18 * kt + 11) (va_cpy (σ6 (1 + 18 * ko + 11)) (σ6 (1 + 18 * kt + 11)) 0 0 12) = σ7 at n6 c6 ⊢
  obtain ⟨n7, c7, d7⟩ := st_m σ7 (1 + 18 * kt + 6) (1 + 18 * ko + 6) 5
  rw [nm_s]
  generalize mset σ7 (1 + 18 * kt + 6) 5 (σ7 (1 + 18 * ko + 6) 5) = σ8 at n7 c7 d7 ⊢
  rw [bd_s]
  obtain ⟨n8, c8⟩ := st_r σ8 (1 + 18 * kt + 13) (1 + 18 * ko + 13) 8
  rw [nm_s]
  generalize rset σ8 (1 + 18 * kt + 13) (va_cpy (σ8 (1 + 18 * ko + 13)) (σ8 (1 + 18 * kt + 13)) 0 0 8) = σ9 at n8 c8 ⊢
  obtain ⟨n9, c9⟩ := st_r σ9 (1 + 18 * kt + 14) (1 + 18 * ko + 14) 8
  rw [nm_s]
  generalize rset σ9 (1 + 18 * kt + 14) (va_cpy (σ9 (1 + 18 * ko + 14)) (σ9 (1 + 18 * kt + 14)) 0 0 8) = σ10 at n9 c9 ⊢
  obtain ⟨n10, c10, d10⟩ := st_m σ10 (1 + 18 * kt + 12) (1 + 18 * ko + 12) 2
  rw [nm_s]
  generalize mset σ10 (1 + 18 * kt + 12) 2 (σ10 (1 + 18 * ko + 12) 2) = σ11 at n10 c10 d10 ⊢
  obtain ⟨n11, c11, d11⟩ := st_m σ11 (1 + 18 * kt + 12) (1 + 18 * ko + 12) 3
  rw [nm_s]
  generalize mset σ11 (1 + 18 * kt + 12) 3 (σ11 (1 + 18 * ko + 12) 3) = σ12 at n11 c11 d11 ⊢
  rw [bd_s]
  obtain ⟨n12, c12⟩ := st_r σ12 (1 + 18 * kt + 16) (1 + 18 * ko + 16) 3
  rw [nm_s]
  generalize rset σ12 (1 + 18 * kt + 16) (va_cpy (σ12 (1 + 18 * ko + 16)) (σ12 (1 + 18 * kt + 16)) 0 0 3) = σ13 at n12 c12 ⊢
  obtain ⟨n13, c13⟩ := st_r σ13 (1 + 18 * kt + 17) (1 + 18 * ko + 17) 3
  rw [nm_s]
  generalize rset σ13 (1 + 18 * kt + 17) (va_cpy (σ13 (1 + 18 * ko + 17)) (σ13 (1 + 18 * kt + 17)) 0 0 3) = σ14 at n13 c13 ⊢
  obtain ⟨n14, c14, d14⟩ := st_m σ14 (1 + 18 * kt + 15) (1 + 18 * ko + 15) 2
  rw [nm_s]
  generalize mset σ14 (1 + 18 * kt + 15) 2 (σ14 (1 + 18 * ko + 15) 2) = σ15 at n14 c14 d14 ⊢
  rw [bd_s]
  refine ⟨σ15, rfl, fun i hi => ?_, fun r a h36 h37 B => ?_⟩
  · rcases hi with hi | hi <;> simp (disch := omega) only [n14, n13, n12, n11, n10, n9, n8, n7, n6, n5, n4, n3, n2, n1, n0]
  · obtain ⟨b1, b2, b3, b4, b5, b6, b7, b8, b9⟩ := B
    refine ⟨fun q hq => ?_, ?_, ?_, fun p hp => ?_, ?_, ?_, fun q hq => ?_, ?_, fun q hq => ?_⟩
    · rw [← b1 q hq]
      simp (disch := omega) only [n14, n13, n12, n11, n10, n9, n8, n7, n6, n5, n4, n3, n2, n1, n0, c0, d1, d7, d10, d11, d14]
    · rw [← b2]
      simp (disch := omega) only [n14, n13, n12, n11, n10, n9, n8, n7, n6, n5, n4, n3, n2, n1, n0, c1, d1, d7, d10, d11, d14]
    · rw [← b3]
      simp (disch := omega) only [n14, n13, n12, n11, n10, n9, n8, n7, n6, n5, n4, n3, n2, n1, n0, c7, d1, d7, d10, d11, d14]
    · obtain ⟨p1, p2, p3, p4, p5⟩ := b4 p hp
      rw [← p1, ← p2, ← p3, ← p4, ← p5]
      refine ⟨?_, ?_, ?_, ?_, ?_⟩
      · simp (disch := omega) only [n14, n13, n12, n11, n10, n9, n8, n7, n6, n5, n4, n3, n2, n1, n0, c2]
      · simp (disch := omega) only [n14, n13, n12, n11, n10, n9, n8, n7, n6, n5, n4, n3, n2, n1, n0, c3]
      · simp (disch := omega) only [n14, n13, n12, n11, n10, n9, n8, n7, n6, n5, n4, n3, n2, n1, n0, c4]
      · simp (disch := omega) only [n14, n13, n12, n11, n10, n9, n8, n7, n6, n5, n4, n3, n2, n1, n0, c5]
      · simp (disch := omega) only [n14, n13, n12, n11, n10, n9, n8, n7, n6, n5, n4, n3, n2, n1, n0, c6]
    · rw [← b5]
      simp (disch := omega) only [n14, n13, n12, n11, n10, n9, n8, n7, n6, n5, n4, n3, n2, n1, n0, c10, d1, d7, d10, d11, d14]
    · rw [← b6]
      simp (disch := omega) only [n14, n13, n12, n11, n10, n9, n8, n7, n6, n5, n4, n3, n2, n1, n0, c11, d1, d7, d10, d11, d14]
    · obtain ⟨p1, p2⟩ := b7 q hq
      rw [← p1, ← p2]
      refine ⟨?_, ?_⟩
      · simp (disch := omega) only [n14, n13, n12, n11, n10, n9, n8, n7, n6, n5, n4, n3, n2, n1, n0, c8]
      · simp (disch := omega) only [n14, n13, n12, n11, n10, n9, n8, n7, n6, n5, n4, n3, n2, n1, n0, c9]
    · rw [← b8]
      simp (disch := omega) only [n14, n13, n12, n11, n10, n9, n8, n7, n6, n5, n4, n3, n2, n1, n0, c14, d1, d7, d10, d11, d14]
    · obtain ⟨p1, p2⟩ := b9 q hq
      rw [← p1, ← p2]
      refine ⟨?_, ?_⟩
      · simp (disch := omega) only [n14, n13, n12, n11, n10, n9, n8, n7, n6, n5, n4, n3, n2, n1, n0, c12]
      · simp (disch := omega) only [n14, n13, n12, n11, n10, n9, n8, n7, n6, n5, n4, n3, n2, n1, n0, c13]
/-- cells t .. t + 133 of the row jb are the cells s .. of the row ja -/
def cpR (σ : gM) (ja s jb t : Nat) (n : Nat) : gM := rset σ jb (fun q => if t ≤ q ∧ q < t + n then σ ja (s + (q - t)) else σ jb q)
theorem cpR_s {σ : gM} {ja s jb t n : Nat} : mset (cpR σ ja s jb t n) jb (t + n) (σ ja (s + n)) = cpR σ ja s jb t (n + 1) := by
  funext i q
  by_cases hi : i = jb
  · subst hi
    by_cases hq : q = t + n
    · subst hq
      rw [mset_same]
      unfold cpR
      rw [rset_eq, if_pos (by omega)]
      congr 1
      omega
    · rw [mset_ne2 _ _ hq]
      unfold cpR
      rw [rset_eq, rset_eq]
      by_cases h : t ≤ q ∧ q < t + n
      · rw [if_pos h, if_pos (by omega)]
      · rw [if_neg h, if_neg (by omega)]
  · rw [mset_ne1 _ _ hi]
    unfold cpR
    rw [rset_ne _ _ hi, rset_ne _ _ hi]
theorem cpR_0 {σ : gM} {ja s jb t : Nat} : cpR σ ja s jb t 0 = σ := by
  funext i q
  unfold cpR
  by_cases hi : i = jb
  · subst hi
    rw [rset_eq, if_neg (by omega)]
  · rw [rset_ne _ _ hi]
