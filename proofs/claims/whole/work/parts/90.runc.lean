theorem gs2_l' {α β γ : Type} {x : α} {k1 : α → Option γ} {k2 : β → Option γ} : gs2 (some (.inl x)) k1 k2 = k1 x := rfl
theorem un3_s' {α β γ δ : Type} {f : α → β → γ → δ} {x : α} {y : β} {z : γ} : un3 f (x, y, z) = f x y z := rfl
theorem nI_ne1 {m : Nat} (h : m ≤ 4096) : ¬ nI m = -1 := fun e => by
  have h2 := congrArg Int32.toInt e
  rw [g_nIt h] at h2
  have : ((-1 : Int32)).toInt = -1 := by decide
  omega
/-- the end of the turn -/
def rcT (lo : Int64) (dd : UInt64) (o : Option ((Int32 × gM) ⊕ (Nat × gM))) : Option (gM × Int64 × UInt64) :=
  bd4 (bt2 o (fun r σ1 => some (0, σ1, r.toInt64, dd)) (fun n σ1 => if n = 1 then some (1, σ1, lo, dd) else if n = 3 then some (2, σ1, lo, dd) else none)) fun r1 σ2 lo3 dd4 => bd2 (f_X13_runCommands σ2) fun r6 σ8 => bd (f_X13_thrown σ8) fun r9 => if r9 = r1 then if r1 = 0 then if (lg_cmp lo3 r6.toInt64) = 0 then some (σ8, lo3, dd4) else none else some (σ8, lo3, dd4) else none
theorem rcT_ok {lo : Int64} {dd : UInt64} {v : Int32} {K S : gM} (h : f_X13_runCommands K = some (v, S)) (h0 : S 219 12 = 0) (I : inv S) : invOk (rcT lo dd (some (.inl (v, K)))) := by
  refine ⟨S, v.toInt64, dd, ?_, I⟩
  unfold rcT
  rw [bt2_l, bd4_s, h, bd2_s, f_X13_thrown, h0, bd_s, if_pos rfl, if_pos rfl, lg_s, if_pos rfl]
theorem rcT_no {lo : Int64} {dd : UInt64} {w : Int32} {n : Nat} {K S : gM} (hn : n = 1 ∨ n = 3) (h : f_X13_runCommands K = some (w, S)) (h0 : S 219 12 = if n = 1 then 1 else 2) (I : inv S) : invOk (rcT lo dd (some (.inr (n, K)))) := by
  refine ⟨S, lo, dd, ?_, I⟩
  unfold rcT
  rcases hn with rfl | rfl
  · rw [if_pos rfl] at h0
    rw [bt2_r, if_pos rfl, bd4_s, h, bd2_s, f_X13_thrown, h0, bd_s, if_pos rfl, if_neg (by decide)]
  · rw [if_neg (by decide)] at h0
    rw [bt2_r, if_neg (by decide), if_pos rfl, bd4_s, h, bd2_s, f_X13_thrown, h0, bd_s, if_pos rfl, if_neg (by decide)]
theorem k_T_43 : turnOk f_T_43 := by
  intro σ lo dd a1 a2 a3 I
  obtain ⟨a, c, nx, R, N, Hh, Sv⟩ := id I
  obtain ⟨⟨n1, n2⟩, ⟨n3, n4⟩, ⟨t, t1, t2, t3, t4⟩, ⟨o, o1, o2, o3, o4⟩⟩ := id N
  obtain ⟨hc, hx, g1, g2, g3, g4⟩ := id Hh
  show invOk (rcT lo dd (f_X12_runCommands σ))
  have HD : HT σ t (σ 205) := ⟨t2, fun _ _ => rfl⟩
  have HR : RT σ t (σ 205) := ⟨t3, fun j hj => (t4 j hj).1.symm⟩
  obtain ⟨σ3, d1, d2, d3, d4⟩ := d_read t1 HD
  have hpos := (m_run t1 HR).1
  have mR : ∀ K : gM, (∀ i q, i = 219 ∨ i = 224 → K i q = σ i q) → RT K t (σ 205) := fun K h => ⟨(h 219 7 (by omega)).trans HR.1, fun j hj => (h 224 j (by omega)).trans (HR.2 j hj)⟩
  generalize h5 : mset σ3 204 2 0 = σ5
  have oS : ∀ i q, i ≠ 204 → ¬ (207 ≤ i ∧ i < 217) → σ5 i q = σ i q := fun i q i1 i2 => by
    rw [← h5, mset_ne1 _ _ i1]; exact d3 i q i1 i2
  have s52 : σ5 204 2 = 0 := by rw [← h5, mset_same]
  have code : f_X12_runCommands σ = if (if (prs (hT t (σ 205)) t 10 0).1 = true then -1 else nI (prs (hT t (σ 205)) t 10 0).2.1) = (-1 : Int32) then
      bd (f_X7_prepare σ5) fun σ8 =>
      bd2 (f_X12_carryOutCommands σ8) fun r10 σ11 =>
      if r10 = (-1) then
        bd (f_X2_commandCount σ11) fun r14 =>
        bt2 (f_X12_recorded σ11 r14)
          (fun r16 σ17 =>
            some (.inl (r16, σ17)))
          (fun n18 σ17 => some (.inr (n18, σ17)))
      else
        bd (f_X7_putBack σ11) fun σ20 =>
        nm (mset σ20 0 8 r10) fun σ21 =>
        some (.inr (3, σ21))
    else
      nm (mset σ5 0 7 (if (prs (hT t (σ 205)) t 10 0).1 = true then -1 else nI (prs (hT t (σ 205)) t 10 0).2.1)) fun σ22 =>
      some (.inr (1, σ22)) := by
    unfold f_X12_runCommands f_X2_clear
    rw [d1, bd2_s, nm_s, bd_s, h5]
  have wf := prs_wf (h := hT t (σ 205)) (t := t) 10 0
  generalize hQ : prs (hT t (σ 205)) t 10 0 = Q at code hpos d4 wf
  obtain ⟨ok, pos, cs⟩ := Q
  have hpos : pos ≤ t := hpos
  cases ok with
  | false =>
    have code : f_X12_runCommands σ = some (.inr (1, mset σ5 0 7 (nI pos))) := by
      rw [code]
      show (if nI pos = -1 then _ else _) = _
      rw [if_neg (nI_ne1 (by omega))]; rfl
    rw [code]
    generalize hK : mset σ5 0 7 (nI pos) = K
    have oK : ∀ i q, ¬ (i = 0 ∧ q = 7) → K i q = σ5 i q := fun i q h => by
      rw [← hK]
      by_cases hi : i = 0
      · subst hi; exact mset_ne2 _ _ (fun e => h ⟨rfl, e⟩)
      · exact mset_ne1 _ _ hi
    obtain ⟨-, mF, -⟩ := m_run t1 (mR K (fun i q hi => (oK i q (by omega)).trans (oS i q (by omega) (by omega))))
    rw [hQ] at mF
    obtain ⟨S, s1, s2, s3, s4, s5⟩ := mF rfl
    have s3 : S 219 8 = nI pos := s3
    have sσ : ∀ i q, i ≠ 227 → ¬ (i = 219 ∧ (q = 7 ∨ q = 8 ∨ q = 12 ∨ q = 14 ∨ q = 15)) → ¬ (i = 0 ∧ q = 7) → i ≠ 204 → ¬ (207 ≤ i ∧ i < 217) → S i q = σ i q := fun i q i1 i2 i3 i4 i5 => (s5 i q i1 i2).trans ((oK i q i3).trans (oS i q i4 i5))
    refine rcT_no (Or.inl rfl) s1 s2 (inv_mk R Hh Sv (fun i q hi => sσ i q (by omega) (by omega) (by omega) (by omega) (by omega)) ⟨⟨?_, ?_⟩, ⟨?_, ?_⟩, ⟨0, by omega, ?_, ?_, fun j hj => absurd hj (Nat.not_lt_zero _)⟩, ⟨o, o1, ?_, ?_, fun j hj => ?_⟩⟩)
    · rw [s3, s5 0 7 (by omega) (by omega), ← hK, mset_same]
    · rw [s5 0 7 (by omega) (by omega), ← hK, mset_same]
      exact Or.inr (nI_ge0 (by omega))
    · rw [sσ 0 8 (by omega) (by omega) (by omega) (by omega) (by omega), sσ 219 9 (by omega) (by omega) (by omega) (by omega) (by omega)]; exact n3
    · rw [sσ 0 8 (by omega) (by omega) (by omega) (by omega) (by omega)]; exact n4
    · rw [s5 204 2 (by omega) (by omega), oK 204 2 (by omega)]; exact s52
    · exact s4
    · rw [sσ 217 1 (by omega) (by omega) (by omega) (by omega) (by omega)]; exact o2
    · rw [sσ 219 11 (by omega) (by omega) (by omega) (by omega) (by omega)]; exact o3
    · rw [sσ 218 j (by omega) (by omega) (by omega) (by omega) (by omega), sσ 225 j (by omega) (by omega) (by omega) (by omega) (by omega)]; exact o4 j hj
  | true =>
    obtain ⟨w1, w2⟩ := wf rfl
    have w1 : cs.length ≤ 10 := w1
    have w2 : ∀ j, j < cs.length → wfC (cg cs j) := w2
    obtain ⟨q1, -, q3⟩ := d4 rfl
    have q1 : σ3 204 3 = nI cs.length := q1
    have q3 : ∀ j, j < cs.length → cmdD σ3 j (cg cs j) := q3
    obtain ⟨R5, Hh5⟩ := cmp_mk R Hh (S := σ5) (fun i q hi => oS i q (by omega) (by omega))
    obtain ⟨σ8, p1, p2, p3⟩ := e_prepare R5 Hh5
    have V := R5.2.2
    have B8 : blkR σ8 0 (σ5 220) a := blk_congr V.1 (fun o q h1 h2 h3 h4 => by rw [p2 _ (by omega)]) (fun _ _ => rfl) R5.1
    have C5 : CD σ5 cs := ⟨by rw [← h5, mset_ne2 _ _ (by decide)]; exact q1, fun j hj => cmdD_congr (fun q => by rw [← h5, mset_ne1 _ _ (by omega)]) (q3 j hj)⟩
    have C8 : CD σ8 cs := ⟨by rw [p2 204 (by omega)]; exact C5.1, fun j hj => cmdD_congr (fun q => by rw [p2 _ (by omega)]) (C5.2 j hj)⟩
    have r220 : ∀ q, σ5 220 q = σ 220 q := fun q => oS 220 q (by omega) (by omega)
    rw [show f_X12_runCommands σ = _ from code, if_pos (show (if true = true then (-1 : Int32) else nI pos) = -1 from rfl), p1, bd_s]
    rcases run_cs w2 w1 cs.length 0 (Nat.zero_add _) (σ5 220) a V with ⟨e', a', V', gD, gM'⟩ | ⟨j, hj, gD, gM'⟩
    · obtain ⟨σ11, u1, u2, u3⟩ := gD σ8 gFU (by rw [gFU_eq]; omega) C8 B8
      have c11 : f_X12_carryOutCommands σ8 = some (-1, σ11) := by
        unfold f_X12_carryOutCommands
        rw [show f_X12_carryOutCommands_L2 gFU 0 σ8 = some (.inr σ11) from u1]; rfl
      have e199 : ∀ q, σ11 199 q = σ 199 q := fun q => by rw [u2 199 (by omega), p2 199 (by omega), oS 199 q (by omega) (by omega)]
      rw [c11, bd2_s, if_pos rfl, f_X2_commandCount, (CD_c u2 C8).1, bd_s, rc_ok (nI_ge0 (by omega)) hc hx ((e199 1).trans g1) ((e199 2).trans g2), bt2_l]
      generalize hK : mset (mset σ11 199 1 (nI ((nx + 1) % 9))) 199 2 (nI (min (c + 1) 8)) = K
      have kk : ∀ i q, i ≠ 199 → K i q = σ11 i q := fun i q hi => by rw [← hK, mset_ne1 _ _ hi, mset_ne1 _ _ hi]
      have k8 : ∀ i q, i ≠ 199 → 19 ≤ i ∨ i = 0 → K i q = σ8 i q := fun i q i1 i2 => by rw [kk i q i1, u2 i i2]
      have kσ : ∀ i q, i ≠ 199 → 19 ≤ i ∨ i = 0 → (i < 1 + 18 * (nx + 2) ∨ 1 + 18 * (nx + 2) + 18 ≤ i) → i ≠ 204 → ¬ (207 ≤ i ∧ i < 217) → K i q = σ i q := fun i q i1 i2 i3 i4 i5 => by rw [k8 i q i1 i2, p2 i i3, oS i q i4 i5]
      obtain ⟨-, -, mT⟩ := m_run t1 (mR K (fun i q hi => kσ i q (by omega) (by omega) (by omega) (by omega) (by omega)))
      rw [hQ] at mT
      obtain ⟨K3, k1, k2, k3, k4⟩ := mT rfl
      have k3 : CM K3 cs := k3
      generalize hK4 : cpR K3 220 0 221 0 134 = K4
      have o4' : ∀ i, i ≠ 221 → K4 i = K3 i := fun i hi => by rw [← hK4, cpR_o hi]
      have row4 : rowE (K4 220) (σ5 220) a := by
        have e : K4 220 = σ5 220 := by
          rw [o4' 220 (by decide)]
          funext q
          rw [k1 220 q (by omega) (by omega), k8 220 q (by omega) (by omega), p2 220 (by omega)]
        rw [e]
        exact ⟨R5.2.1, fun _ _ _ => rfl⟩
      obtain ⟨σM, m1, m2, m3, m4⟩ := gM' K4 gFU (by rw [gFU_eq]; omega) (CM_c (o4' 227 (by decide)) k3) row4
      generalize hσ4 : mset σM 219 12 0 = σ4
      have oM : ∀ i q, ¬ (i = 219 ∧ q = 12) → σ4 i q = σM i q := fun i q h => by rw [← hσ4]; exact thr h
      have rd : ∀ i q, i ≠ 199 → i ≠ 220 → i ≠ 221 → i ≠ 226 → i ≠ 227 → ¬ (i = 219 ∧ (q = 7 ∨ q = 12 ∨ q = 14 ∨ q = 15)) → σ4 i q = σ11 i q := fun i q i1 i2 i3 i4 i5 i6 => by
        rw [oM i q (by omega), m2 i q i2 i4 (by omega), o4' i i3, k1 i q i5 (by omega), kk i q i1]
      have rs : ∀ i q, i ≠ 199 → i ≠ 220 → i ≠ 221 → i ≠ 226 → i ≠ 227 → ¬ (i = 219 ∧ (q = 7 ∨ q = 12 ∨ q = 14 ∨ q = 15)) → 19 ≤ i ∨ i = 0 → (i < 1 + 18 * (nx + 2) ∨ 1 + 18 * (nx + 2) + 18 ≤ i) → i ≠ 204 → ¬ (207 ≤ i ∧ i < 217) → σ4 i q = σ i q := fun i q i1 i2 i3 i4 i5 i6 i7 i8 i9 i10 => by
        rw [rd i q i1 i2 i3 i4 i5 i6, u2 i i7, p2 i i8, oS i q i9 i10]
      have h220 : ∀ q, σ4 220 q = σM 220 q := fun q => oM 220 q (by omega)
      have rowM : rowE (σ4 220) e' a' := by
        rw [show σ4 220 = σM 220 from funext h220]
        exact ⟨m3, m4⟩
      have V4 : vdR (σ4 220) a' := by
        obtain ⟨v1, v2, v3, v4, v5, v6, v7, v8⟩ := V'
        exact ⟨v1, v2, v3, v4, v5, fun p x1 x2 => ⟨(v6 p x1 x2).1, (rowM.2 _ (by omega) (by omega)).trans (v6 p x1 x2).2⟩, v7, v8⟩
      have B4 : blkR σ4 0 (σ4 220) a' := blk_e V'.1 (fun j x1 x2 => rowM.2 j x1 x2) (blk_congr V'.1 (fun o q x1 _ _ _ => rd _ q (by omega) (by omega) (by omega) (by omega) (by omega) (by omega)) (fun _ _ => rfl) u3)
      have N4 : notR σ4 := by
        refine ⟨⟨?_, ?_⟩, ⟨?_, ?_⟩, ⟨0, by omega, ?_, ?_, fun j hj => absurd hj (Nat.not_lt_zero _)⟩, ⟨o, o1, ?_, ?_, fun j hj => ?_⟩⟩
        · rw [rs 0 7 (by omega) (by omega) (by omega) (by omega) (by omega) (by omega) (by omega) (by omega) (by omega) (by omega), rs 219 8 (by omega) (by omega) (by omega) (by omega) (by omega) (by omega) (by omega) (by omega) (by omega) (by omega)]; exact n1
        · rw [rs 0 7 (by omega) (by omega) (by omega) (by omega) (by omega) (by omega) (by omega) (by omega) (by omega) (by omega)]; exact n2
        · rw [rs 0 8 (by omega) (by omega) (by omega) (by omega) (by omega) (by omega) (by omega) (by omega) (by omega) (by omega), rs 219 9 (by omega) (by omega) (by omega) (by omega) (by omega) (by omega) (by omega) (by omega) (by omega) (by omega)]; exact n3
        · rw [rs 0 8 (by omega) (by omega) (by omega) (by omega) (by omega) (by omega) (by omega) (by omega) (by omega) (by omega)]; exact n4
        · rw [rd 204 2 (by omega) (by omega) (by omega) (by omega) (by omega) (by omega), u2 204 (by omega), p2 204 (by omega)]; exact s52
        · rw [oM 219 7 (by omega), m2 219 7 (by omega) (by omega) (by omega), o4' 219 (by omega)]; exact k2
        · rw [rs 217 1 (by omega) (by omega) (by omega) (by omega) (by omega) (by omega) (by omega) (by omega) (by omega) (by omega)]; exact o2
        · rw [rs 219 11 (by omega) (by omega) (by omega) (by omega) (by omega) (by omega) (by omega) (by omega) (by omega) (by omega)]; exact o3
        · rw [rs 218 j (by omega) (by omega) (by omega) (by omega) (by omega) (by omega) (by omega) (by omega) (by omega) (by omega), rs 225 j (by omega) (by omega) (by omega) (by omega) (by omega) (by omega) (by omega) (by omega) (by omega) (by omega)]; exact o4 j hj
      have o199 : ∀ q, σ4 199 q = K 199 q := fun q => by
        rw [oM 199 q (by omega), m2 199 q (by omega) (by omega) (by omega), o4' 199 (by omega), k1 199 q (by omega) (by omega)]
      obtain ⟨S, e5, i5, t5⟩ := mut_ok (σ4 := σ4) (a' := a') R Hh Sv (by rw [← hσ4, mset_same])
        ((rs 219 3 (by omega) (by omega) (by omega) (by omega) (by omega) (by omega) (by omega) (by omega) (by omega) (by omega)).trans g3)
        (by rw [o199, ← hK, mset_ne2 _ _ (by omega), mset_same])
        (by rw [o199, ← hK, mset_same])
        (fun q hq => by rw [oM 221 q (by omega), m2 221 q (by omega) (by omega) (by omega), ← hK4, cpR_i hq, k1 220 q (by omega) (by omega), k8 220 q (by omega) (by omega), p2 220 (by omega)]; exact r220 q)
        (fun q => rs 222 q (by omega) (by omega) (by omega) (by omega) (by omega) (by omega) (by omega) (by omega) (by omega) (by omega))
        (fun k o q x1 x2 x3 x4 => rs _ q (by omega) (by omega) (by omega) (by omega) (by omega) (by omega) (by omega) (by omega) (by omega) (by omega))
        (blk_congr R.2.2.1 (fun o q x1 _ _ _ => by rw [rd _ q (by omega) (by omega) (by omega) (by omega) (by omega) (by omega), u2 _ (by omega)]) (fun q _ => (r220 q).symm) p3)
        ⟨B4, rowM.1, V4⟩ N4 (rs 0 6 (by omega) (by omega) (by omega) (by omega) (by omega) (by omega) (by omega) (by omega) (by omega) (by omega)) (rs 219 5 (by omega) (by omega) (by omega) (by omega) (by omega) (by omega) (by omega) (by omega) (by omega) (by omega)) (fun q => rs 223 q (by omega) (by omega) (by omega) (by omega) (by omega) (by omega) (by omega) (by omega) (by omega) (by omega)) (nI cs.length)
      refine rcT_ok (S := S) ?_ t5 i5
      rw [k4, e_begin, bd_s, hK4, show f_X13_runCommands_L130 (nI (true, pos, cs).2.2.length) gFU 0 K4 = some (.inr σM) from m1]
      show (bd2 (f_X13_done σM (nI cs.length)) fun r69 σ70 => bd2 (f_X13_kept σ70 r69) fun r72 σ73 => some (r72, σ73)) = _
      rw [f_X13_done, nm_s, hσ4, bd2_s, e5, bd2_s]
    · obtain ⟨σ11, u1, u2⟩ := gD σ8 gFU (by rw [gFU_eq]; omega) C8 B8
      have c11 : f_X12_carryOutCommands σ8 = some (nI j, σ11) := by
        unfold f_X12_carryOutCommands
        rw [show f_X12_carryOutCommands_L2 gFU 0 σ8 = some (.inl (nI j, σ11)) from u1]; rfl
      have e199 : ∀ q, σ11 199 q = σ 199 q := fun q => by rw [u2 199 (by omega), p2 199 (by omega), oS 199 q (by omega) (by omega)]
      obtain ⟨σ20, x1, x2, x3⟩ := e_copyFrom (σ := σ11) (kt := 0) (ko := nx + 2) (by omega)
      have pb : f_X7_putBack σ11 = some σ20 := by
        unfold f_X7_putBack
        rw [e199 1, g1, nI_gi (by omega) (by omega), g_nIc (by omega), x1]; rfl
      rw [c11, bd2_s, if_neg (nI_ne1 (by omega)), pb, bd_s, nm_s]
      have B20 : blkR σ20 0 (σ5 220) a := x3 _ _ V.1 V.2.1 (blk_congr V.1 (fun o q y1 _ _ _ => by rw [u2 _ (by omega)]) (fun _ _ => rfl) p3)
      generalize hK : mset σ20 0 8 (nI j) = K
      have kk : ∀ i q, ¬ (i = 0 ∧ q = 8) → K i q = σ20 i q := fun i q h => by
        rw [← hK]
        by_cases hi : i = 0
        · subst hi; exact mset_ne2 _ _ (fun e => h ⟨rfl, e⟩)
        · exact mset_ne1 _ _ hi
      have k8 : ∀ i q, ¬ (i = 0 ∧ q = 8) → 19 ≤ i ∨ i = 0 → K i q = σ8 i q := fun i q i1 i2 => by rw [kk i q i1, x2 i (by omega), u2 i i2]
      have kσ : ∀ i q, ¬ (i = 0 ∧ q = 8) → 19 ≤ i ∨ i = 0 → (i < 1 + 18 * (nx + 2) ∨ 1 + 18 * (nx + 2) + 18 ≤ i) → i ≠ 204 → ¬ (207 ≤ i ∧ i < 217) → K i q = σ i q := fun i q i1 i2 i3 i4 i5 => by rw [k8 i q i1 i2, p2 i i3, oS i q i4 i5]
      obtain ⟨-, -, mT⟩ := m_run t1 (mR K (fun i q hi => kσ i q (by omega) (by omega) (by omega) (by omega) (by omega)))
      rw [hQ] at mT
      obtain ⟨K3, k1, k2, k3, k4⟩ := mT rfl
      have k3 : CM K3 cs := k3
      generalize hK4 : cpR K3 220 0 221 0 134 = K4
      have o4' : ∀ i, i ≠ 221 → K4 i = K3 i := fun i hi => by rw [← hK4, cpR_o hi]
      have k220 : ∀ q, K3 220 q = σ5 220 q := fun q => by rw [k1 220 q (by omega) (by omega), k8 220 q (by omega) (by omega), p2 220 (by omega)]
      have row4 : rowE (K4 220) (σ5 220) a := by
        have e : K4 220 = σ5 220 := by
          rw [o4' 220 (by decide)]
          exact funext k220
        rw [e]
        exact ⟨R5.2.1, fun _ _ _ => rfl⟩
      obtain ⟨w, σM, m1, m2⟩ := gM' K4 gFU (by rw [gFU_eq]; omega) (CM_c (o4' 227 (by decide)) k3) row4
      generalize hσ4 : mset (mset σM 219 9 (nI j)) 219 12 2 = σ4
      have oM : ∀ i q, ¬ (i = 219 ∧ (q = 9 ∨ q = 12)) → σ4 i q = σM i q := fun i q h => by
        rw [← hσ4]
        by_cases h9 : i = 219
        · subst h9
          rw [mset_ne2 _ _ (by omega), mset_ne2 _ _ (by omega)]
        · rw [mset_ne1 _ _ h9, mset_ne1 _ _ h9]
      generalize hS : cpR σ4 221 0 220 0 134 = S
      have oS' : ∀ i, i ≠ 220 → S i = σ4 i := fun i hi => by rw [← hS, cpR_o hi]
      have s12 : S 219 12 = 2 := by rw [oS' 219 (by decide), ← hσ4, mset_same]
      have rd : ∀ i q, i ≠ 220 → i ≠ 221 → i ≠ 226 → i ≠ 227 → ¬ (i = 219 ∧ (q = 7 ∨ q = 9 ∨ q = 12 ∨ q = 14 ∨ q = 15)) → S i q = K i q := fun i q i2 i3 i4 i5 i6 => by
        rw [oS' i i2, oM i q (by omega), m2 i q i2 i4 (by omega), o4' i i3, k1 i q i5 (by omega)]
      have rs : ∀ i q, i ≠ 220 → i ≠ 221 → i ≠ 226 → i ≠ 227 → ¬ (i = 219 ∧ (q = 7 ∨ q = 9 ∨ q = 12 ∨ q = 14 ∨ q = 15)) → ¬ (i = 0 ∧ q = 8) → 19 ≤ i ∨ i = 0 → (i < 1 + 18 * (nx + 2) ∨ 1 + 18 * (nx + 2) + 18 ≤ i) → i ≠ 204 → ¬ (207 ≤ i ∧ i < 217) → S i q = σ i q := fun i q i2 i3 i4 i5 i6 i7 i8 i9 i10 i11 => by
        rw [rd i q i2 i3 i4 i5 i6, kσ i q i7 i8 i9 i10 i11]
      have s220 : ∀ q, q < 134 → S 220 q = σ5 220 q := fun q hq => by
        rw [← hS, cpR_i hq, oM 221 q (by omega), m2 221 q (by omega) (by omega) (by omega), ← hK4, cpR_i hq, k220]
      have R' : nowR S a := ⟨blk_congr V.1 (fun o q y1 _ _ _ => by rw [rd _ q (by omega) (by omega) (by omega) (by omega) (by omega), kk _ q (by omega)]) s220 B20, row_congr s220 R5.2.1, vd_congr s220 V⟩
      have N4 : notR S := by
        refine ⟨⟨?_, ?_⟩, ⟨?_, ?_⟩, ⟨0, by omega, ?_, ?_, fun j hj => absurd hj (Nat.not_lt_zero _)⟩, ⟨o, o1, ?_, ?_, fun i hi => ?_⟩⟩
        · rw [rs 0 7 (by omega) (by omega) (by omega) (by omega) (by omega) (by omega) (by omega) (by omega) (by omega) (by omega), rs 219 8 (by omega) (by omega) (by omega) (by omega) (by omega) (by omega) (by omega) (by omega) (by omega) (by omega)]; exact n1
        · rw [rs 0 7 (by omega) (by omega) (by omega) (by omega) (by omega) (by omega) (by omega) (by omega) (by omega) (by omega)]; exact n2
        · rw [rd 0 8 (by omega) (by omega) (by omega) (by omega) (by omega), ← hK, mset_same, oS' 219 (by omega), ← hσ4, mset_ne2 _ _ (by decide), mset_same]
        · rw [rd 0 8 (by omega) (by omega) (by omega) (by omega) (by omega), ← hK, mset_same]
          exact Or.inr (nI_ge0 (by omega))
        · rw [rd 204 2 (by omega) (by omega) (by omega) (by omega) (by omega), k8 204 2 (by omega) (by omega), p2 204 (by omega)]; exact s52
        · rw [oS' 219 (by omega), oM 219 7 (by omega), m2 219 7 (by omega) (by omega) (by omega), o4' 219 (by omega)]; exact k2
        · rw [rs 217 1 (by omega) (by omega) (by omega) (by omega) (by omega) (by omega) (by omega) (by omega) (by omega) (by omega)]; exact o2
        · rw [rs 219 11 (by omega) (by omega) (by omega) (by omega) (by omega) (by omega) (by omega) (by omega) (by omega) (by omega)]; exact o3
        · rw [rs 218 i (by omega) (by omega) (by omega) (by omega) (by omega) (by omega) (by omega) (by omega) (by omega) (by omega), rs 225 i (by omega) (by omega) (by omega) (by omega) (by omega) (by omega) (by omega) (by omega) (by omega) (by omega)]; exact o4 i hi
      refine rcT_no (w := 0) (S := S) (Or.inr rfl) ?_ s12 (inv_ring R' N4 Hh Sv (fun i q hi => rs i q (by omega) (by omega) (by omega) (by omega) (by omega) (by omega) (by omega) (by omega) (by omega) (by omega)))
      rw [k4, e_begin, bd_s, hK4, show f_X13_runCommands_L130 (nI (true, pos, cs).2.2.length) gFU 0 K4 = some (.inl (nI j, w, σM)) from m1, gs2_l', un3_s', nm_s, nm_s, hσ4, e_unkept (by rw [← hσ4, mset_same]; decide), bd2_s, hS]
