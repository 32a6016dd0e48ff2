theorem gs2_l' {α β γ : Type} {x : α} {k1 : α → Option γ} {k2 : β → Option γ} : gs2 (some (.inl x)) k1 k2 = k1 x := rfl
theorem un3_s' {α β γ δ : Type} {f : α → β → γ → δ} {x : α} {y : β} {z : γ} : un3 f (x, y, z) = f x y z := rfl
theorem nI_ne1 {m : Nat} (h : m ≤ 4096) : ¬ nI m = -1 := fun e => by
  have h2 := congrArg Int32.toInt e
  rw [g_nIt h] at h2
  have : ((-1 : Int32)).toInt = -1 := by decide
  omega
/-- the read text, then the carried out commands -/
theorem rc_code {σ : gM} {t : Nat} {T : Nat → Int32} (ht : t ≤ 60) (H : HT σ t T) {ok : Bool} {pos : Nat} {cs : List (Nat × List Int32)} (hQ : prs (hT t T) t 10 0 = (ok, pos, cs)) : ∃ σ5 : gM, (∀ i q, i ≠ 204 → ¬ (207 ≤ i ∧ i < 217) → σ5 i q = σ i q) ∧ σ5 204 2 = 0 ∧
    f_X12_runCommands σ = (if (if ok = true then -1 else nI pos) = (-1 : Int32) then
      bd (f_X7_prepare σ5) fun σ8 =>
      bd2 (f_X12_carryOutCommands σ8) fun r10 σ11 =>
      if r10 = (-1) then
        bd (f_X2_commandCount σ11) fun r14 =>
        bt2 (f_X12_recorded σ11 r14)
          (fun r16 σ17 =>
            some (.inl (r16, σ17)))
          (fun n18 σ17 => some (.inr (n18, σ17)))
      else
        bd (f_X7_putBack σ11) fun σ20 =>
        nm (mset σ20 0 8 r10) fun σ21 =>
        some (.inr (3, σ21))
    else
      nm (mset σ5 0 7 (if ok = true then -1 else nI pos)) fun σ22 =>
      some (.inr (1, σ22))) ∧ (ok = true → cs.length ≤ 10 ∧ (∀ j, j < cs.length → wfC (cg cs j)) ∧ CD σ5 cs) := by
  obtain ⟨σ3, d1, d2, d3, d4⟩ := d_read ht H
  have wf := prs_wf (h := hT t T) (t := t) 10 0
  rw [hQ] at d1 d4 wf
  refine ⟨mset σ3 204 2 0, fun i q i1 i2 => by rw [mset_ne1 _ _ i1]; exact d3 i q i1 i2, mset_same _ _ _ _, ?_, fun e => ?_⟩
  · unfold f_X12_runCommands f_X2_clear
    rw [d1, bd2_s, nm_s, bd_s]
  · obtain ⟨w1, w2⟩ := wf e
    obtain ⟨q1, -, q3⟩ := d4 e
    refine ⟨w1, w2, by rw [mset_ne2 _ _ (by decide)]; exact q1, fun j hj => cmdD_congr (fun q => mset_ne1 _ _ (by have : cs.length ≤ 10 := w1; omega)) (q3 j hj)⟩
theorem rc_bad {σ : gM} {e : Nat → Int32} {a : Nat → Nat} {c nx t pos : Nat} {T : Nat → Int32} {cs : List (Nat × List Int32)} (R : nowR σ e a) (Hh : hisD σ c nx) (ht : t ≤ 60) (H : HT σ t T) (hQ : prs (hT t T) t 10 0 = (false, pos, cs)) (hp : pos ≤ 60) : ∃ K : gM, f_X12_runCommands σ = some (.inr (1, K)) ∧ nowR K e a ∧ hisD K c nx ∧ K 0 7 = nI pos ∧ K 204 2 = 0 ∧ ∀ i q, ¬ (i = 0 ∧ q = 7) → i ≠ 204 → ¬ (207 ≤ i ∧ i < 217) → K i q = σ i q := by
  obtain ⟨σ5, o1, o2, code, -⟩ := rc_code ht H hQ
  have oK : ∀ i q, ¬ (i = 0 ∧ q = 7) → i ≠ 204 → ¬ (207 ≤ i ∧ i < 217) → mset σ5 0 7 (nI pos) i q = σ i q := fun i q h i1 i2 => by
    rw [← o1 i q i1 i2]
    by_cases hi : i = 0
    · subst hi; exact mset_ne2 _ _ (fun e => h ⟨rfl, e⟩)
    · exact mset_ne1 _ _ hi
  refine ⟨mset σ5 0 7 (nI pos), ?_, now_f0 R (fun i q i1 i2 => oK i q (by omega) (by omega) (by omega)), ⟨Hh.1, Hh.2.1, (oK 199 1 (by omega) (by omega) (by omega)).trans Hh.2.2.1, (oK 199 2 (by omega) (by omega) (by omega)).trans Hh.2.2.2⟩, mset_same _ _ _ _, (mset_ne1 _ _ (by decide)).trans o2, oK⟩
  rw [code]
  show (if nI pos = -1 then _ else _) = _
  rw [if_neg (nI_ne1 (by omega))]; rfl
theorem rc_done {σ : gM} {e e' : Nat → Int32} {a a' : Nat → Nat} {c nx t pos : Nat} {T : Nat → Int32} {cs : List (Nat × List Int32)} (R : nowR σ e a) (Hh : hisD σ c nx) (ht : t ≤ 60) (H : HT σ t T) (hQ : prs (hT t T) t 10 0 = (true, pos, cs)) (hs : seqOk cs e a e' a') (V' : vdR e' a') : ∃ K : gM, f_X12_runCommands σ = some (.inl (nI cs.length, K)) ∧ nowR K e' a' ∧ hisD K (min (c + 1) 8) ((nx + 1) % 9) ∧ blkR K (nx + 2) e a ∧ K 204 2 = 0 ∧ ∀ i q, i ≠ 199 → 19 ≤ i ∨ i = 0 → (i < 1 + 18 * (nx + 2) ∨ 1 + 18 * (nx + 2) + 18 ≤ i) → i ≠ 204 → ¬ (207 ≤ i ∧ i < 217) → K i q = σ i q := by
  obtain ⟨σ5, o1, o2, code, hc⟩ := rc_code ht H hQ
  obtain ⟨w1, w2, C5⟩ := hc rfl
  have R5 : nowR σ5 e a := now_f0 R (fun i q i1 i2 => o1 i q (by omega) (by omega))
  have Hh5 : hisD σ5 c nx := ⟨Hh.1, Hh.2.1, (o1 199 1 (by omega) (by omega)).trans Hh.2.2.1, (o1 199 2 (by omega) (by omega)).trans Hh.2.2.2⟩
  obtain ⟨hcc, hx, g1, g2⟩ := id Hh5
  obtain ⟨σ8, p1, p2, p3⟩ := e_prepare R5 Hh5
  have V := R5.2.2
  have B8 : blkR σ8 0 e a := blk_congr V.1 (fun o q h1 h2 h3 h4 => by rw [p2 _ (by omega)]) (fun _ _ => rfl) R5.1
  have C8 : CD σ8 cs := ⟨by rw [p2 204 (by omega)]; exact C5.1, fun j hj => cmdD_congr (fun q => by rw [p2 _ (by omega)]) (C5.2 j hj)⟩
  obtain ⟨σ11, u1, u2, u3⟩ := run_ok w2 w1 cs 0 (Nat.zero_add _) (fun j _ => by rw [Nat.zero_add]) e a e' a' hs σ8 gFU (by rw [gFU_eq]; omega) C8 B8
  have c11 : f_X12_carryOutCommands σ8 = some (-1, σ11) := by
    unfold f_X12_carryOutCommands
    rw [show f_X12_carryOutCommands_L2 gFU 0 σ8 = some (.inr σ11) from u1]; rfl
  have e199 : ∀ q, σ11 199 q = σ5 199 q := fun q => by rw [u2 199 (by omega), p2 199 (by omega)]
  generalize hK : mset (mset σ11 199 1 (nI ((nx + 1) % 9))) 199 2 (nI (min (c + 1) 8)) = K
  have kk : ∀ i q, i ≠ 199 → K i q = σ11 i q := fun i q hi => by rw [← hK, mset_ne1 _ _ hi, mset_ne1 _ _ hi]
  refine ⟨K, ?_, ⟨blk_congr V'.1 (fun o q h1 h2 h3 h4 => kk _ q (by omega)) (fun _ _ => rfl) u3, trivial, V'⟩, ⟨by omega, by omega, by rw [← hK, mset_ne2 _ _ (by decide), mset_same], by rw [← hK, mset_same]⟩, blk_congr V.1 (fun o q h1 h2 h3 h4 => by rw [kk _ q (by omega), u2 _ (by omega)]) (fun _ _ => rfl) p3, ?_, fun i q i1 i2 i3 i4 i5 => by rw [kk i q i1, u2 i i2, p2 i i3, o1 i q i4 i5]⟩
  · rw [code, if_pos (show (if true = true then (-1 : Int32) else nI pos) = -1 from rfl), p1, bd_s, c11, bd2_s, if_pos rfl, f_X2_commandCount, (CD_c u2 C8).1, bd_s, rc_ok (nI_ge0 (by omega)) hcc hx ((e199 1).trans g1) ((e199 2).trans g2), bt2_l, hK]
  · rw [kk 204 2 (by omega), u2 204 (by omega), p2 204 (by omega)]; exact o2
theorem rc_fail {σ : gM} {e e1 : Nat → Int32} {a a1 : Nat → Nat} {c nx t pos n : Nat} {T : Nat → Int32} {cs ys : List (Nat × List Int32)} {y : Nat × List Int32} (R : nowR σ e a) (Hh : hisD σ c nx) (ht : t ≤ 60) (H : HT σ t T) (hQ : prs (hT t T) t 10 0 = (true, pos, cs)) (hl : ys.length < cs.length) (hc : ∀ j, j < ys.length → cg cs j = cg ys j) (hy0 : cg cs ys.length = y) (hs : seqOk ys e a e1 a1) (hn : n ≤ 4) (hy : noD (cD y.1 (ng y.2 0) (ng y.2 1) (ng y.2 2)) e1 a1 n) : ∃ K : gM, f_X12_runCommands σ = some (.inr (3, K)) ∧ nowR K e a ∧ hisD K c nx ∧ K 0 8 = nI ys.length ∧ K 204 2 = 0 ∧ ∀ i q, ¬ (i = 0 ∧ q = 8) → 19 ≤ i ∨ i = 0 → (i < 1 + 18 * (nx + 2) ∨ 1 + 18 * (nx + 2) + 18 ≤ i) → i ≠ 204 → ¬ (207 ≤ i ∧ i < 217) → K i q = σ i q := by
  obtain ⟨σ5, o1, o2, code, hcc⟩ := rc_code ht H hQ
  obtain ⟨w1, w2, C5⟩ := hcc rfl
  have R5 : nowR σ5 e a := now_f0 R (fun i q i1 i2 => o1 i q (by omega) (by omega))
  have Hh5 : hisD σ5 c nx := ⟨Hh.1, Hh.2.1, (o1 199 1 (by omega) (by omega)).trans Hh.2.2.1, (o1 199 2 (by omega) (by omega)).trans Hh.2.2.2⟩
  obtain ⟨hcc, hx, g1, g2⟩ := id Hh5
  obtain ⟨σ8, p1, p2, p3⟩ := e_prepare R5 Hh5
  have V := R5.2.2
  have B8 : blkR σ8 0 e a := blk_congr V.1 (fun o q h1 h2 h3 h4 => by rw [p2 _ (by omega)]) (fun _ _ => rfl) R5.1
  have C8 : CD σ8 cs := ⟨by rw [p2 204 (by omega)]; exact C5.1, fun j hj => cmdD_congr (fun q => by rw [p2 _ (by omega)]) (C5.2 j hj)⟩
  obtain ⟨σ11, u1, u2⟩ := run_no w2 w1 hn hy ys 0 (by omega) (fun j hj => by rw [Nat.zero_add]; exact hc j hj) (by rw [Nat.zero_add]; exact hy0) e a hs σ8 gFU (by rw [gFU_eq]; omega) C8 B8
  rw [Nat.zero_add] at u1
  have c11 : f_X12_carryOutCommands σ8 = some (nI ys.length, σ11) := by
    unfold f_X12_carryOutCommands
    rw [show f_X12_carryOutCommands_L2 gFU 0 σ8 = some (.inl (nI ys.length, σ11)) from u1]; rfl
  have e199 : ∀ q, σ11 199 q = σ5 199 q := fun q => by rw [u2 199 (by omega), p2 199 (by omega)]
  obtain ⟨σ20, x1, x2, x3⟩ := e_copyFrom (σ := σ11) (kt := 0) (ko := nx + 2) (by omega)
  have pb : f_X7_putBack σ11 = some σ20 := by
    unfold f_X7_putBack
    rw [e199 1, g1, nI_gi (by omega) (by omega), g_nIc (by omega), x1]; rfl
  have B20 : blkR σ20 0 e a := x3 _ _ V.1 V.2.1 (blk_congr V.1 (fun o q y1 _ _ _ => by rw [u2 _ (by omega)]) (fun _ _ => rfl) p3)
  generalize hK : mset σ20 0 8 (nI ys.length) = K
  have kk : ∀ i q, ¬ (i = 0 ∧ q = 8) → K i q = σ20 i q := fun i q h => by
    rw [← hK]
    by_cases hi : i = 0
    · subst hi; exact mset_ne2 _ _ (fun e => h ⟨rfl, e⟩)
    · exact mset_ne1 _ _ hi
  have kσ : ∀ i q, ¬ (i = 0 ∧ q = 8) → 19 ≤ i ∨ i = 0 → (i < 1 + 18 * (nx + 2) ∨ 1 + 18 * (nx + 2) + 18 ≤ i) → K i q = σ5 i q := fun i q i1 i2 i3 => by rw [kk i q i1, x2 i (by omega), u2 i i2, p2 i i3]
  refine ⟨K, ?_, ⟨blk_congr V.1 (fun o q y1 _ _ _ => kk _ q (by omega)) (fun _ _ => rfl) B20, trivial, V⟩, ⟨Hh.1, Hh.2.1, (kσ 199 1 (by omega) (by omega) (by omega)).trans g1, (kσ 199 2 (by omega) (by omega) (by omega)).trans g2⟩, by rw [← hK, mset_same], (kσ 204 2 (by omega) (by omega) (by omega)).trans o2, fun i q i1 i2 i3 i4 i5 => (kσ i q i1 i2 i3).trans (o1 i q i4 i5)⟩
  rw [code, if_pos (show (if true = true then (-1 : Int32) else nI pos) = -1 from rfl), p1, bd_s, c11, bd2_s, if_neg (nI_ne1 (by omega)), pb, bd_s, nm_s, hK]
/-! saved, restored, undone -/
theorem d_save {σ : gM} {e : Nat → Int32} {a : Nat → Nat} (R : nowR σ e a) : ∃ K : gM, f_X12_save σ = some (nI (a 36), K) ∧ nowR K e a ∧ blkR K 1 e a ∧ K 0 6 = 1 ∧ ∀ i q, ¬ (i = 0 ∧ q = 6) → (i < 19 ∨ 37 ≤ i) → K i q = σ i q := by
  obtain ⟨σ1, e1, h1, h2⟩ := e_copyFrom (σ := σ) (kt := 1) (ko := 0) (by omega)
  have B1 := h2 e a R.2.2.1 R.2.2.2.1 R.1
  generalize hK : mset σ1 0 6 1 = K
  have kk : ∀ i q, ¬ (i = 0 ∧ q = 6) → K i q = σ1 i q := fun i q hi => by
    rw [← hK]
    by_cases h : i = 0
    · subst h; exact mset_ne2 _ _ (fun e => hi ⟨rfl, e⟩)
    · exact mset_ne1 _ _ h
  have kσ : ∀ i q, ¬ (i = 0 ∧ q = 6) → (i < 19 ∨ 37 ≤ i) → K i q = σ i q := fun i q hi hb => by rw [kk i q hi, h1 i (by omega)]
  have h7 : K 7 5 = nI (a 36) := (kσ 7 5 (by omega) (by omega)).trans R.1.2.2.1
  refine ⟨K, ?_, now_f0 R (fun i q i1 i2 => kσ i q (by omega) (by omega)), blk_congr R.2.2.1 (fun o q p1 _ _ _ => kk _ q (by omega)) (fun _ _ => rfl) B1, by rw [← hK, mset_same], kσ⟩
  unfold f_X12_save f_X8_size
  rw [e1, bd_s, nm_s, hK, bd_s, h7]
theorem d_restore {σ : gM} {e : Nat → Int32} {a : Nat → Nat} (B : blkR σ 1 e a) (V : vdR e a) (h6 : σ 0 6 = 1) : ∃ K : gM, f_X12_restore σ = some (.inl (nI (a 36), K)) ∧ nowR K e a := by
  obtain ⟨σ1, e1, h1, h2⟩ := e_copyFrom (σ := σ) (kt := 0) (ko := 1) (by omega)
  have B1 := h2 e a V.1 V.2.1 B
  generalize hK : mset σ1 199 2 0 = K
  have kk : ∀ i q, i ≠ 199 → K i q = σ1 i q := fun i q hi => by rw [← hK, mset_ne1 _ _ hi]
  have h7 : K 7 5 = nI (a 36) := (kk 7 5 (by omega)).trans B1.2.2.1
  refine ⟨K, ?_, ⟨blk_congr V.1 (fun o q p1 _ _ _ => kk _ q (by omega)) (fun _ _ => rfl) B1, trivial, V⟩⟩
  unfold f_X12_restore f_X7_forget f_X8_size
  rw [if_neg (by rw [h6]; decide), e1, bd_s, nm_s, hK, bd_s, bd_s, h7]
theorem d_undo {σ : gM} {e : Nat → Int32} {a : Nat → Nat} {d nx : Nat} (Hh : hisD σ (d + 1) nx) (B : blkR σ ((nx + 8) % 9 + 2) e a) (V : vdR e a) : ∃ K : gM, f_X12_undo σ = some (.inl (nI d, K)) ∧ nowR K e a ∧ hisD K d ((nx + 8) % 9) ∧ ∀ i q, i ≠ 199 → (i = 0 ∨ 19 ≤ i) → K i q = σ i q := by
  obtain ⟨hc, hx, g1, g2⟩ := id Hh
  have hz : ¬ nI (d + 1) = (0 : Int32) := by rw [show (0 : Int32) = nI 0 from rfl, nI_inj (by omega) (by omega)]; omega
  have hd : nI (d + 1) - 1 = nI d := by
    rcases (show d = 0 ∨ d = 1 ∨ d = 2 ∨ d = 3 ∨ d = 4 ∨ d = 5 ∨ d = 6 ∨ d = 7 by omega) with rfl | rfl | rfl | rfl | rfl | rfl | rfl | rfl <;> decide
  have hn : ((nI nx + 9) - 1) - ((nI nx + 9) - 1) / 9 * 9 = nI ((nx + 8) % 9) := by
    rcases (show nx = 0 ∨ nx = 1 ∨ nx = 2 ∨ nx = 3 ∨ nx = 4 ∨ nx = 5 ∨ nx = 6 ∨ nx = 7 ∨ nx = 8 by omega) with rfl | rfl | rfl | rfl | rfl | rfl | rfl | rfl | rfl <;> decide
  have hm : (nx + 8) % 9 < 9 := Nat.mod_lt _ (by omega)
  generalize hτ : mset (mset σ 199 1 (nI ((nx + 8) % 9))) 199 2 (nI d) = τ
  have tσ : ∀ i q, i ≠ 199 → τ i q = σ i q := fun i q hi => by rw [← hτ, mset_ne1 _ _ hi, mset_ne1 _ _ hi]
  have bτ : blkR τ ((nx + 8) % 9 + 2) e a := blk_congr V.1 (fun o q p1 _ _ _ => tσ _ q (by omega)) (fun _ _ => rfl) B
  obtain ⟨K, e1, h1, h2⟩ := e_copyFrom (σ := τ) (kt := 0) (ko := (nx + 8) % 9 + 2) (by omega)
  have B1 := h2 _ a V.1 V.2.1 bτ
  have kτ : ∀ i q, (i = 0 ∨ 19 ≤ i) → K i q = τ i q := fun i q hi => by rw [h1 i (by omega)]
  have k2 : K 199 2 = nI d := by rw [kτ 199 2 (by omega), ← hτ, mset_same]
  have t1 : τ 199 1 = nI ((nx + 8) % 9) := by rw [← hτ, mset_ne2 _ _ (by omega), mset_same]
  refine ⟨K, ?_, ⟨B1, trivial, V⟩, ⟨by omega, by omega, (kτ 199 1 (by omega)).trans t1, k2⟩, fun i q p1 p2 => (kτ i q p2).trans (tσ i q p1)⟩
  unfold f_X12_undo f_X7_size f_X7_goBack f_X7_putBack
  rw [bd_s, g2, if_neg hz, nm_s, nm_s, g1, hn, show mset σ 199 1 (nI ((nx + 8) % 9)) 199 2 = nI (d + 1) from (mset_ne2 _ _ (by omega)).trans g2, hd, hτ, t1, nI_gi (by omega) (by omega), g_nIc (by omega), e1, bd_s, bd_s, k2, bd2_s, ac_ok (nI_ge0 (j := d) (by omega)), bt_l]
/-! a text is typed -/
theorem d_feed {σ : gM} {t : Nat} (h60 : t < 60) (h : σ 204 2 = nI t) {x : Int32} (hx : vp_nar .char x = x) : ∃ K : gM, f_X12_feed σ x = some (.inl (nI (t + 1), K)) ∧ K 204 2 = nI (t + 1) ∧ K 205 t = x ∧ (∀ j, j ≠ t → K 205 j = σ 205 j) ∧ ∀ i, i ≠ 204 → i ≠ 205 → K i = σ i := by
  have hlt : nI t < (60 : Int32) := by rw [show (60 : Int32) = nI 60 from rfl, nI_ltq (by omega) (by omega)]; omega
  refine ⟨mset (mset σ 205 t x) 204 2 (nI (t + 1)), ?_, mset_same _ _ _ _, (mset_ne1 _ _ (by decide)).trans (mset_same _ _ _ _), fun j hj => (mset_ne1 _ _ (by decide)).trans (mset_ne2 _ _ hj), fun i i1 i2 => funext fun q => (mset_ne1 _ _ i1).trans (mset_ne1 _ _ i2)⟩
  unfold f_X12_feed f_X2_isFull
  rw [h, if_pos hlt, bd_s, if_pos rfl, f_X2_add, h, nI_gi (by omega) (by omega), g_nIc (by omega), nm_s, nm_s, hx, show mset σ 205 t x 204 2 = nI t from (mset_ne1 _ _ (by decide)).trans h, nI_s (by omega), mset_same, bd2_s, ac_ok (nI_ge0 (j := t + 1) (by omega)), bt_l]
theorem d_put2 {tx : List Int32} (hl : tx.length ≤ 60) (hc : ∀ j, j < tx.length → vp_nar .char (tx.getD j 0) = tx.getD j 0) : ∀ (k i n : Nat) (σ : gM), i + k = tx.length → k < n → σ 204 2 = nI i → (∀ j, j < i → σ 205 j = tx.getD j 0) → ∃ K : gM, f_L_put_L2 tx n (nI i) σ = some K ∧ HT K tx.length (fun j => tx.getD j 0) ∧ ∀ i, i ≠ 204 → i ≠ 205 → K i = σ i := by
  intro k
  induction k with
  | zero =>
    intro i n σ hi hn h1 h2
    obtain ⟨m, rfl⟩ : ∃ m, n = m + 1 := ⟨n - 1, by omega⟩
    have : i = tx.length := by omega
    subst this
    exact ⟨σ, by rw [f_L_put_L2, if_pos (by rw [nI_leq (by omega) (by omega)]; omega)], ⟨h1, h2⟩, fun _ _ _ => rfl⟩
  | succ k ih =>
    intro i n σ hi hn h1 h2
    obtain ⟨m, rfl⟩ : ∃ m, n = m + 1 := ⟨n - 1, by omega⟩
    obtain ⟨K1, f1, f2, f3, f4, f5⟩ := d_feed (σ := σ) (t := i) (by omega) h1 (hc i (by omega))
    obtain ⟨K, g1, g2, g3⟩ := ih (i + 1) m K1 (by omega) (by omega) f2 (fun j hj => by
      by_cases e : j = i
      · subst e; exact f3
      · rw [f4 j e]; exact h2 j (by omega))
    refine ⟨K, ?_, g2, fun i i1 i2 => (g3 i i1 i2).trans (f5 i i1 i2)⟩
    rw [f_L_put_L2, if_neg (by rw [nI_leq (by omega) (by omega)]; omega), nI_gi (by omega) (by omega), g_nIc (by omega), f1, btn2_l, nm_s, nI_s (by omega), g1]
theorem d_put {σ : gM} {tx : List Int32} (hl : tx.length ≤ 60) (hc : tx.all (fun x => decide (vp_nar .char x = x)) = true) (h : σ 204 2 = 0) : ∃ K : gM, f_L_put σ tx = some K ∧ HT K tx.length (fun j => tx.getD j 0) ∧ ∀ i, i ≠ 204 → i ≠ 205 → K i = σ i := by
  obtain ⟨K, h1, h2, h3⟩ := d_put2 hl (fun j hj => by
    have := List.all_eq_true.mp hc (tx.getD j 0) (by
      rw [List.getD_eq_getElem?_getD, List.getElem?_eq_getElem hj]
      exact List.getElem_mem hj)
    exact of_decide_eq_true this) tx.length 0 70 σ (Nat.zero_add _) (by omega) h (fun j hj => absurd hj (Nat.not_lt_zero _))
  refine ⟨K, ?_, h2, h3⟩
  unfold f_L_put
  rw [show f_L_put_L2 tx 70 0 σ = some K from h1, bd_s]
