set_option maxHeartbeats 4000000 in
set_option maxRecDepth 100000 in
theorem law_G {s : State} {b : Nat} (hts : ∀ w ∈ lw_tbl, w.before #[Value.ref b] s = true) (hgv : (Jvm.Cond.and given_1 narrow_1).before #[Value.ref b] s = true) : ∃ G : gT, nG s.heap.size G ∧ va_K (gtD G) vwCl (gtys G) s ∧ gCST G (gAA G s.heap.size) s ∧ nC s := by
  have hq := flat_of_before _ hgv
  have hG : ∀ w ∈ gTs, w.before #[Value.ref b] s = true := fun w hw => hts w (List.mem_filter.mp hw).1
  obtain ⟨c0, i0, hk0⟩ := u_known (C := RJ0) (T := TJ0) (N := 2) hG inJ0 (hG _ tw_3_81)
  obtain ⟨c1, i1, hk1⟩ := u_known (C := RJx00060) (T := TJx00060) (N := 6) hG inJx (hG _ tw_3_8)
  obtain ⟨c2, i2, hk2⟩ := u_known (C := RX1) (T := TX1) (N := 4) hG inX1 (hG _ tw_1_189)
  obtain ⟨c3, i3, hk3⟩ := u_known (C := RX2) (T := TX2) (N := 5) hG inX2 (hG _ tw_1_182)
  obtain ⟨c4, i4, hk4⟩ := u_known (C := RX3) (T := TX3) (N := 4) hG inX3 (hG _ tw_1_39)
  obtain ⟨c5, i5, hk5⟩ := u_known (C := RX4) (T := TX4) (N := 2) hG inX4 (hG _ tw_1_169)
  obtain ⟨c6, i6, hk6⟩ := u_known (C := RX6) (T := TX6) (N := 4) hG inX6 (hG _ tw_1_94)
  obtain ⟨c7, i7, hk7⟩ := u_known (C := RX7) (T := TX7) (N := 3) hG inX7 (hG _ tw_1_150)
  obtain ⟨c8, i8, hk8⟩ := u_known (C := RX8) (T := TX8) (N := 6) hG inX8 (hG _ tw_1_69)
  obtain ⟨c9, i9, hk9⟩ := u_known (C := RX9) (T := TX9) (N := 5) hG inX9 (hG _ tw_1_45)
  obtain ⟨c10, i10, hk10⟩ := u_known (C := RX10) (T := TX10) (N := 2) hG inX10 (hG _ tw_1_230)
  obtain ⟨c11, i11, hk11⟩ := u_known (C := RX11) (T := TX11) (N := 3) hG inX11 (hG _ tw_1_113)
  obtain ⟨c12, i12, hk12⟩ := u_known (C := RX12) (T := TX12) (N := 9) hG inX12 (hG _ tw_1_31)
  obtain ⟨c13, i13, hk13⟩ := u_known (C := RX13) (T := TX13) (N := 17) hG inX13 (hG _ tw_6_102)
  obtain ⟨a0, ka0, co0, ha0, hb0, hc0⟩ := Cond.arrayClass_spec (hG _ tw_1_66)
  obtain ⟨a1, ka1, co1, ha1, hb1, hc1⟩ := Cond.arrayClass_spec (hG _ tw_1_67)
  obtain ⟨a2, ka2, co2, ha2, hb2, hc2⟩ := Cond.arrayClass_spec (hG _ tw_1_212)
  obtain ⟨a5, ka5, co5, ha5, hb5, hc5⟩ := Cond.arrayClass_spec (hG _ tw_8_58)
  obtain ⟨a6, ka6, co6, ha6, hb6, hc6⟩ := Cond.arrayClass_spec (hG _ tw_8_59)
  have hv3 : va_AO RX3 s := va_AO.of (hts _ tn_1_156)
  obtain ⟨co3, a3, ka3, hd3, he3, hb3, hc3, ha3⟩ := Cond.arrayOver_spec hv3
  have hv4 : va_AO RX1 s := va_AO.of (hts _ tn_1_188)
  obtain ⟨co4, a4, ka4, hd4, he4, hb4, hc4, ha4⟩ := Cond.arrayOver_spec hv4
  obtain ⟨f0, -, -, -, hf0, -⟩ := Cond.exactly_spec (hq _ fn_31)
  obtain ⟨f1, -, -, -, hf1, -⟩ := Cond.exactly_spec (hq _ fn_34)
  obtain ⟨f2, -, -, -, hf2, -⟩ := Cond.exactly_spec (hq _ fn_38)
  obtain ⟨f3, -, -, -, hf3, -⟩ := Cond.exactly_spec (hq _ fn_43)
  obtain ⟨f4, -, -, -, hf4, -⟩ := Cond.exactly_spec (hq _ fn_49)
  obtain ⟨f5, -, -, -, hf5, -⟩ := Cond.exactly_spec (hq _ fn_56)
  obtain ⟨f6, -, -, -, hf6, -⟩ := Cond.exactly_spec (hq _ fn_64)
  obtain ⟨x0, -, -, -, hx0, -⟩ := Cond.exactly_spec (hq _ fn_392)
  obtain ⟨x1, -, -, -, hx1, -⟩ := Cond.exactly_spec (hq _ fn_421)
  obtain ⟨x2, -, -, -, hx2, -⟩ := Cond.exactly_spec (hq _ fn_452)
  obtain ⟨x3, -, -, -, hx3, -⟩ := Cond.exactly_spec (hq _ fn_494)
  obtain ⟨x4, -, -, -, hx4, -⟩ := Cond.exactly_spec (hq _ fn_228)
  obtain ⟨x5, -, -, -, hx5, -⟩ := Cond.exactly_spec (hq _ fn_264)
  obtain ⟨x6, -, -, -, hx6, -⟩ := Cond.exactly_spec (hq _ fn_296)
  obtain ⟨x7, -, -, -, hx7, -⟩ := Cond.exactly_spec (hq _ fn_336)
  obtain ⟨x8, -, -, -, hx8, -⟩ := Cond.exactly_spec (hq _ fn_362)
  have hA : ∀ a : Nat, a < s.heap.size → ¬ s.heap.size ≤ a := fun a h => by omega
  obtain ⟨aK, aV, hS, hSe⟩ : ∃ adK adV : Nat → Nat, vk_S 7 gLen gByt adK adV (fun q => s.heap.size ≤ q) s s.heap ∧ ∀ i : Nat, i < 7 → (Jvm.Term.string "ParcelDepot$Form" ([49, 55, 58, 61, 64, 67, 70].getD i 0)).eval #[Value.ref b] s none [] s = some (.ref (adK i)) := by
    refine vk_Sof (tm := fun i => Jvm.Term.string "ParcelDepot$Form" ([49, 55, 58, 61, 64, 67, 70].getD i 0)) (fun i hi => ?_) (fun i hi => ?_) (fun i hi => ?_) (fun i hi => ?_) (fun i hi => ?_) (fun i hi j hj => ?_) (fun i j hi hj hne => ?_) hA
    · rcases (show i = 0 ∨ i = 1 ∨ i = 2 ∨ i = 3 ∨ i = 4 ∨ i = 5 ∨ i = 6 by omega) with rfl | rfl | rfl | rfl | rfl | rfl | rfl
      · exact (by decide : (10 : Nat) < 2 ^ 31)
      · exact (by decide : (12 : Nat) < 2 ^ 31)
      · exact (by decide : (7 : Nat) < 2 ^ 31)
      · exact (by decide : (7 : Nat) < 2 ^ 31)
      · exact (by decide : (5 : Nat) < 2 ^ 31)
      · exact (by decide : (9 : Nat) < 2 ^ 31)
      · exact (by decide : (6 : Nat) < 2 ^ 31)
    · rcases (show i = 0 ∨ i = 1 ∨ i = 2 ∨ i = 3 ∨ i = 4 ∨ i = 5 ∨ i = 6 by omega) with rfl | rfl | rfl | rfl | rfl | rfl | rfl
      · exact (hq _ fn_524)
      · exact (hq _ fn_547)
      · exact (hq _ fn_573)
      · exact (hq _ fn_595)
      · exact (hq _ fn_618)
      · exact (hq _ fn_640)
      · exact (hq _ fn_667)
    · rcases (show i = 0 ∨ i = 1 ∨ i = 2 ∨ i = 3 ∨ i = 4 ∨ i = 5 ∨ i = 6 by omega) with rfl | rfl | rfl | rfl | rfl | rfl | rfl
      · exact (hq _ fn_525)
      · exact (hq _ fn_548)
      · exact (hq _ fn_574)
      · exact (hq _ fn_596)
      · exact (hq _ fn_619)
      · exact (hq _ fn_641)
      · exact (hq _ fn_668)
    · rcases (show i = 0 ∨ i = 1 ∨ i = 2 ∨ i = 3 ∨ i = 4 ∨ i = 5 ∨ i = 6 by omega) with rfl | rfl | rfl | rfl | rfl | rfl | rfl
      · exact (hq _ fn_526)
      · exact (hq _ fn_549)
      · exact (hq _ fn_575)
      · exact (hq _ fn_597)
      · exact (hq _ fn_620)
      · exact (hq _ fn_642)
      · exact (hq _ fn_669)
    · rcases (show i = 0 ∨ i = 1 ∨ i = 2 ∨ i = 3 ∨ i = 4 ∨ i = 5 ∨ i = 6 by omega) with rfl | rfl | rfl | rfl | rfl | rfl | rfl
      · exact (hq _ fn_527)
      · exact (hq _ fn_550)
      · exact (hq _ fn_576)
      · exact (hq _ fn_598)
      · exact (hq _ fn_621)
      · exact (hq _ fn_643)
      · exact (hq _ fn_670)
    · rcases (show i = 0 ∨ i = 1 ∨ i = 2 ∨ i = 3 ∨ i = 4 ∨ i = 5 ∨ i = 6 by omega) with rfl | rfl | rfl | rfl | rfl | rfl | rfl
      · have hj : j < 10 := hj
        rcases (show j = 0 ∨ j = 1 ∨ j = 2 ∨ j = 3 ∨ j = 4 ∨ j = 5 ∨ j = 6 ∨ j = 7 ∨ j = 8 ∨ j = 9 by omega) with rfl | rfl | rfl | rfl | rfl | rfl | rfl | rfl | rfl | rfl
        · exact (hq _ fn_528)
        · exact (hq _ fn_529)
        · exact (hq _ fn_530)
        · exact (hq _ fn_531)
        · exact (hq _ fn_532)
        · exact (hq _ fn_533)
        · exact (hq _ fn_534)
        · exact (hq _ fn_535)
        · exact (hq _ fn_536)
        · exact (hq _ fn_537)
      · have hj : j < 12 := hj
        rcases (show j = 0 ∨ j = 1 ∨ j = 2 ∨ j = 3 ∨ j = 4 ∨ j = 5 ∨ j = 6 ∨ j = 7 ∨ j = 8 ∨ j = 9 ∨ j = 10 ∨ j = 11 by omega) with rfl | rfl | rfl | rfl | rfl | rfl | rfl | rfl | rfl | rfl | rfl | rfl
        · exact (hq _ fn_551)
        · exact (hq _ fn_552)
        · exact (hq _ fn_553)
        · exact (hq _ fn_554)
        · exact (hq _ fn_555)
        · exact (hq _ fn_556)
        · exact (hq _ fn_557)
        · exact (hq _ fn_558)
        · exact (hq _ fn_559)
        · exact (hq _ fn_560)
        · exact (hq _ fn_561)
        · exact (hq _ fn_562)
      · have hj : j < 7 := hj
        rcases (show j = 0 ∨ j = 1 ∨ j = 2 ∨ j = 3 ∨ j = 4 ∨ j = 5 ∨ j = 6 by omega) with rfl | rfl | rfl | rfl | rfl | rfl | rfl
        · exact (hq _ fn_577)
        · exact (hq _ fn_578)
        · exact (hq _ fn_579)
        · exact (hq _ fn_580)
        · exact (hq _ fn_581)
        · exact (hq _ fn_582)
        · exact (hq _ fn_583)
      · have hj : j < 7 := hj
        rcases (show j = 0 ∨ j = 1 ∨ j = 2 ∨ j = 3 ∨ j = 4 ∨ j = 5 ∨ j = 6 by omega) with rfl | rfl | rfl | rfl | rfl | rfl | rfl
        · exact (hq _ fn_599)
        · exact (hq _ fn_600)
        · exact (hq _ fn_601)
        · exact (hq _ fn_602)
        · exact (hq _ fn_603)
        · exact (hq _ fn_604)
        · exact (hq _ fn_605)
      · have hj : j < 5 := hj
        rcases (show j = 0 ∨ j = 1 ∨ j = 2 ∨ j = 3 ∨ j = 4 by omega) with rfl | rfl | rfl | rfl | rfl
        · exact (hq _ fn_622)
        · exact (hq _ fn_623)
        · exact (hq _ fn_624)
        · exact (hq _ fn_625)
        · exact (hq _ fn_626)
      · have hj : j < 9 := hj
        rcases (show j = 0 ∨ j = 1 ∨ j = 2 ∨ j = 3 ∨ j = 4 ∨ j = 5 ∨ j = 6 ∨ j = 7 ∨ j = 8 by omega) with rfl | rfl | rfl | rfl | rfl | rfl | rfl | rfl | rfl
        · exact (hq _ fn_644)
        · exact (hq _ fn_645)
        · exact (hq _ fn_646)
        · exact (hq _ fn_647)
        · exact (hq _ fn_648)
        · exact (hq _ fn_649)
        · exact (hq _ fn_650)
        · exact (hq _ fn_651)
        · exact (hq _ fn_652)
      · have hj : j < 6 := hj
        rcases (show j = 0 ∨ j = 1 ∨ j = 2 ∨ j = 3 ∨ j = 4 ∨ j = 5 by omega) with rfl | rfl | rfl | rfl | rfl | rfl
        · exact (hq _ fn_671)
        · exact (hq _ fn_672)
        · exact (hq _ fn_673)
        · exact (hq _ fn_674)
        · exact (hq _ fn_675)
        · exact (hq _ fn_676)
    · rcases (show i = 0 ∨ i = 1 ∨ i = 2 ∨ i = 3 ∨ i = 4 ∨ i = 5 ∨ i = 6 by omega) with rfl | rfl | rfl | rfl | rfl | rfl | rfl
      · rcases (show j = 0 ∨ j = 1 ∨ j = 2 ∨ j = 3 ∨ j = 4 ∨ j = 5 ∨ j = 6 by omega) with rfl | rfl | rfl | rfl | rfl | rfl | rfl
        · exact absurd rfl hne
        · exact Or.inl (hq _ fn_572)
        · exact Or.inl (hq _ fn_593)
        · exact Or.inl (hq _ fn_615)
        · exact Or.inl (hq _ fn_636)
        · exact Or.inl (hq _ fn_662)
        · exact Or.inl (hq _ fn_686)
      · rcases (show j = 0 ∨ j = 1 ∨ j = 2 ∨ j = 3 ∨ j = 4 ∨ j = 5 ∨ j = 6 by omega) with rfl | rfl | rfl | rfl | rfl | rfl | rfl
        · exact Or.inr (hq _ fn_572)
        · exact absurd rfl hne
        · exact Or.inl (hq _ fn_594)
        · exact Or.inl (hq _ fn_616)
        · exact Or.inl (hq _ fn_637)
        · exact Or.inl (hq _ fn_663)
        · exact Or.inl (hq _ fn_687)
      · rcases (show j = 0 ∨ j = 1 ∨ j = 2 ∨ j = 3 ∨ j = 4 ∨ j = 5 ∨ j = 6 by omega) with rfl | rfl | rfl | rfl | rfl | rfl | rfl
        · exact Or.inr (hq _ fn_593)
        · exact Or.inr (hq _ fn_594)
        · exact absurd rfl hne
        · exact Or.inl (hq _ fn_617)
        · exact Or.inl (hq _ fn_638)
        · exact Or.inl (hq _ fn_664)
        · exact Or.inl (hq _ fn_688)
      · rcases (show j = 0 ∨ j = 1 ∨ j = 2 ∨ j = 3 ∨ j = 4 ∨ j = 5 ∨ j = 6 by omega) with rfl | rfl | rfl | rfl | rfl | rfl | rfl
        · exact Or.inr (hq _ fn_615)
        · exact Or.inr (hq _ fn_616)
        · exact Or.inr (hq _ fn_617)
        · exact absurd rfl hne
        · exact Or.inl (hq _ fn_639)
        · exact Or.inl (hq _ fn_665)
        · exact Or.inl (hq _ fn_689)
      · rcases (show j = 0 ∨ j = 1 ∨ j = 2 ∨ j = 3 ∨ j = 4 ∨ j = 5 ∨ j = 6 by omega) with rfl | rfl | rfl | rfl | rfl | rfl | rfl
        · exact Or.inr (hq _ fn_636)
        · exact Or.inr (hq _ fn_637)
        · exact Or.inr (hq _ fn_638)
        · exact Or.inr (hq _ fn_639)
        · exact absurd rfl hne
        · exact Or.inl (hq _ fn_666)
        · exact Or.inl (hq _ fn_690)
      · rcases (show j = 0 ∨ j = 1 ∨ j = 2 ∨ j = 3 ∨ j = 4 ∨ j = 5 ∨ j = 6 by omega) with rfl | rfl | rfl | rfl | rfl | rfl | rfl
        · exact Or.inr (hq _ fn_662)
        · exact Or.inr (hq _ fn_663)
        · exact Or.inr (hq _ fn_664)
        · exact Or.inr (hq _ fn_665)
        · exact Or.inr (hq _ fn_666)
        · exact absurd rfl hne
        · exact Or.inl (hq _ fn_691)
      · rcases (show j = 0 ∨ j = 1 ∨ j = 2 ∨ j = 3 ∨ j = 4 ∨ j = 5 ∨ j = 6 by omega) with rfl | rfl | rfl | rfl | rfl | rfl | rfl
        · exact Or.inr (hq _ fn_686)
        · exact Or.inr (hq _ fn_687)
        · exact Or.inr (hq _ fn_688)
        · exact Or.inr (hq _ fn_689)
        · exact Or.inr (hq _ fn_690)
        · exact Or.inr (hq _ fn_691)
        · exact absurd rfl hne
  obtain ⟨tF, htF, hTF⟩ : ∃ t : Nat, (Jvm.Term.static "ParcelDepot" "FORMS" "[LParcelDepot$Form;").eval #[Value.ref b] s none [] s = some (.ref t) ∧ va_T (.object "ParcelDepot$Form") t 7 (fun j => .ref ([f0, f1, f2, f3, f4, f5, f6].getD j 0)) (fun q => s.heap.size ≤ q) s s.heap := by
    refine va_Tof (by decide) (hq _ fn_6) (va_eqt (hq _ fn_7)) (fun j hj => ?_) hA
    rcases (show j = 0 ∨ j = 1 ∨ j = 2 ∨ j = 3 ∨ j = 4 ∨ j = 5 ∨ j = 6 by omega) with rfl | rfl | rfl | rfl | rfl | rfl | rfl
    · exact va_eqv (hq _ fn_9) hf0
    · exact va_eqv (hq _ fn_10) hf1
    · exact va_eqv (hq _ fn_11) hf2
    · exact va_eqv (hq _ fn_12) hf3
    · exact va_eqv (hq _ fn_13) hf4
    · exact va_eqv (hq _ fn_14) hf5
    · exact va_eqv (hq _ fn_15) hf6
  obtain ⟨tW, htW, hTW⟩ : ∃ t : Nat, (Jvm.Term.static "ParcelDepot$1" "$SwitchMap$ParcelDepot$Form" "[I").eval #[Value.ref b] s none [] s = some (.ref t) ∧ va_T .int t 7 (fun j => .int (nI (j + 1))) (fun q => s.heap.size ≤ q) s s.heap := by
    refine va_Tof (by decide) (hq _ fn_22) (va_eqt (hq _ fn_23)) (fun j hj => ?_) hA
    rcases (show j = 0 ∨ j = 1 ∨ j = 2 ∨ j = 3 ∨ j = 4 ∨ j = 5 ∨ j = 6 by omega) with rfl | rfl | rfl | rfl | rfl | rfl | rfl
    · exact va_eqt (hq _ fn_24)
    · exact va_eqt (hq _ fn_25)
    · exact va_eqt (hq _ fn_26)
    · exact va_eqt (hq _ fn_27)
    · exact va_eqt (hq _ fn_28)
    · exact va_eqt (hq _ fn_29)
    · exact va_eqt (hq _ fn_30)
  let K : Nat → Nat := fun i => if i < 7 then aK i else [x0, x1, x2, x3, x4, x5, x6, x7, x8].getD (i - 7) 0
  let G : gT := (fun i => s.heap.size + gpi i, (fun t => match t with | 0 => a0 | 1 => a1 | 2 => a2 | 3 => a3 | 4 => a4 | 5 => a5 | _ => a6), (fun k => match k with | 0 => c0 | 1 => c1 | 2 => c2 | 3 => c3 | 4 => c4 | 5 => c5 | 6 => c6 | 7 => c7 | 8 => c8 | 9 => c9 | 10 => c10 | 11 => c11 | 12 => c12 | _ => c13, fun k => match k with | 0 => i0 | 1 => i1 | 2 => i2 | 3 => i3 | 4 => i4 | 5 => i5 | 6 => i6 | 7 => i7 | 8 => i8 | 9 => i9 | 10 => i10 | 11 => i11 | 12 => i12 | _ => i13), (fun i => [f0, f1, f2, f3, f4, f5, f6].getD i 0), K, aV, (fun i => if i = 0 then tF else tW))
  have hAA : ∀ q : Nat, gAA G s.heap.size q → s.heap.size ≤ q := fun q h => by
    rcases h with ⟨i, hi, e⟩ | h
    · rw [e]; exact Nat.le_add_right _ _
    · exact h
  have g1 : ∀ w ∈ gTs, w.before #[] s = true := fun w hw => by
    rcases good_of_word (List.mem_filter.mp hw).2 with hg | ⟨ty, rfl⟩
    · simp only [Bool.and_eq_true] at hg
      exact va_any hg.1 (hG w hw)
    · exact hG _ hw
  have g2 : ∀ w ∈ gNs, va_Nw w s := fun w hw => by
    have hg := List.all_eq_true.mp gNs_ok w hw
    exact va_any (A := #[Value.ref b]) (by cases w <;> first | rfl | (simp [gOkN] at hg)) (hts w (gNs_in w hw))
  have g3 : ∀ i, i < 16 → vk_R (gTx.getD i ("", 0, "")).1 (gTx.getD i ("", 0, "")).2.1 (gTx.getD i ("", 0, "")).2.2 (K i) s := by
    intro i hi
    rcases (show i = 0 ∨ i = 1 ∨ i = 2 ∨ i = 3 ∨ i = 4 ∨ i = 5 ∨ i = 6 ∨ i = 7 ∨ i = 8 ∨ i = 9 ∨ i = 10 ∨ i = 11 ∨ i = 12 ∨ i = 13 ∨ i = 14 ∨ i = 15 by omega) with rfl | rfl | rfl | rfl | rfl | rfl | rfl | rfl | rfl | rfl | rfl | rfl | rfl | rfl | rfl | rfl
    · exact vk_R.of (hts _ tn_8_95) (hSe 0 (by decide))
    · exact vk_R.of (hts _ tn_8_96) (hSe 1 (by decide))
    · exact vk_R.of (hts _ tn_8_97) (hSe 2 (by decide))
    · exact vk_R.of (hts _ tn_8_98) (hSe 3 (by decide))
    · exact vk_R.of (hts _ tn_8_99) (hSe 4 (by decide))
    · exact vk_R.of (hts _ tn_8_100) (hSe 5 (by decide))
    · exact vk_R.of (hts _ tn_8_101) (hSe 6 (by decide))
    · exact vk_R.of (hts _ tn_5_114) hx0
    · exact vk_R.of (hts _ tn_5_228) hx1
    · exact vk_R.of (hts _ tn_6_18) hx2
    · exact vk_R.of (hts _ tn_6_96) hx3
    · exact vk_R.of (hts _ tn_3_127) hx4
    · exact vk_R.of (hts _ tn_3_140) hx5
    · exact vk_R.of (hts _ tn_3_156) hx6
    · exact vk_R.of (hts _ tn_3_172) hx7
    · exact vk_R.of (hts _ tn_3_188) hx8
  have g4 : ∀ q ∈ gNc, va_Nc q.1 q.2 s := List.forall_mem_cons.mpr ⟨va_Nc.of (hq _ fn_104), List.forall_mem_cons.mpr ⟨va_Nc.of (hq _ fn_123), List.forall_mem_cons.mpr ⟨va_Nc.of (hq _ fn_142), List.forall_mem_cons.mpr ⟨va_Nc.of (hq _ fn_161), List.forall_mem_cons.mpr ⟨va_Nc.of (hq _ fn_180), List.forall_mem_cons.mpr ⟨va_Nc.of (hq _ fn_85), List.forall_mem_cons.mpr ⟨va_Nc.of (hq _ fn_124), List.forall_mem_cons.mpr ⟨va_Nc.of (hq _ fn_143), List.forall_mem_cons.mpr ⟨va_Nc.of (hq _ fn_162), List.forall_mem_cons.mpr ⟨va_Nc.of (hq _ fn_181), List.forall_mem_cons.mpr ⟨va_Nc.of (hq _ fn_86), List.forall_mem_cons.mpr ⟨va_Nc.of (hq _ fn_105), List.forall_mem_cons.mpr ⟨va_Nc.of (hq _ fn_144), List.forall_mem_cons.mpr ⟨va_Nc.of (hq _ fn_163), List.forall_mem_cons.mpr ⟨va_Nc.of (hq _ fn_182), List.forall_mem_cons.mpr ⟨va_Nc.of (hq _ fn_87), List.forall_mem_cons.mpr ⟨va_Nc.of (hq _ fn_106), List.forall_mem_cons.mpr ⟨va_Nc.of (hq _ fn_125), List.forall_mem_cons.mpr ⟨va_Nc.of (hq _ fn_164), List.forall_mem_cons.mpr ⟨va_Nc.of (hq _ fn_183), List.forall_mem_cons.mpr ⟨va_Nc.of (hq _ fn_88), List.forall_mem_cons.mpr ⟨va_Nc.of (hq _ fn_107), List.forall_mem_cons.mpr ⟨va_Nc.of (hq _ fn_126), List.forall_mem_cons.mpr ⟨va_Nc.of (hq _ fn_145), List.forall_mem_cons.mpr ⟨va_Nc.of (hq _ fn_184), List.forall_mem_cons.mpr ⟨va_Nc.of (hq _ fn_89), List.forall_mem_cons.mpr ⟨va_Nc.of (hq _ fn_108), List.forall_mem_cons.mpr ⟨va_Nc.of (hq _ fn_127), List.forall_mem_cons.mpr ⟨va_Nc.of (hq _ fn_146), List.forall_mem_cons.mpr ⟨va_Nc.of (hq _ fn_165), fun _ h => absurd h List.not_mem_nil⟩⟩⟩⟩⟩⟩⟩⟩⟩⟩⟩⟩⟩⟩⟩⟩⟩⟩⟩⟩⟩⟩⟩⟩⟩⟩⟩⟩⟩⟩
  have g5 : gKS G (fun q => s.heap.size ≤ q) s s.heap := by
    refine ⟨⟨vx_Zqof (hts _ tn_3_25) (hts _ tn_1_13) (hq _ fn_2) hA, vx_Zqof (hts _ tn_3_27) (hts _ tn_1_13) (hq _ fn_3) hA⟩, ⟨va_Zref (hts _ tn_5_158) (hts _ tn_1_1) htF hA, hTF⟩, ⟨?_, ?_⟩, ⟨va_Zref (hts _ tn_6_7) (hts _ tn_1_29) htW hA, hTW⟩, ⟨fun i hi => ?_, fun i j hi hj e => ?_⟩, va_Zof (hts _ tn_5_172) (hts _ tn_1_18) (va_eqt (hq _ fn_16)) hA, va_Zqof (hts _ tn_5_188) (hts _ tn_1_27) (hq _ fn_17) hA, fun i hi => ?_⟩
    · refine va_Efof (args := #[Value.ref b]) (E := "ParcelDepot$Form") (d0 := "LParcelDepot$Form;") (nm := ["ROAD", "PARCEL", "GLOVE", "PUT", "OUT", "CARRY", "BACK"]) (tm := fun i => Jvm.Term.string "ParcelDepot$Form" ([49, 55, 58, 61, 64, 67, 70].getD i 0)) (fun i hi => ?_) (fun i hi => ?_) (fun i hi => ?_) hA
      · rcases (show i = 0 ∨ i = 1 ∨ i = 2 ∨ i = 3 ∨ i = 4 ∨ i = 5 ∨ i = 6 by omega) with rfl | rfl | rfl | rfl | rfl | rfl | rfl
        · exact hf0
        · exact hf1
        · exact hf2
        · exact hf3
        · exact hf4
        · exact hf5
        · exact hf6
      · rcases (show i = 0 ∨ i = 1 ∨ i = 2 ∨ i = 3 ∨ i = 4 ∨ i = 5 ∨ i = 6 by omega) with rfl | rfl | rfl | rfl | rfl | rfl | rfl
        · exact (hq _ fn_33)
        · exact (hq _ fn_36)
        · exact (hq _ fn_40)
        · exact (hq _ fn_45)
        · exact (hq _ fn_51)
        · exact (hq _ fn_58)
        · exact (hq _ fn_66)
      · show _ = some (Value.ref (K i))
        have e : K i = aK i := if_pos hi
        rw [e]
        exact hSe i hi
    · refine va_Efof (args := #[Value.ref b]) (E := "ParcelDepot$Form") (d0 := "LParcelDepot$Form;") (nm := ["ROAD", "PARCEL", "GLOVE", "PUT", "OUT", "CARRY", "BACK"]) (tm := fun i => Jvm.Term.int (nI i)) (fun i hi => ?_) (fun i hi => ?_) (fun i hi => rfl) hA
      · rcases (show i = 0 ∨ i = 1 ∨ i = 2 ∨ i = 3 ∨ i = 4 ∨ i = 5 ∨ i = 6 by omega) with rfl | rfl | rfl | rfl | rfl | rfl | rfl
        · exact hf0
        · exact hf1
        · exact hf2
        · exact hf3
        · exact hf4
        · exact hf5
        · exact hf6
      · rcases (show i = 0 ∨ i = 1 ∨ i = 2 ∨ i = 3 ∨ i = 4 ∨ i = 5 ∨ i = 6 by omega) with rfl | rfl | rfl | rfl | rfl | rfl | rfl
        · exact (hq _ fn_32)
        · exact (hq _ fn_35)
        · exact (hq _ fn_39)
        · exact (hq _ fn_44)
        · exact (hq _ fn_50)
        · exact (hq _ fn_57)
        · exact (hq _ fn_65)
    · have e : K i = aK i := if_pos hi
      have h9 := hS.1 i hi
      rw [← e] at h9
      exact h9
    · have e1 : K i = aK i := if_pos hi
      have e2 : K j = aK j := if_pos hj
      exact hS.2 i j hi hj (e1.symm.trans (Eq.trans e e2))
    · rcases (show i = 0 ∨ i = 1 ∨ i = 2 ∨ i = 3 ∨ i = 4 ∨ i = 5 ∨ i = 6 by omega) with rfl | rfl | rfl | rfl | rfl | rfl | rfl
      · exact va_Oof (hq _ fn_31) hf0 hA
      · exact va_Oof (hq _ fn_34) hf1 hA
      · exact va_Oof (hq _ fn_38) hf2 hA
      · exact va_Oof (hq _ fn_43) hf3 hA
      · exact va_Oof (hq _ fn_49) hf4 hA
      · exact va_Oof (hq _ fn_56) hf5 hA
      · exact va_Oof (hq _ fn_64) hf6 hA
  refine ⟨G, fun i _ => rfl, ⟨?_, ?_⟩, ⟨g1, g2, g3, g4, g5.narrow hAA⟩, ⟨g1, g2, hv3, hv4⟩⟩
  · intro k q hq
    match k, hq with
    | 0, hq => cases hq; exact hk0
    | 1, hq => cases hq; exact hk1
    | 2, hq => cases hq; exact hk2
    | 3, hq => cases hq; exact hk3
    | 4, hq => cases hq; exact hk4
    | 5, hq => cases hq; exact hk5
    | 6, hq => cases hq; exact hk6
    | 7, hq => cases hq; exact hk7
    | 8, hq => cases hq; exact hk8
    | 9, hq => cases hq; exact hk9
    | 10, hq => cases hq; exact hk10
    | 11, hq => cases hq; exact hk11
    | 12, hq => cases hq; exact hk12
    | 13, hq => cases hq; exact hk13
    | k + 14, hq => exact absurd (List.getElem?_eq_some_iff.mp hq).1 (by show ¬ k + 14 < 14; omega)
  · intro k q hq
    match k, hq with
    | 0, hq => cases hq; exact ⟨fun N z => ⟨(fun k h => by cases h), ka0, hb0, co0, hc0⟩, ha0⟩
    | 1, hq => cases hq; exact ⟨fun N z => ⟨(fun k h => by cases h), ka1, hb1, co1, hc1⟩, ha1⟩
    | 2, hq => cases hq; exact ⟨fun N z => ⟨(fun k h => by cases h), ka2, hb2, co2, hc2⟩, ha2⟩
    | 3, hq => cases hq; exact ⟨fun N z => ⟨(fun k h => by cases h), ka3, hb3, co3, hc3⟩, ⟨ka3, co3, hb3, hc3, hd3, ha3⟩⟩
    | 4, hq => cases hq; exact ⟨fun N z => ⟨(fun k h => by cases h), ka4, hb4, co4, hc4⟩, ⟨ka4, co4, hb4, hc4, hd4, ha4⟩⟩
    | 5, hq => cases hq; exact ⟨fun N z => ⟨(fun k h => by cases h), ka5, hb5, co5, hc5⟩, ha5⟩
    | 6, hq => cases hq; exact ⟨fun N z => ⟨(fun k h => by cases h), ka6, hb6, co6, hc6⟩, ha6⟩
    | k + 7, hq => exact absurd (List.getElem?_eq_some_iff.mp hq).1 (by show ¬ k + 7 < 7; omega)
