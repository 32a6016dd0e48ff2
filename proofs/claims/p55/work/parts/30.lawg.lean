set_option maxHeartbeats 8000000 in
set_option maxRecDepth 100000 in
theorem law_B {s : State} {b L : Nat} {xs : Nat → Int32} (hX : va_X b L xs s s.heap) (hbl : b < s.heap.size) (hts : ∀ w ∈ lw_tbl, w.before #[Value.ref b] s = true) (hgv : (Jvm.Cond.and given_1 narrow_1).before #[Value.ref b] s = true) : ∃ B : gB, gtX (lz B) 2 = b ∧ gtX (lz B) 3 = L ∧ gtI (lz B) = xs ∧ lM B [] s s.heap [] ∧ lCs B s ∧ lCx B s := by
  have hq := flat_of_before _ hgv
  have hG : ∀ w ∈ gTs, w.before #[Value.ref b] s = true := fun w hw => hts w (List.mem_filter.mp hw).1
  obtain ⟨c0, i0, hk0⟩ := u_known (C := RJ0) (T := TJ0) (N := 4) hG inJ0 (hG _ tw_5_170)
  obtain ⟨c1, i1, hk1⟩ := u_known (C := RJ4) (T := TJ4) (N := 4) hG inJ4 (hG _ tw_6_11)
  obtain ⟨c2, i2, hk2⟩ := u_known (C := RJx00060) (T := TJx00060) (N := 6) hG inJx (hG _ tw_5_155)
  obtain ⟨c3, i3, hk3⟩ := u_known (C := RX1) (T := TX1) (N := 4) hG inX1 (hG _ tw_1_194)
  obtain ⟨c4, i4, hk4⟩ := u_known (C := RX2) (T := TX2) (N := 5) hG inX2 (hG _ tw_1_187)
  obtain ⟨c5, i5, hk5⟩ := u_known (C := RX3) (T := TX3) (N := 4) hG inX3 (hG _ tw_1_44)
  obtain ⟨c6, i6, hk6⟩ := u_known (C := RX4) (T := TX4) (N := 2) hG inX4 (hG _ tw_1_174)
  obtain ⟨c7, i7, hk7⟩ := u_known (C := RX6) (T := TX6) (N := 4) hG inX6 (hG _ tw_1_99)
  obtain ⟨c8, i8, hk8⟩ := u_known (C := RX7) (T := TX7) (N := 3) hG inX7 (hG _ tw_1_155)
  obtain ⟨c9, i9, hk9⟩ := u_known (C := RX8) (T := TX8) (N := 6) hG inX8 (hG _ tw_1_74)
  obtain ⟨c10, i10, hk10⟩ := u_known (C := RX9) (T := TX9) (N := 5) hG inX9 (hG _ tw_1_50)
  obtain ⟨c11, i11, hk11⟩ := u_known (C := RX10) (T := TX10) (N := 2) hG inX10 (hG _ tw_1_235)
  obtain ⟨c12, i12, hk12⟩ := u_known (C := RX11) (T := TX11) (N := 3) hG inX11 (hG _ tw_1_118)
  obtain ⟨c13, i13, hk13⟩ := u_known (C := RX12) (T := TX12) (N := 9) hG inX12 (hG _ tw_1_36)
  obtain ⟨a0, ka0, co0, ha0, hb0, hc0⟩ := Cond.arrayClass_spec (hG _ tw_1_71)
  obtain ⟨a1, ka1, co1, ha1, hb1, hc1⟩ := Cond.arrayClass_spec (hG _ tw_1_72)
  obtain ⟨a2, ka2, co2, ha2, hb2, hc2⟩ := Cond.arrayClass_spec (hG _ tw_1_217)
  obtain ⟨a5, ka5, co5, ha5, hb5, hc5⟩ := Cond.arrayClass_spec (hG _ tw_2_165)
  have hv3 : va_AO RX3 s := va_AO.of (hts _ tn_1_161)
  obtain ⟨co3, a3, ka3, hd3, he3, hb3, hc3, ha3⟩ := Cond.arrayOver_spec hv3
  have hv4 : va_AO RX1 s := va_AO.of (hts _ tn_1_193)
  obtain ⟨co4, a4, ka4, hd4, he4, hb4, hc4, ha4⟩ := Cond.arrayOver_spec hv4
  obtain ⟨f0, -, -, -, hf0, -⟩ := Cond.exactly_spec (hq _ fn_237)
  obtain ⟨f1, -, -, -, hf1, -⟩ := Cond.exactly_spec (hq _ fn_240)
  obtain ⟨f2, -, -, -, hf2, -⟩ := Cond.exactly_spec (hq _ fn_244)
  obtain ⟨f3, -, -, -, hf3, -⟩ := Cond.exactly_spec (hq _ fn_249)
  obtain ⟨f4, -, -, -, hf4, -⟩ := Cond.exactly_spec (hq _ fn_255)
  obtain ⟨f5, -, -, -, hf5, -⟩ := Cond.exactly_spec (hq _ fn_262)
  obtain ⟨f6, -, -, -, hf6, -⟩ := Cond.exactly_spec (hq _ fn_270)
  obtain ⟨x0, -, -, -, hx0, -⟩ := Cond.exactly_spec (hq _ fn_574)
  obtain ⟨x1, -, -, -, hx1, -⟩ := Cond.exactly_spec (hq _ fn_598)
  obtain ⟨x2, -, -, -, hx2, -⟩ := Cond.exactly_spec (hq _ fn_623)
  obtain ⟨x3, -, -, -, hx3, -⟩ := Cond.exactly_spec (hq _ fn_658)
  obtain ⟨x4, -, -, -, hx4, -⟩ := Cond.exactly_spec (hq _ fn_420)
  obtain ⟨x5, -, -, -, hx5, -⟩ := Cond.exactly_spec (hq _ fn_456)
  obtain ⟨x6, -, -, -, hx6, -⟩ := Cond.exactly_spec (hq _ fn_487)
  obtain ⟨x7, -, -, -, hx7, -⟩ := Cond.exactly_spec (hq _ fn_525)
  obtain ⟨x8, -, -, -, hx8, -⟩ := Cond.exactly_spec (hq _ fn_548)
  have hA : ∀ a : Nat, a < s.heap.size → ¬ s.heap.size ≤ a := fun a h => by omega
  obtain ⟨p0, q0, hT0, hE0⟩ : ∃ (a v : Nat), vk_S 1 [gLen.getD 0 0] [gByt.getD 0 []] (fun _ => a) (fun _ => v) (fun q => s.heap.size ≤ q) s s.heap ∧ (Jvm.Term.string "ParcelDepot$Form" (49 : Nat)).eval #[Value.ref b] s none [] s = some (.ref a) := by
    refine g_S1 (by decide) (hq _ fn_907) (hq _ fn_908) (hq _ fn_909) (hq _ fn_910) (fun j hj => ?_) hA
    have hj : j < 10 := hj
    rcases (show j = 0 ∨ j = 1 ∨ j = 2 ∨ j = 3 ∨ j = 4 ∨ j = 5 ∨ j = 6 ∨ j = 7 ∨ j = 8 ∨ j = 9 by omega) with rfl | rfl | rfl | rfl | rfl | rfl | rfl | rfl | rfl | rfl
    · exact (hq _ fn_911)
    · exact (hq _ fn_912)
    · exact (hq _ fn_913)
    · exact (hq _ fn_914)
    · exact (hq _ fn_915)
    · exact (hq _ fn_916)
    · exact (hq _ fn_917)
    · exact (hq _ fn_918)
    · exact (hq _ fn_919)
    · exact (hq _ fn_920)
  obtain ⟨p1, q1, hT1, hE1⟩ : ∃ (a v : Nat), vk_S 1 [gLen.getD 1 0] [gByt.getD 1 []] (fun _ => a) (fun _ => v) (fun q => s.heap.size ≤ q) s s.heap ∧ (Jvm.Term.string "ParcelDepot$Form" (55 : Nat)).eval #[Value.ref b] s none [] s = some (.ref a) := by
    refine g_S1 (by decide) (hq _ fn_921) (hq _ fn_922) (hq _ fn_923) (hq _ fn_924) (fun j hj => ?_) hA
    have hj : j < 12 := hj
    rcases (show j = 0 ∨ j = 1 ∨ j = 2 ∨ j = 3 ∨ j = 4 ∨ j = 5 ∨ j = 6 ∨ j = 7 ∨ j = 8 ∨ j = 9 ∨ j = 10 ∨ j = 11 by omega) with rfl | rfl | rfl | rfl | rfl | rfl | rfl | rfl | rfl | rfl | rfl | rfl
    · exact (hq _ fn_925)
    · exact (hq _ fn_926)
    · exact (hq _ fn_927)
    · exact (hq _ fn_928)
    · exact (hq _ fn_929)
    · exact (hq _ fn_930)
    · exact (hq _ fn_931)
    · exact (hq _ fn_932)
    · exact (hq _ fn_933)
    · exact (hq _ fn_934)
    · exact (hq _ fn_935)
    · exact (hq _ fn_936)
  obtain ⟨p2, q2, hT2, hE2⟩ : ∃ (a v : Nat), vk_S 1 [gLen.getD 2 0] [gByt.getD 2 []] (fun _ => a) (fun _ => v) (fun q => s.heap.size ≤ q) s s.heap ∧ (Jvm.Term.string "ParcelDepot$Form" (58 : Nat)).eval #[Value.ref b] s none [] s = some (.ref a) := by
    refine g_S1 (by decide) (hq _ fn_937) (hq _ fn_938) (hq _ fn_939) (hq _ fn_940) (fun j hj => ?_) hA
    have hj : j < 7 := hj
    rcases (show j = 0 ∨ j = 1 ∨ j = 2 ∨ j = 3 ∨ j = 4 ∨ j = 5 ∨ j = 6 by omega) with rfl | rfl | rfl | rfl | rfl | rfl | rfl
    · exact (hq _ fn_941)
    · exact (hq _ fn_942)
    · exact (hq _ fn_943)
    · exact (hq _ fn_944)
    · exact (hq _ fn_945)
    · exact (hq _ fn_946)
    · exact (hq _ fn_947)
  obtain ⟨p3, q3, hT3, hE3⟩ : ∃ (a v : Nat), vk_S 1 [gLen.getD 3 0] [gByt.getD 3 []] (fun _ => a) (fun _ => v) (fun q => s.heap.size ≤ q) s s.heap ∧ (Jvm.Term.string "ParcelDepot$Form" (61 : Nat)).eval #[Value.ref b] s none [] s = some (.ref a) := by
    refine g_S1 (by decide) (hq _ fn_948) (hq _ fn_949) (hq _ fn_950) (hq _ fn_951) (fun j hj => ?_) hA
    have hj : j < 7 := hj
    rcases (show j = 0 ∨ j = 1 ∨ j = 2 ∨ j = 3 ∨ j = 4 ∨ j = 5 ∨ j = 6 by omega) with rfl | rfl | rfl | rfl | rfl | rfl | rfl
    · exact (hq _ fn_952)
    · exact (hq _ fn_953)
    · exact (hq _ fn_954)
    · exact (hq _ fn_955)
    · exact (hq _ fn_956)
    · exact (hq _ fn_957)
    · exact (hq _ fn_958)
  obtain ⟨p4, q4, hT4, hE4⟩ : ∃ (a v : Nat), vk_S 1 [gLen.getD 4 0] [gByt.getD 4 []] (fun _ => a) (fun _ => v) (fun q => s.heap.size ≤ q) s s.heap ∧ (Jvm.Term.string "ParcelDepot$Form" (64 : Nat)).eval #[Value.ref b] s none [] s = some (.ref a) := by
    refine g_S1 (by decide) (hq _ fn_959) (hq _ fn_960) (hq _ fn_961) (hq _ fn_962) (fun j hj => ?_) hA
    have hj : j < 5 := hj
    rcases (show j = 0 ∨ j = 1 ∨ j = 2 ∨ j = 3 ∨ j = 4 by omega) with rfl | rfl | rfl | rfl | rfl
    · exact (hq _ fn_963)
    · exact (hq _ fn_964)
    · exact (hq _ fn_965)
    · exact (hq _ fn_966)
    · exact (hq _ fn_967)
  obtain ⟨p5, q5, hT5, hE5⟩ : ∃ (a v : Nat), vk_S 1 [gLen.getD 5 0] [gByt.getD 5 []] (fun _ => a) (fun _ => v) (fun q => s.heap.size ≤ q) s s.heap ∧ (Jvm.Term.string "ParcelDepot$Form" (67 : Nat)).eval #[Value.ref b] s none [] s = some (.ref a) := by
    refine g_S1 (by decide) (hq _ fn_968) (hq _ fn_969) (hq _ fn_970) (hq _ fn_971) (fun j hj => ?_) hA
    have hj : j < 9 := hj
    rcases (show j = 0 ∨ j = 1 ∨ j = 2 ∨ j = 3 ∨ j = 4 ∨ j = 5 ∨ j = 6 ∨ j = 7 ∨ j = 8 by omega) with rfl | rfl | rfl | rfl | rfl | rfl | rfl | rfl | rfl
    · exact (hq _ fn_972)
    · exact (hq _ fn_973)
    · exact (hq _ fn_974)
    · exact (hq _ fn_975)
    · exact (hq _ fn_976)
    · exact (hq _ fn_977)
    · exact (hq _ fn_978)
    · exact (hq _ fn_979)
    · exact (hq _ fn_980)
  obtain ⟨p6, q6, hT6, hE6⟩ : ∃ (a v : Nat), vk_S 1 [gLen.getD 6 0] [gByt.getD 6 []] (fun _ => a) (fun _ => v) (fun q => s.heap.size ≤ q) s s.heap ∧ (Jvm.Term.string "ParcelDepot$Form" (70 : Nat)).eval #[Value.ref b] s none [] s = some (.ref a) := by
    refine g_S1 (by decide) (hq _ fn_981) (hq _ fn_982) (hq _ fn_983) (hq _ fn_984) (fun j hj => ?_) hA
    have hj : j < 6 := hj
    rcases (show j = 0 ∨ j = 1 ∨ j = 2 ∨ j = 3 ∨ j = 4 ∨ j = 5 by omega) with rfl | rfl | rfl | rfl | rfl | rfl
    · exact (hq _ fn_985)
    · exact (hq _ fn_986)
    · exact (hq _ fn_987)
    · exact (hq _ fn_988)
    · exact (hq _ fn_989)
    · exact (hq _ fn_990)
  obtain ⟨p16, q16, hT16, hE16⟩ : ∃ (a v : Nat), vk_S 1 [gLen.getD 16 0] [gByt.getD 16 []] (fun _ => a) (fun _ => v) (fun q => s.heap.size ≤ q) s s.heap ∧ (Jvm.Term.string "ParcelDepotLaw" (158 : Nat)).eval #[Value.ref b] s none [] s = some (.ref a) := by
    refine g_S1 (by decide) (hq _ fn_687) (hq _ fn_688) (hq _ fn_689) (hq _ fn_690) (fun j hj => ?_) hA
    have hj : j < 8 := hj
    rcases (show j = 0 ∨ j = 1 ∨ j = 2 ∨ j = 3 ∨ j = 4 ∨ j = 5 ∨ j = 6 ∨ j = 7 by omega) with rfl | rfl | rfl | rfl | rfl | rfl | rfl | rfl
    · exact (hq _ fn_691)
    · exact (hq _ fn_692)
    · exact (hq _ fn_693)
    · exact (hq _ fn_694)
    · exact (hq _ fn_695)
    · exact (hq _ fn_696)
    · exact (hq _ fn_697)
    · exact (hq _ fn_698)
  obtain ⟨p17, q17, hT17, hE17⟩ : ∃ (a v : Nat), vk_S 1 [gLen.getD 17 0] [gByt.getD 17 []] (fun _ => a) (fun _ => v) (fun q => s.heap.size ≤ q) s s.heap ∧ (Jvm.Term.string "ParcelDepotLaw" (167 : Nat)).eval #[Value.ref b] s none [] s = some (.ref a) := by
    refine g_S1 (by decide) (hq _ fn_699) (hq _ fn_700) (hq _ fn_701) (hq _ fn_702) (fun j hj => ?_) hA
    have hj : j < 9 := hj
    rcases (show j = 0 ∨ j = 1 ∨ j = 2 ∨ j = 3 ∨ j = 4 ∨ j = 5 ∨ j = 6 ∨ j = 7 ∨ j = 8 by omega) with rfl | rfl | rfl | rfl | rfl | rfl | rfl | rfl | rfl
    · exact (hq _ fn_703)
    · exact (hq _ fn_704)
    · exact (hq _ fn_705)
    · exact (hq _ fn_706)
    · exact (hq _ fn_707)
    · exact (hq _ fn_708)
    · exact (hq _ fn_709)
    · exact (hq _ fn_710)
    · exact (hq _ fn_711)
  obtain ⟨p18, q18, hT18, hE18⟩ : ∃ (a v : Nat), vk_S 1 [gLen.getD 18 0] [gByt.getD 18 []] (fun _ => a) (fun _ => v) (fun q => s.heap.size ≤ q) s s.heap ∧ (Jvm.Term.string "ParcelDepotLaw" (182 : Nat)).eval #[Value.ref b] s none [] s = some (.ref a) := by
    refine g_S1 (by decide) (hq _ fn_712) (hq _ fn_713) (hq _ fn_714) (hq _ fn_715) (fun j hj => ?_) hA
    have hj : j < 11 := hj
    rcases (show j = 0 ∨ j = 1 ∨ j = 2 ∨ j = 3 ∨ j = 4 ∨ j = 5 ∨ j = 6 ∨ j = 7 ∨ j = 8 ∨ j = 9 ∨ j = 10 by omega) with rfl | rfl | rfl | rfl | rfl | rfl | rfl | rfl | rfl | rfl | rfl
    · exact (hq _ fn_716)
    · exact (hq _ fn_717)
    · exact (hq _ fn_718)
    · exact (hq _ fn_719)
    · exact (hq _ fn_720)
    · exact (hq _ fn_721)
    · exact (hq _ fn_722)
    · exact (hq _ fn_723)
    · exact (hq _ fn_724)
    · exact (hq _ fn_725)
    · exact (hq _ fn_726)
  obtain ⟨p19, q19, hT19, hE19⟩ : ∃ (a v : Nat), vk_S 1 [gLen.getD 19 0] [gByt.getD 19 []] (fun _ => a) (fun _ => v) (fun q => s.heap.size ≤ q) s s.heap ∧ (Jvm.Term.string "ParcelDepotLaw" (190 : Nat)).eval #[Value.ref b] s none [] s = some (.ref a) := by
    refine g_S1 (by decide) (hq _ fn_727) (hq _ fn_728) (hq _ fn_729) (hq _ fn_730) (fun j hj => ?_) hA
    have hj : j < 7 := hj
    rcases (show j = 0 ∨ j = 1 ∨ j = 2 ∨ j = 3 ∨ j = 4 ∨ j = 5 ∨ j = 6 by omega) with rfl | rfl | rfl | rfl | rfl | rfl | rfl
    · exact (hq _ fn_731)
    · exact (hq _ fn_732)
    · exact (hq _ fn_733)
    · exact (hq _ fn_734)
    · exact (hq _ fn_735)
    · exact (hq _ fn_736)
    · exact (hq _ fn_737)
  obtain ⟨p20, q20, hT20, hE20⟩ : ∃ (a v : Nat), vk_S 1 [gLen.getD 20 0] [gByt.getD 20 []] (fun _ => a) (fun _ => v) (fun q => s.heap.size ≤ q) s s.heap ∧ (Jvm.Term.string "ParcelDepotLaw" (192 : Nat)).eval #[Value.ref b] s none [] s = some (.ref a) := by
    refine g_S1 (by decide) (hq _ fn_738) (hq _ fn_739) (hq _ fn_740) (hq _ fn_741) (fun j hj => ?_) hA
    have hj : j < 1 := hj
    obtain rfl : j = 0 := by omega
    exact (hq _ fn_742)
  obtain ⟨p21, q21, hT21, hE21⟩ : ∃ (a v : Nat), vk_S 1 [gLen.getD 21 0] [gByt.getD 21 []] (fun _ => a) (fun _ => v) (fun q => s.heap.size ≤ q) s s.heap ∧ (Jvm.Term.string "ParcelDepotLaw" (198 : Nat)).eval #[Value.ref b] s none [] s = some (.ref a) := by
    refine g_S1 (by decide) (hq _ fn_743) (hq _ fn_744) (hq _ fn_745) (hq _ fn_746) (fun j hj => ?_) hA
    have hj : j < 8 := hj
    rcases (show j = 0 ∨ j = 1 ∨ j = 2 ∨ j = 3 ∨ j = 4 ∨ j = 5 ∨ j = 6 ∨ j = 7 by omega) with rfl | rfl | rfl | rfl | rfl | rfl | rfl | rfl
    · exact (hq _ fn_747)
    · exact (hq _ fn_748)
    · exact (hq _ fn_749)
    · exact (hq _ fn_750)
    · exact (hq _ fn_751)
    · exact (hq _ fn_752)
    · exact (hq _ fn_753)
    · exact (hq _ fn_754)
  obtain ⟨p22, q22, hT22, hE22⟩ : ∃ (a v : Nat), vk_S 1 [gLen.getD 22 0] [gByt.getD 22 []] (fun _ => a) (fun _ => v) (fun q => s.heap.size ≤ q) s s.heap ∧ (Jvm.Term.string "ParcelDepotLaw" (200 : Nat)).eval #[Value.ref b] s none [] s = some (.ref a) := by
    refine g_S1 (by decide) (hq _ fn_755) (hq _ fn_756) (hq _ fn_757) (hq _ fn_758) (fun j hj => ?_) hA
    have hj : j < 7 := hj
    rcases (show j = 0 ∨ j = 1 ∨ j = 2 ∨ j = 3 ∨ j = 4 ∨ j = 5 ∨ j = 6 by omega) with rfl | rfl | rfl | rfl | rfl | rfl | rfl
    · exact (hq _ fn_759)
    · exact (hq _ fn_760)
    · exact (hq _ fn_761)
    · exact (hq _ fn_762)
    · exact (hq _ fn_763)
    · exact (hq _ fn_764)
    · exact (hq _ fn_765)
  obtain ⟨p23, q23, hT23, hE23⟩ : ∃ (a v : Nat), vk_S 1 [gLen.getD 23 0] [gByt.getD 23 []] (fun _ => a) (fun _ => v) (fun q => s.heap.size ≤ q) s s.heap ∧ (Jvm.Term.string "ParcelDepotLaw" (202 : Nat)).eval #[Value.ref b] s none [] s = some (.ref a) := by
    refine g_S1 (by decide) (hq _ fn_766) (hq _ fn_767) (hq _ fn_768) (hq _ fn_769) (fun j hj => ?_) hA
    have hj : j < 11 := hj
    rcases (show j = 0 ∨ j = 1 ∨ j = 2 ∨ j = 3 ∨ j = 4 ∨ j = 5 ∨ j = 6 ∨ j = 7 ∨ j = 8 ∨ j = 9 ∨ j = 10 by omega) with rfl | rfl | rfl | rfl | rfl | rfl | rfl | rfl | rfl | rfl | rfl
    · exact (hq _ fn_770)
    · exact (hq _ fn_771)
    · exact (hq _ fn_772)
    · exact (hq _ fn_773)
    · exact (hq _ fn_774)
    · exact (hq _ fn_775)
    · exact (hq _ fn_776)
    · exact (hq _ fn_777)
    · exact (hq _ fn_778)
    · exact (hq _ fn_779)
    · exact (hq _ fn_780)
  obtain ⟨p24, q24, hT24, hE24⟩ : ∃ (a v : Nat), vk_S 1 [gLen.getD 24 0] [gByt.getD 24 []] (fun _ => a) (fun _ => v) (fun q => s.heap.size ≤ q) s s.heap ∧ (Jvm.Term.string "ParcelDepotLaw" (204 : Nat)).eval #[Value.ref b] s none [] s = some (.ref a) := by
    refine g_S1 (by decide) (hq _ fn_781) (hq _ fn_782) (hq _ fn_783) (hq _ fn_784) (fun j hj => ?_) hA
    have hj : j < 8 := hj
    rcases (show j = 0 ∨ j = 1 ∨ j = 2 ∨ j = 3 ∨ j = 4 ∨ j = 5 ∨ j = 6 ∨ j = 7 by omega) with rfl | rfl | rfl | rfl | rfl | rfl | rfl | rfl
    · exact (hq _ fn_785)
    · exact (hq _ fn_786)
    · exact (hq _ fn_787)
    · exact (hq _ fn_788)
    · exact (hq _ fn_789)
    · exact (hq _ fn_790)
    · exact (hq _ fn_791)
    · exact (hq _ fn_792)
  obtain ⟨p25, q25, hT25, hE25⟩ : ∃ (a v : Nat), vk_S 1 [gLen.getD 25 0] [gByt.getD 25 []] (fun _ => a) (fun _ => v) (fun q => s.heap.size ≤ q) s s.heap ∧ (Jvm.Term.string "ParcelDepotLaw" (206 : Nat)).eval #[Value.ref b] s none [] s = some (.ref a) := by
    refine g_S1 (by decide) (hq _ fn_793) (hq _ fn_794) (hq _ fn_795) (hq _ fn_796) (fun j hj => ?_) hA
    have hj : j < 0 := hj
    exact absurd hj (Nat.not_lt_zero j)
  obtain ⟨p26, q26, hT26, hE26⟩ : ∃ (a v : Nat), vk_S 1 [gLen.getD 26 0] [gByt.getD 26 []] (fun _ => a) (fun _ => v) (fun q => s.heap.size ≤ q) s s.heap ∧ (Jvm.Term.string "ParcelDepotLaw" (208 : Nat)).eval #[Value.ref b] s none [] s = some (.ref a) := by
    refine g_S1 (by decide) (hq _ fn_797) (hq _ fn_798) (hq _ fn_799) (hq _ fn_800) (fun j hj => ?_) hA
    have hj : j < 6 := hj
    rcases (show j = 0 ∨ j = 1 ∨ j = 2 ∨ j = 3 ∨ j = 4 ∨ j = 5 by omega) with rfl | rfl | rfl | rfl | rfl | rfl
    · exact (hq _ fn_801)
    · exact (hq _ fn_802)
    · exact (hq _ fn_803)
    · exact (hq _ fn_804)
    · exact (hq _ fn_805)
    · exact (hq _ fn_806)
  obtain ⟨p27, q27, hT27, hE27⟩ : ∃ (a v : Nat), vk_S 1 [gLen.getD 27 0] [gByt.getD 27 []] (fun _ => a) (fun _ => v) (fun q => s.heap.size ≤ q) s s.heap ∧ (Jvm.Term.string "ParcelDepotLaw" (210 : Nat)).eval #[Value.ref b] s none [] s = some (.ref a) := by
    refine g_S1 (by decide) (hq _ fn_807) (hq _ fn_808) (hq _ fn_809) (hq _ fn_810) (fun j hj => ?_) hA
    have hj : j < 7 := hj
    rcases (show j = 0 ∨ j = 1 ∨ j = 2 ∨ j = 3 ∨ j = 4 ∨ j = 5 ∨ j = 6 by omega) with rfl | rfl | rfl | rfl | rfl | rfl | rfl
    · exact (hq _ fn_811)
    · exact (hq _ fn_812)
    · exact (hq _ fn_813)
    · exact (hq _ fn_814)
    · exact (hq _ fn_815)
    · exact (hq _ fn_816)
    · exact (hq _ fn_817)
  obtain ⟨p28, q28, hT28, hE28⟩ : ∃ (a v : Nat), vk_S 1 [gLen.getD 28 0] [gByt.getD 28 []] (fun _ => a) (fun _ => v) (fun q => s.heap.size ≤ q) s s.heap ∧ (Jvm.Term.string "ParcelDepotLaw" (212 : Nat)).eval #[Value.ref b] s none [] s = some (.ref a) := by
    refine g_S1 (by decide) (hq _ fn_818) (hq _ fn_819) (hq _ fn_820) (hq _ fn_821) (fun j hj => ?_) hA
    have hj : j < 2 := hj
    rcases (show j = 0 ∨ j = 1 by omega) with rfl | rfl
    · exact (hq _ fn_822)
    · exact (hq _ fn_823)
  obtain ⟨p29, q29, hT29, hE29⟩ : ∃ (a v : Nat), vk_S 1 [gLen.getD 29 0] [gByt.getD 29 []] (fun _ => a) (fun _ => v) (fun q => s.heap.size ≤ q) s s.heap ∧ (Jvm.Term.string "ParcelDepotLaw" (214 : Nat)).eval #[Value.ref b] s none [] s = some (.ref a) := by
    refine g_S1 (by decide) (hq _ fn_824) (hq _ fn_825) (hq _ fn_826) (hq _ fn_827) (fun j hj => ?_) hA
    have hj : j < 4 := hj
    rcases (show j = 0 ∨ j = 1 ∨ j = 2 ∨ j = 3 by omega) with rfl | rfl | rfl | rfl
    · exact (hq _ fn_828)
    · exact (hq _ fn_829)
    · exact (hq _ fn_830)
    · exact (hq _ fn_831)
  obtain ⟨p30, q30, hT30, hE30⟩ : ∃ (a v : Nat), vk_S 1 [gLen.getD 30 0] [gByt.getD 30 []] (fun _ => a) (fun _ => v) (fun q => s.heap.size ≤ q) s s.heap ∧ (Jvm.Term.string "ParcelDepotLaw" (216 : Nat)).eval #[Value.ref b] s none [] s = some (.ref a) := by
    refine g_S1 (by decide) (hq _ fn_832) (hq _ fn_833) (hq _ fn_834) (hq _ fn_835) (fun j hj => ?_) hA
    have hj : j < 1 := hj
    obtain rfl : j = 0 := by omega
    exact (hq _ fn_836)
  obtain ⟨p31, q31, hT31, hE31⟩ : ∃ (a v : Nat), vk_S 1 [gLen.getD 31 0] [gByt.getD 31 []] (fun _ => a) (fun _ => v) (fun q => s.heap.size ≤ q) s s.heap ∧ (Jvm.Term.string "ParcelDepotLaw" (234 : Nat)).eval #[Value.ref b] s none [] s = some (.ref a) := by
    refine g_S1 (by decide) (hq _ fn_837) (hq _ fn_838) (hq _ fn_839) (hq _ fn_840) (fun j hj => ?_) hA
    have hj : j < 9 := hj
    rcases (show j = 0 ∨ j = 1 ∨ j = 2 ∨ j = 3 ∨ j = 4 ∨ j = 5 ∨ j = 6 ∨ j = 7 ∨ j = 8 by omega) with rfl | rfl | rfl | rfl | rfl | rfl | rfl | rfl | rfl
    · exact (hq _ fn_841)
    · exact (hq _ fn_842)
    · exact (hq _ fn_843)
    · exact (hq _ fn_844)
    · exact (hq _ fn_845)
    · exact (hq _ fn_846)
    · exact (hq _ fn_847)
    · exact (hq _ fn_848)
    · exact (hq _ fn_849)
  obtain ⟨p32, q32, hT32, hE32⟩ : ∃ (a v : Nat), vk_S 1 [gLen.getD 32 0] [gByt.getD 32 []] (fun _ => a) (fun _ => v) (fun q => s.heap.size ≤ q) s s.heap ∧ (Jvm.Term.string "ParcelDepotLaw" (236 : Nat)).eval #[Value.ref b] s none [] s = some (.ref a) := by
    refine g_S1 (by decide) (hq _ fn_850) (hq _ fn_851) (hq _ fn_852) (hq _ fn_853) (fun j hj => ?_) hA
    have hj : j < 39 := hj
    rcases (show j = 0 ∨ j = 1 ∨ j = 2 ∨ j = 3 ∨ j = 4 ∨ j = 5 ∨ j = 6 ∨ j = 7 ∨ j = 8 ∨ j = 9 ∨ j = 10 ∨ j = 11 ∨ j = 12 ∨ j = 13 ∨ j = 14 ∨ j = 15 ∨ j = 16 ∨ j = 17 ∨ j = 18 ∨ j = 19 ∨ j = 20 ∨ j = 21 ∨ j = 22 ∨ j = 23 ∨ j = 24 ∨ j = 25 ∨ j = 26 ∨ j = 27 ∨ j = 28 ∨ j = 29 ∨ j = 30 ∨ j = 31 ∨ j = 32 ∨ j = 33 ∨ j = 34 ∨ j = 35 ∨ j = 36 ∨ j = 37 ∨ j = 38 by omega) with rfl | rfl | rfl | rfl | rfl | rfl | rfl | rfl | rfl | rfl | rfl | rfl | rfl | rfl | rfl | rfl | rfl | rfl | rfl | rfl | rfl | rfl | rfl | rfl | rfl | rfl | rfl | rfl | rfl | rfl | rfl | rfl | rfl | rfl | rfl | rfl | rfl | rfl | rfl
    · exact (hq _ fn_854)
    · exact (hq _ fn_855)
    · exact (hq _ fn_856)
    · exact (hq _ fn_857)
    · exact (hq _ fn_858)
    · exact (hq _ fn_859)
    · exact (hq _ fn_860)
    · exact (hq _ fn_861)
    · exact (hq _ fn_862)
    · exact (hq _ fn_863)
    · exact (hq _ fn_864)
    · exact (hq _ fn_865)
    · exact (hq _ fn_866)
    · exact (hq _ fn_867)
    · exact (hq _ fn_868)
    · exact (hq _ fn_869)
    · exact (hq _ fn_870)
    · exact (hq _ fn_871)
    · exact (hq _ fn_872)
    · exact (hq _ fn_873)
    · exact (hq _ fn_874)
    · exact (hq _ fn_875)
    · exact (hq _ fn_876)
    · exact (hq _ fn_877)
    · exact (hq _ fn_878)
    · exact (hq _ fn_879)
    · exact (hq _ fn_880)
    · exact (hq _ fn_881)
    · exact (hq _ fn_882)
    · exact (hq _ fn_883)
    · exact (hq _ fn_884)
    · exact (hq _ fn_885)
    · exact (hq _ fn_886)
    · exact (hq _ fn_887)
    · exact (hq _ fn_888)
    · exact (hq _ fn_889)
    · exact (hq _ fn_890)
    · exact (hq _ fn_891)
    · exact (hq _ fn_892)
  obtain ⟨p33, q33, hT33, hE33⟩ : ∃ (a v : Nat), vk_S 1 [gLen.getD 33 0] [gByt.getD 33 []] (fun _ => a) (fun _ => v) (fun q => s.heap.size ≤ q) s s.heap ∧ (Jvm.Term.string "ParcelDepotLaw" (257 : Nat)).eval #[Value.ref b] s none [] s = some (.ref a) := by
    refine g_S1 (by decide) (hq _ fn_893) (hq _ fn_894) (hq _ fn_895) (hq _ fn_896) (fun j hj => ?_) hA
    have hj : j < 10 := hj
    rcases (show j = 0 ∨ j = 1 ∨ j = 2 ∨ j = 3 ∨ j = 4 ∨ j = 5 ∨ j = 6 ∨ j = 7 ∨ j = 8 ∨ j = 9 by omega) with rfl | rfl | rfl | rfl | rfl | rfl | rfl | rfl | rfl | rfl
    · exact (hq _ fn_897)
    · exact (hq _ fn_898)
    · exact (hq _ fn_899)
    · exact (hq _ fn_900)
    · exact (hq _ fn_901)
    · exact (hq _ fn_902)
    · exact (hq _ fn_903)
    · exact (hq _ fn_904)
    · exact (hq _ fn_905)
    · exact (hq _ fn_906)
  let aK : Nat → Nat := fun i => [p0, p1, p2, p3, p4, p5, p6].getD i 0
  let aV : Nat → Nat := fun i => [q0, q1, q2, q3, q4, q5, q6].getD i 0
  have hS1 : ∀ k, k < 7 → vk_S 1 [gLen.getD k 0] [gByt.getD k []] (fun _ => aK k) (fun _ => aV k) (fun q => s.heap.size ≤ q) s s.heap := by
    intro k hk
    rcases (show k = 0 ∨ k = 1 ∨ k = 2 ∨ k = 3 ∨ k = 4 ∨ k = 5 ∨ k = 6 by omega) with rfl | rfl | rfl | rfl | rfl | rfl | rfl
    · exact hT0
    · exact hT1
    · exact hT2
    · exact hT3
    · exact hT4
    · exact hT5
    · exact hT6
  have hSe : ∀ i : Nat, i < 7 → (Jvm.Term.string "ParcelDepot$Form" ([49, 55, 58, 61, 64, 67, 70].getD i 0)).eval #[Value.ref b] s none [] s = some (.ref (aK i)) := by
    intro i hi
    rcases (show i = 0 ∨ i = 1 ∨ i = 2 ∨ i = 3 ∨ i = 4 ∨ i = 5 ∨ i = 6 by omega) with rfl | rfl | rfl | rfl | rfl | rfl | rfl
    · exact hE0
    · exact hE1
    · exact hE2
    · exact hE3
    · exact hE4
    · exact hE5
    · exact hE6
  have hS : vk_S 7 gLen gByt aK aV (fun q => s.heap.size ≤ q) s s.heap := ⟨fun i hi => (hS1 i hi).1 0 (by decide), fun i j hi hj e => g_7 i hi j hj (g_inj (hS1 i hi) (hS1 j hj) e (g_7b i hi) (g_7b j hj))⟩
  obtain ⟨tD, htD, hTD⟩ : ∃ t : Nat, (Jvm.Term.static "java/lang/Integer" "DigitOnes" "[B").eval #[Value.ref b] s none [] s = some (.ref t) ∧ va_T .byte t 100 (fun j => .int (nI (48 + j % 10))) (fun q => s.heap.size ≤ q) s s.heap := by
    refine va_Tof (by decide) (hq _ fn_32) (va_eqt (hq _ fn_33)) (fun j hj => ?_) hA
    rcases (show j = 0 ∨ j = 1 ∨ j = 2 ∨ j = 3 ∨ j = 4 ∨ j = 5 ∨ j = 6 ∨ j = 7 ∨ j = 8 ∨ j = 9 ∨ j = 10 ∨ j = 11 ∨ j = 12 ∨ j = 13 ∨ j = 14 ∨ j = 15 ∨ j = 16 ∨ j = 17 ∨ j = 18 ∨ j = 19 ∨ j = 20 ∨ j = 21 ∨ j = 22 ∨ j = 23 ∨ j = 24 ∨ j = 25 ∨ j = 26 ∨ j = 27 ∨ j = 28 ∨ j = 29 ∨ j = 30 ∨ j = 31 ∨ j = 32 ∨ j = 33 ∨ j = 34 ∨ j = 35 ∨ j = 36 ∨ j = 37 ∨ j = 38 ∨ j = 39 ∨ j = 40 ∨ j = 41 ∨ j = 42 ∨ j = 43 ∨ j = 44 ∨ j = 45 ∨ j = 46 ∨ j = 47 ∨ j = 48 ∨ j = 49 ∨ j = 50 ∨ j = 51 ∨ j = 52 ∨ j = 53 ∨ j = 54 ∨ j = 55 ∨ j = 56 ∨ j = 57 ∨ j = 58 ∨ j = 59 ∨ j = 60 ∨ j = 61 ∨ j = 62 ∨ j = 63 ∨ j = 64 ∨ j = 65 ∨ j = 66 ∨ j = 67 ∨ j = 68 ∨ j = 69 ∨ j = 70 ∨ j = 71 ∨ j = 72 ∨ j = 73 ∨ j = 74 ∨ j = 75 ∨ j = 76 ∨ j = 77 ∨ j = 78 ∨ j = 79 ∨ j = 80 ∨ j = 81 ∨ j = 82 ∨ j = 83 ∨ j = 84 ∨ j = 85 ∨ j = 86 ∨ j = 87 ∨ j = 88 ∨ j = 89 ∨ j = 90 ∨ j = 91 ∨ j = 92 ∨ j = 93 ∨ j = 94 ∨ j = 95 ∨ j = 96 ∨ j = 97 ∨ j = 98 ∨ j = 99 by omega) with rfl | rfl | rfl | rfl | rfl | rfl | rfl | rfl | rfl | rfl | rfl | rfl | rfl | rfl | rfl | rfl | rfl | rfl | rfl | rfl | rfl | rfl | rfl | rfl | rfl | rfl | rfl | rfl | rfl | rfl | rfl | rfl | rfl | rfl | rfl | rfl | rfl | rfl | rfl | rfl | rfl | rfl | rfl | rfl | rfl | rfl | rfl | rfl | rfl | rfl | rfl | rfl | rfl | rfl | rfl | rfl | rfl | rfl | rfl | rfl | rfl | rfl | rfl | rfl | rfl | rfl | rfl | rfl | rfl | rfl | rfl | rfl | rfl | rfl | rfl | rfl | rfl | rfl | rfl | rfl | rfl | rfl | rfl | rfl | rfl | rfl | rfl | rfl | rfl | rfl | rfl | rfl | rfl | rfl | rfl | rfl | rfl | rfl | rfl | rfl
    · exact va_eqt (hq _ fn_34)
    · exact va_eqt (hq _ fn_35)
    · exact va_eqt (hq _ fn_36)
    · exact va_eqt (hq _ fn_37)
    · exact va_eqt (hq _ fn_38)
    · exact va_eqt (hq _ fn_39)
    · exact va_eqt (hq _ fn_40)
    · exact va_eqt (hq _ fn_41)
    · exact va_eqt (hq _ fn_42)
    · exact va_eqt (hq _ fn_43)
    · exact va_eqt (hq _ fn_44)
    · exact va_eqt (hq _ fn_45)
    · exact va_eqt (hq _ fn_46)
    · exact va_eqt (hq _ fn_47)
    · exact va_eqt (hq _ fn_48)
    · exact va_eqt (hq _ fn_49)
    · exact va_eqt (hq _ fn_50)
    · exact va_eqt (hq _ fn_51)
    · exact va_eqt (hq _ fn_52)
    · exact va_eqt (hq _ fn_53)
    · exact va_eqt (hq _ fn_54)
    · exact va_eqt (hq _ fn_55)
    · exact va_eqt (hq _ fn_56)
    · exact va_eqt (hq _ fn_57)
    · exact va_eqt (hq _ fn_58)
    · exact va_eqt (hq _ fn_59)
    · exact va_eqt (hq _ fn_60)
    · exact va_eqt (hq _ fn_61)
    · exact va_eqt (hq _ fn_62)
    · exact va_eqt (hq _ fn_63)
    · exact va_eqt (hq _ fn_64)
    · exact va_eqt (hq _ fn_65)
    · exact va_eqt (hq _ fn_66)
    · exact va_eqt (hq _ fn_67)
    · exact va_eqt (hq _ fn_68)
    · exact va_eqt (hq _ fn_69)
    · exact va_eqt (hq _ fn_70)
    · exact va_eqt (hq _ fn_71)
    · exact va_eqt (hq _ fn_72)
    · exact va_eqt (hq _ fn_73)
    · exact va_eqt (hq _ fn_74)
    · exact va_eqt (hq _ fn_75)
    · exact va_eqt (hq _ fn_76)
    · exact va_eqt (hq _ fn_77)
    · exact va_eqt (hq _ fn_78)
    · exact va_eqt (hq _ fn_79)
    · exact va_eqt (hq _ fn_80)
    · exact va_eqt (hq _ fn_81)
    · exact va_eqt (hq _ fn_82)
    · exact va_eqt (hq _ fn_83)
    · exact va_eqt (hq _ fn_84)
    · exact va_eqt (hq _ fn_85)
    · exact va_eqt (hq _ fn_86)
    · exact va_eqt (hq _ fn_87)
    · exact va_eqt (hq _ fn_88)
    · exact va_eqt (hq _ fn_89)
    · exact va_eqt (hq _ fn_90)
    · exact va_eqt (hq _ fn_91)
    · exact va_eqt (hq _ fn_92)
    · exact va_eqt (hq _ fn_93)
    · exact va_eqt (hq _ fn_94)
    · exact va_eqt (hq _ fn_95)
    · exact va_eqt (hq _ fn_96)
    · exact va_eqt (hq _ fn_97)
    · exact va_eqt (hq _ fn_98)
    · exact va_eqt (hq _ fn_99)
    · exact va_eqt (hq _ fn_100)
    · exact va_eqt (hq _ fn_101)
    · exact va_eqt (hq _ fn_102)
    · exact va_eqt (hq _ fn_103)
    · exact va_eqt (hq _ fn_104)
    · exact va_eqt (hq _ fn_105)
    · exact va_eqt (hq _ fn_106)
    · exact va_eqt (hq _ fn_107)
    · exact va_eqt (hq _ fn_108)
    · exact va_eqt (hq _ fn_109)
    · exact va_eqt (hq _ fn_110)
    · exact va_eqt (hq _ fn_111)
    · exact va_eqt (hq _ fn_112)
    · exact va_eqt (hq _ fn_113)
    · exact va_eqt (hq _ fn_114)
    · exact va_eqt (hq _ fn_115)
    · exact va_eqt (hq _ fn_116)
    · exact va_eqt (hq _ fn_117)
    · exact va_eqt (hq _ fn_118)
    · exact va_eqt (hq _ fn_119)
    · exact va_eqt (hq _ fn_120)
    · exact va_eqt (hq _ fn_121)
    · exact va_eqt (hq _ fn_122)
    · exact va_eqt (hq _ fn_123)
    · exact va_eqt (hq _ fn_124)
    · exact va_eqt (hq _ fn_125)
    · exact va_eqt (hq _ fn_126)
    · exact va_eqt (hq _ fn_127)
    · exact va_eqt (hq _ fn_128)
    · exact va_eqt (hq _ fn_129)
    · exact va_eqt (hq _ fn_130)
    · exact va_eqt (hq _ fn_131)
    · exact va_eqt (hq _ fn_132)
    · exact va_eqt (hq _ fn_133)
  obtain ⟨tF, htF, hTF⟩ : ∃ t : Nat, (Jvm.Term.static "ParcelDepot" "FORMS" "[LParcelDepot$Form;").eval #[Value.ref b] s none [] s = some (.ref t) ∧ va_T (.object "ParcelDepot$Form") t 7 (fun j => .ref ([f0, f1, f2, f3, f4, f5, f6].getD j 0)) (fun q => s.heap.size ≤ q) s s.heap := by
    refine va_Tof (by decide) (hq _ fn_6) (va_eqt (hq _ fn_7)) (fun j hj => ?_) hA
    rcases (show j = 0 ∨ j = 1 ∨ j = 2 ∨ j = 3 ∨ j = 4 ∨ j = 5 ∨ j = 6 by omega) with rfl | rfl | rfl | rfl | rfl | rfl | rfl
    · exact va_eqv (hq _ fn_9) hf0
    · exact va_eqv (hq _ fn_10) hf1
    · exact va_eqv (hq _ fn_11) hf2
    · exact va_eqv (hq _ fn_12) hf3
    · exact va_eqv (hq _ fn_13) hf4
    · exact va_eqv (hq _ fn_14) hf5
    · exact va_eqv (hq _ fn_15) hf6
  obtain ⟨tW, htW, hTW⟩ : ∃ t : Nat, (Jvm.Term.static "ParcelDepot$1" "$SwitchMap$ParcelDepot$Form" "[I").eval #[Value.ref b] s none [] s = some (.ref t) ∧ va_T .int t 7 (fun j => .int (nI (j + 1))) (fun q => s.heap.size ≤ q) s s.heap := by
    refine va_Tof (by decide) (hq _ fn_22) (va_eqt (hq _ fn_23)) (fun j hj => ?_) hA
    rcases (show j = 0 ∨ j = 1 ∨ j = 2 ∨ j = 3 ∨ j = 4 ∨ j = 5 ∨ j = 6 by omega) with rfl | rfl | rfl | rfl | rfl | rfl | rfl
    · exact va_eqt (hq _ fn_24)
    · exact va_eqt (hq _ fn_25)
    · exact va_eqt (hq _ fn_26)
    · exact va_eqt (hq _ fn_27)
    · exact va_eqt (hq _ fn_28)
    · exact va_eqt (hq _ fn_29)
    · exact va_eqt (hq _ fn_30)
  let K : Nat → Nat := fun i => if i < 7 then aK i else [x0, x1, x2, x3, x4, x5, x6, x7, x8, p16, p17, p18, p19, p20, p21, p22, p23, p24, p25, p26, p27, p28, p29, p30, p31, p32, p33].getD (i - 7) 0
  let V : Nat → Nat := fun i => if i < 7 then aV i else [q16, q17, q18, q19, q20, q21, q22, q23, q24, q25, q26, q27, q28, q29, q30, q31, q32, q33].getD (i - 16) 0
  let B : gB := ((fun t => match t with | 0 => a0 | 1 => a1 | 2 => a2 | 3 => a3 | 4 => a4 | _ => a5), (fun k => match k with | 0 => c0 | 1 => c1 | 2 => c2 | 3 => c3 | 4 => c4 | 5 => c5 | 6 => c6 | 7 => c7 | 8 => c8 | 9 => c9 | 10 => c10 | 11 => c11 | 12 => c12 | _ => c13, fun k => match k with | 0 => i0 | 1 => i1 | 2 => i2 | 3 => i3 | 4 => i4 | 5 => i5 | 6 => i6 | 7 => i7 | 8 => i8 | 9 => i9 | 10 => i10 | 11 => i11 | 12 => i12 | _ => i13), (fun i => [f0, f1, f2, f3, f4, f5, f6].getD i 0), K, V, (fun i => if i = 0 then tF else if i = 1 then tW else if i = 2 then b else L), xs, [])
  have g1 : ∀ w ∈ gTs, w.before #[] s = true := fun w hw => by
    rcases good_of_word (List.mem_filter.mp hw).2 with hg | ⟨ty, rfl⟩
    · simp only [Bool.and_eq_true] at hg
      exact va_any hg.1 (hG w hw)
    · exact hG _ hw
  have g2 : ∀ w ∈ gNs, va_Nw w s := fun w hw => by
    have hg := List.all_eq_true.mp gNs_ok w hw
    exact va_any (A := #[Value.ref b]) (by cases w <;> first | rfl | (simp [gOkN] at hg)) (hts w (gNs_in w hw))
  have g3 : ∀ i, i < 34 → vk_R (gTx.getD i ("", 0, "")).1 (gTx.getD i ("", 0, "")).2.1 (gTx.getD i ("", 0, "")).2.2 (K i) s := by
    intro i hi
    rcases (show i = 0 ∨ i = 1 ∨ i = 2 ∨ i = 3 ∨ i = 4 ∨ i = 5 ∨ i = 6 ∨ i = 7 ∨ i = 8 ∨ i = 9 ∨ i = 10 ∨ i = 11 ∨ i = 12 ∨ i = 13 ∨ i = 14 ∨ i = 15 ∨ i = 16 ∨ i = 17 ∨ i = 18 ∨ i = 19 ∨ i = 20 ∨ i = 21 ∨ i = 22 ∨ i = 23 ∨ i = 24 ∨ i = 25 ∨ i = 26 ∨ i = 27 ∨ i = 28 ∨ i = 29 ∨ i = 30 ∨ i = 31 ∨ i = 32 ∨ i = 33 by omega) with rfl | rfl | rfl | rfl | rfl | rfl | rfl | rfl | rfl | rfl | rfl | rfl | rfl | rfl | rfl | rfl | rfl | rfl | rfl | rfl | rfl | rfl | rfl | rfl | rfl | rfl | rfl | rfl | rfl | rfl | rfl | rfl | rfl | rfl
    · exact vk_R.of (hts _ tn_7_40) (hSe 0 (by decide))
    · exact vk_R.of (hts _ tn_7_41) (hSe 1 (by decide))
    · exact vk_R.of (hts _ tn_7_42) (hSe 2 (by decide))
    · exact vk_R.of (hts _ tn_7_43) (hSe 3 (by decide))
    · exact vk_R.of (hts _ tn_7_44) (hSe 4 (by decide))
    · exact vk_R.of (hts _ tn_7_45) (hSe 5 (by decide))
    · exact vk_R.of (hts _ tn_7_46) (hSe 6 (by decide))
    · exact vk_R.of (hts _ tn_4_139) hx0
    · exact vk_R.of (hts _ tn_5_16) hx1
    · exact vk_R.of (hts _ tn_5_67) hx2
    · exact vk_R.of (hts _ tn_5_123) hx3
    · exact vk_R.of (hts _ tn_2_139) hx4
    · exact vk_R.of (hts _ tn_2_175) hx5
    · exact vk_R.of (hts _ tn_2_191) hx6
    · exact vk_R.of (hts _ tn_2_207) hx7
    · exact vk_R.of (hts _ tn_2_223) hx8
    · exact vk_R.of (hts _ tn_6_220) hE16
    · exact vk_R.of (hts _ tn_6_221) hE17
    · exact vk_R.of (hts _ tn_6_222) hE18
    · exact vk_R.of (hts _ tn_6_223) hE19
    · exact vk_R.of (hts _ tn_6_224) hE20
    · exact vk_R.of (hts _ tn_6_225) hE21
    · exact vk_R.of (hts _ tn_6_226) hE22
    · exact vk_R.of (hts _ tn_6_227) hE23
    · exact vk_R.of (hts _ tn_6_228) hE24
    · exact vk_R.of (hts _ tn_6_229) hE25
    · exact vk_R.of (hts _ tn_6_230) hE26
    · exact vk_R.of (hts _ tn_6_231) hE27
    · exact vk_R.of (hts _ tn_6_232) hE28
    · exact vk_R.of (hts _ tn_6_233) hE29
    · exact vk_R.of (hts _ tn_6_234) hE30
    · exact vk_R.of (hts _ tn_6_235) hE31
    · exact vk_R.of (hts _ tn_6_236) hE32
    · exact vk_R.of (hts _ tn_6_237) hE33
  have g4 : ∀ q ∈ gNc, va_Nc q.1 q.2 s := List.forall_mem_cons.mpr ⟨va_Nc.of (hq _ fn_310), List.forall_mem_cons.mpr ⟨va_Nc.of (hq _ fn_330), List.forall_mem_cons.mpr ⟨va_Nc.of (hq _ fn_350), List.forall_mem_cons.mpr ⟨va_Nc.of (hq _ fn_370), List.forall_mem_cons.mpr ⟨va_Nc.of (hq _ fn_290), List.forall_mem_cons.mpr ⟨va_Nc.of (hq _ fn_331), List.forall_mem_cons.mpr ⟨va_Nc.of (hq _ fn_351), List.forall_mem_cons.mpr ⟨va_Nc.of (hq _ fn_371), List.forall_mem_cons.mpr ⟨va_Nc.of (hq _ fn_291), List.forall_mem_cons.mpr ⟨va_Nc.of (hq _ fn_311), List.forall_mem_cons.mpr ⟨va_Nc.of (hq _ fn_352), List.forall_mem_cons.mpr ⟨va_Nc.of (hq _ fn_372), List.forall_mem_cons.mpr ⟨va_Nc.of (hq _ fn_292), List.forall_mem_cons.mpr ⟨va_Nc.of (hq _ fn_312), List.forall_mem_cons.mpr ⟨va_Nc.of (hq _ fn_332), List.forall_mem_cons.mpr ⟨va_Nc.of (hq _ fn_373), List.forall_mem_cons.mpr ⟨va_Nc.of (hq _ fn_293), List.forall_mem_cons.mpr ⟨va_Nc.of (hq _ fn_313), List.forall_mem_cons.mpr ⟨va_Nc.of (hq _ fn_333), List.forall_mem_cons.mpr ⟨va_Nc.of (hq _ fn_353), List.forall_mem_cons.mpr ⟨va_Nc.of (hq _ fn_297), List.forall_mem_cons.mpr ⟨va_Nc.of (hq _ fn_317), List.forall_mem_cons.mpr ⟨va_Nc.of (hq _ fn_337), List.forall_mem_cons.mpr ⟨va_Nc.of (hq _ fn_357), List.forall_mem_cons.mpr ⟨va_Nc.of (hq _ fn_377), fun _ h => absurd h List.not_mem_nil⟩⟩⟩⟩⟩⟩⟩⟩⟩⟩⟩⟩⟩⟩⟩⟩⟩⟩⟩⟩⟩⟩⟩⟩⟩
  have g5 : gKS (lz B) (fun q => s.heap.size ≤ q) s s.heap := by
    refine ⟨⟨vx_Zqof (hts _ tn_2_121) (hts _ tn_1_12) (hq _ fn_2) hA, vx_Zqof (hts _ tn_2_123) (hts _ tn_1_12) (hq _ fn_3) hA⟩, ⟨va_Zref (hts _ tn_4_186) (hts _ tn_1_1) htF hA, hTF⟩, ⟨?_, ?_⟩, ⟨va_Zref (hts _ tn_5_35) (hts _ tn_1_33) htW hA, hTW⟩, ⟨fun i hi => ?_, fun i j hi hj e => ?_⟩, va_Zof (hts _ tn_4_200) (hts _ tn_1_17) (va_eqt (hq _ fn_16)) hA, va_Zqof (hts _ tn_4_216) (hts _ tn_1_29) (hq _ fn_17) hA, fun i hi => ?_⟩
    · refine va_Efof (args := #[Value.ref b]) (E := "ParcelDepot$Form") (d0 := "LParcelDepot$Form;") (nm := ["ROAD", "PARCEL", "GLOVE", "PUT", "OUT", "CARRY", "BACK"]) (tm := fun i => Jvm.Term.string "ParcelDepot$Form" ([49, 55, 58, 61, 64, 67, 70].getD i 0)) (fun i hi => ?_) (fun i hi => ?_) (fun i hi => ?_) hA
      · rcases (show i = 0 ∨ i = 1 ∨ i = 2 ∨ i = 3 ∨ i = 4 ∨ i = 5 ∨ i = 6 by omega) with rfl | rfl | rfl | rfl | rfl | rfl | rfl
        · exact hf0
        · exact hf1
        · exact hf2
        · exact hf3
        · exact hf4
        · exact hf5
        · exact hf6
      · rcases (show i = 0 ∨ i = 1 ∨ i = 2 ∨ i = 3 ∨ i = 4 ∨ i = 5 ∨ i = 6 by omega) with rfl | rfl | rfl | rfl | rfl | rfl | rfl
        · exact (hq _ fn_239)
        · exact (hq _ fn_242)
        · exact (hq _ fn_246)
        · exact (hq _ fn_251)
        · exact (hq _ fn_257)
        · exact (hq _ fn_264)
        · exact (hq _ fn_272)
      · show _ = some (Value.ref (K i))
        have e : K i = aK i := if_pos hi
        rw [e]
        exact hSe i hi
    · refine va_Efof (args := #[Value.ref b]) (E := "ParcelDepot$Form") (d0 := "LParcelDepot$Form;") (nm := ["ROAD", "PARCEL", "GLOVE", "PUT", "OUT", "CARRY", "BACK"]) (tm := fun i => Jvm.Term.int (nI i)) (fun i hi => ?_) (fun i hi => ?_) (fun i hi => rfl) hA
      · rcases (show i = 0 ∨ i = 1 ∨ i = 2 ∨ i = 3 ∨ i = 4 ∨ i = 5 ∨ i = 6 by omega) with rfl | rfl | rfl | rfl | rfl | rfl | rfl
        · exact hf0
        · exact hf1
        · exact hf2
        · exact hf3
        · exact hf4
        · exact hf5
        · exact hf6
      · rcases (show i = 0 ∨ i = 1 ∨ i = 2 ∨ i = 3 ∨ i = 4 ∨ i = 5 ∨ i = 6 by omega) with rfl | rfl | rfl | rfl | rfl | rfl | rfl
        · exact (hq _ fn_238)
        · exact (hq _ fn_241)
        · exact (hq _ fn_245)
        · exact (hq _ fn_250)
        · exact (hq _ fn_256)
        · exact (hq _ fn_263)
        · exact (hq _ fn_271)
    · have e : K i = aK i := if_pos hi
      have e2 : V i = aV i := if_pos hi
      have h9 := hS.1 i hi
      rw [← e, ← e2] at h9
      exact h9
    · have e1 : K i = aK i := if_pos hi
      have e2 : K j = aK j := if_pos hj
      exact hS.2 i j hi hj (e1.symm.trans (Eq.trans e e2))
    · rcases (show i = 0 ∨ i = 1 ∨ i = 2 ∨ i = 3 ∨ i = 4 ∨ i = 5 ∨ i = 6 by omega) with rfl | rfl | rfl | rfl | rfl | rfl | rfl
      · exact va_Oof (hq _ fn_237) hf0 hA
      · exact va_Oof (hq _ fn_240) hf1 hA
      · exact va_Oof (hq _ fn_244) hf2 hA
      · exact va_Oof (hq _ fn_249) hf3 hA
      · exact va_Oof (hq _ fn_255) hf4 hA
      · exact va_Oof (hq _ fn_262) hf5 hA
      · exact va_Oof (hq _ fn_270) hf6 hA
  have g6 : ∀ k, 16 ≤ k → k < 34 → vk_S 1 [gLen.getD k 0] [gByt.getD k []] (fun _ => K k) (fun _ => V k) (fun q => s.heap.size ≤ q) s s.heap := by
    intro k h1 h2
    rcases (show k = 16 ∨ k = 17 ∨ k = 18 ∨ k = 19 ∨ k = 20 ∨ k = 21 ∨ k = 22 ∨ k = 23 ∨ k = 24 ∨ k = 25 ∨ k = 26 ∨ k = 27 ∨ k = 28 ∨ k = 29 ∨ k = 30 ∨ k = 31 ∨ k = 32 ∨ k = 33 by omega) with rfl | rfl | rfl | rfl | rfl | rfl | rfl | rfl | rfl | rfl | rfl | rfl | rfl | rfl | rfl | rfl | rfl | rfl
    · exact hT16
    · exact hT17
    · exact hT18
    · exact hT19
    · exact hT20
    · exact hT21
    · exact hT22
    · exact hT23
    · exact hT24
    · exact hT25
    · exact hT26
    · exact hT27
    · exact hT28
    · exact hT29
    · exact hT30
    · exact hT31
    · exact hT32
    · exact hT33
  have g7 : va_T .int b L (fun j => .int (xs j)) (fun q => s.heap.size ≤ q) s s.heap := by
    obtain ⟨scr, z1, z2, z3, z4, z5⟩ := hX
    exact ⟨scr, z1, z2, z3, by rw [z4]; exact Nat.le_refl _, by rw [z4], z5, hA b hbl⟩
  have hAA : ∀ q : Nat, lA [] s.heap.size q → s.heap.size ≤ q := fun q h => by
    rcases h with ⟨a, D, h, -⟩ | h
    · exact absurd h (by simp)
    · exact h
  refine ⟨B, rfl, rfl, rfl, ⟨⟨?_, ?_⟩, fun a D h => absurd h (by simp), fun a b D E h => absurd h (by simp), lCh.narrow (A := fun q => s.heap.size ≤ q) ⟨g7, (fun x hx => absurd hx (by show ¬ x ∈ []; simp)), g6, g5⟩ hAA, va_S.rf⟩, ⟨g1, g2, g3, g4, g1, g2, hv3, hv4⟩, ⟨⟨tD, fun j => nI (48 + j % 10), va_Zref (hts _ tn_6_149) (hts _ tn_1_32) htD hA, hTD, fun r hr => by show nI (48 + r % 10) = _; rw [Nat.mod_eq_of_lt hr]⟩, ?_, ?_⟩⟩
  · intro k q hq
    match k, hq with
    | 0, hq => cases hq; exact hk0
    | 1, hq => cases hq; exact hk1
    | 2, hq => cases hq; exact hk2
    | 3, hq => cases hq; exact hk3
    | 4, hq => cases hq; exact hk4
    | 5, hq => cases hq; exact hk5
    | 6, hq => cases hq; exact hk6
    | 7, hq => cases hq; exact hk7
    | 8, hq => cases hq; exact hk8
    | 9, hq => cases hq; exact hk9
    | 10, hq => cases hq; exact hk10
    | 11, hq => cases hq; exact hk11
    | 12, hq => cases hq; exact hk12
    | 13, hq => cases hq; exact hk13
    | k + 14, hq => exact absurd (List.getElem?_eq_some_iff.mp hq).1 (by show ¬ k + 14 < 14; omega)
  · intro k q hq
    match k, hq with
    | 0, hq => cases hq; exact ⟨fun N z => ⟨(fun k h => by cases h), ka0, hb0, co0, hc0⟩, ha0⟩
    | 1, hq => cases hq; exact ⟨fun N z => ⟨(fun k h => by cases h), ka1, hb1, co1, hc1⟩, ha1⟩
    | 2, hq => cases hq; exact ⟨fun N z => ⟨(fun k h => by cases h), ka2, hb2, co2, hc2⟩, ha2⟩
    | 3, hq => cases hq; exact ⟨fun N z => ⟨(fun k h => by cases h), ka3, hb3, co3, hc3⟩, ⟨ka3, co3, hb3, hc3, hd3, ha3⟩⟩
    | 4, hq => cases hq; exact ⟨fun N z => ⟨(fun k h => by cases h), ka4, hb4, co4, hc4⟩, ⟨ka4, co4, hb4, hc4, hd4, ha4⟩⟩
    | 5, hq => cases hq; exact ⟨fun N z => ⟨(fun k h => by cases h), ka5, hb5, co5, hc5⟩, ha5⟩
    | k + 6, hq => exact absurd (List.getElem?_eq_some_iff.mp hq).1 (by show ¬ k + 6 < 6; omega)
  · exact List.forall_mem_cons.mpr ⟨va_any (A := #[Value.ref b]) rfl (hts _ tn_6_52), List.forall_mem_cons.mpr ⟨va_any (A := #[Value.ref b]) rfl (hts _ tn_6_56), List.forall_mem_cons.mpr ⟨va_any (A := #[Value.ref b]) rfl (hts _ tn_6_102), List.forall_mem_cons.mpr ⟨va_any (A := #[Value.ref b]) rfl (hts _ tn_6_106), fun _ h => absurd h List.not_mem_nil⟩⟩⟩⟩
  · exact va_any (A := #[Value.ref b]) rfl (hts _ tn_6_76)
