/-! THE MEMORY: all objects of a depot have fixed numbers (0 to 218); what they hold is one function of numbers. -/
abbrev gM : Type := Nat → Nat → Int32
def rset (σ : gM) (i : Nat) (r : Nat → Int32) : gM := fun j => if j = i then r else σ j
def mset (σ : gM) (i k : Nat) (x : Int32) : gM := rset σ i (upd (σ i) k x)
theorem rset_eq (σ : gM) (i : Nat) (r : Nat → Int32) : rset σ i r i = r := by simp [rset]
theorem rset_ne (σ : gM) {i j : Nat} (r : Nat → Int32) (h : j ≠ i) : rset σ i r j = σ j := by simp [rset, h]
/-- addresses of the numbered objects; array classes; classes; addresses of the forms; of the texts; of their bytes; single ones -/
abbrev gT : Type := (Nat → Nat) × (Nat → ClassId) × va_G × (Nat → Nat) × (Nat → Nat) × (Nat → Nat) × (Nat → Nat) × (Nat → Int32) × List (Nat × Nat × List Int32)
abbrev gtD (G : gT) : va_G := G.2.2.1
abbrev gtF (G : gT) : Nat → Nat := G.2.2.2.1
def gtys (G : gT) : List (ClassId × FieldType) := [(G.2.1 0, .int), (G.2.1 1, .boolean), (G.2.1 2, .char), (G.2.1 3, .object RX3), (G.2.1 4, .object RX1), (G.2.1 5, .byte)]
/-- kinds of the places of a state: 18 of them -/
def gdk : Nat → Nat
  | 0 => 1 | 1 => 2 | 2 => 10036 | 3 => 10006 | 4 => 20006 | 5 => 10036 | 6 => 3 | 7 => 10012 | 8 => 10012 | 9 => 10012 | 10 => 10012 | 11 => 10012 | 12 => 4 | 13 => 10008 | 14 => 10008 | 15 => 5 | _ => 10003
/-- kinds of the numbers 199 to 218 -/
def gek : Nat → Nat
  | 0 => 6 | 1 => 7 | 2 => 8 | 3 => 10004 | 4 => 10061 | 5 => 9 | 6 => 30060 | 7 => 10 | 18 => 12 | 19 => 30100 | _ => 11
def gkd (i : Nat) : Nat := if i = 0 then 0 else if i < 199 then gdk ((i - 1) % 18) else gek (i - 199)
def gfm (G : gT) (x : Int32) : Value := va_re (gtF G) (if x = 0 then none else some (x.toNatClampNeg - 1))
/-- what the object with number i and a kind holds -/
def gent (G : gT) (i : Nat) (lo : Int64) (dd : UInt64) (r : Nat → Int32) : Nat → va_E
  | 0 => .inr (13, [.ref (G.1 1), .ref (G.1 19), .ref (G.1 199), .ref (G.1 201), .ref (G.1 204), .ref (G.1 217), .int (r 6), .int (r 7), .int (r 8)])
  | 1 => .inr (5, [.ref (G.1 (i + 1)), .ref (G.1 (i + 6)), .ref (G.1 (i + 12)), .ref (G.1 (i + 15))])
  | 2 => .inr (10, [.ref (G.1 (i + 1)), .ref (G.1 (i + 2)), .ref (G.1 (i + 3)), .ref (G.1 (i + 4)), .int (r 4)])
  | 3 => .inr (9, [.ref (G.1 (i + 1)), .ref (G.1 (i + 2)), .ref (G.1 (i + 3)), .ref (G.1 (i + 4)), .ref (G.1 (i + 5)), .int (r 5)])
  | 4 => .inr (7, [.ref (G.1 (i + 1)), .ref (G.1 (i + 2)), .int (r 2), .int (r 3)])
  | 5 => .inr (12, [.ref (G.1 (i + 1)), .ref (G.1 (i + 2)), .int (r 2)])
  | 6 => .inr (8, [.ref (G.1 200), .int (r 1), .int (r 2)])
  | 7 => .inl (G.2.1 3, (9, .inr (.inr (.inr (.inr (fun j => some (G.1 (37 + 18 * j))))))))
  | 8 => .inr (6, [.ref (G.1 202), .ref (G.1 203)])
  | 9 => .inr (4, [.ref (G.1 205), .ref (G.1 206), .int (r 2), .int (r 3), .int (r 4)])
  | 10 => .inl (G.2.1 4, (10, .inr (.inr (.inr (.inr (fun j => some (G.1 (207 + j))))))))
  | 11 => .inr (3, [gfm G (r 0), .int (r 1), .int (r 2), .int (r 3)])
  | 12 => .inr (11, [.ref (G.1 218), .int (r 1)])
  | k => if k < 20000 then .inl (G.2.1 0, (k - 10000, .inl r)) else if k < 30000 then .inl (G.2.1 1, (k - 20000, .inl r)) else .inl (G.2.1 2, (k - 30000, .inl r))
def gWS (G : gT) (lo : Int64) (dd : UInt64) (σ : gM) : va_W := (List.range 219).map (fun i => (G.1 i, gent G i lo dd (σ i) (gkd i)))
theorem gWS_at (G : gT) (lo : Int64) (dd : UInt64) (σ : gM) {i : Nat} (hi : i < 219) : (gWS G lo dd σ)[i]? = some (G.1 i, gent G i lo dd (σ i) (gkd i)) := by
  rw [gWS, List.getElem?_map, List.getElem?_range hi]; rfl
theorem gWS_set {G : gT} {lo lo' : Int64} {dd dd' : UInt64} {σ σ' : gM} {i : Nat} (hi : i < 219) {e : va_E} (he : gent G i lo' dd' (σ' i) (gkd i) = e) (hn : ∀ j, j < 219 → j ≠ i → gent G j lo' dd' (σ' j) (gkd j) = gent G j lo dd (σ j) (gkd j)) : (gWS G lo dd σ).set i (G.1 i, e) = gWS G lo' dd' σ' := by
  refine List.ext_getElem? (fun j => ?_)
  rw [List.getElem?_set]
  by_cases hj : j < 219
  · rw [gWS_at G lo' dd' σ' hj]
    by_cases h : i = j
    · subst h
      rw [if_pos rfl, if_pos (by rw [gWS, List.length_map, List.length_range]; exact hi), he]
    · rw [if_neg h, gWS_at G lo dd σ hj, hn j hj (fun z => h z.symm)]
  · have h1 : (gWS G lo dd σ)[j]? = none := List.getElem?_eq_none_iff.mpr (by rw [gWS, List.length_map, List.length_range]; omega)
    have h2 : (gWS G lo' dd' σ')[j]? = none := List.getElem?_eq_none_iff.mpr (by rw [gWS, List.length_map, List.length_range]; omega)
    rw [if_neg (by omega), h1, h2]
theorem gWS_rset {G : gT} {lo : Int64} {dd : UInt64} {σ : gM} {i : Nat} (hi : i < 219) {e : va_E} {r : Nat → Int32} (he : gent G i lo dd r (gkd i) = e) : (gWS G lo dd σ).set i (G.1 i, e) = gWS G lo dd (rset σ i r) :=
  gWS_set hi (by rw [rset_eq]; exact he) (fun j _ h => by rw [rset_ne σ r h])
/-- the cells that a method may change: the numbered ones, and those that come -/
def gAA (G : gT) (sz : Nat) : Nat → Prop := fun q => (∃ i : Nat, i < 219 ∧ q = G.1 i) ∨ sz ≤ q
/-- the memory in the walk of a method -/
def gMS (G : gT) (A : Nat → Prop) (lo : Int64) (dd : UInt64) (σ : gM) (s : State) (H : Heap) (locs : List Loc) : Prop :=
  va_K (gtD G) vwCl (gtys G) s ∧ va_P (gtD G) vwCl (gWS G lo dd σ) H ∧ va_D A (gWS G lo dd σ) ∧ va_S A s.heap H locs
/-- the memory at a method's start and end -/
def gMU (G : gT) (A : Nat → Prop) (lo : Int64) (dd : UInt64) (σ : gM) (U : State) : Prop :=
  va_K (gtD G) vwCl (gtys G) U ∧ va_P (gtD G) vwCl (gWS G lo dd σ) U.heap ∧ va_D A (gWS G lo dd σ)
theorem gWS_D {G : gT} {lo lo' : Int64} {dd dd' : UInt64} {σ σ' : gM} {A B : Nat → Prop} (h : va_D A (gWS G lo dd σ)) (hB : ∀ i : Nat, i < 219 → B (G.1 i)) : va_D B (gWS G lo' dd' σ') := by
  have lt : ∀ {lo : Int64} {dd : UInt64} {σ : gM} {i : Nat} {p : Nat × va_E}, (gWS G lo dd σ)[i]? = some p → i < 219 := by
    intro lo dd σ i p h
    have := (List.getElem?_eq_some_iff.mp h).1
    rw [gWS, List.length_map, List.length_range] at this
    exact this
  refine ⟨fun i j p q hp hq e => ?_, fun k q hq => ?_⟩
  · have hi := lt hp
    have hj := lt hq
    rw [gWS_at G lo' dd' σ' hi] at hp
    rw [gWS_at G lo' dd' σ' hj] at hq
    cases Option.some.inj hp
    cases Option.some.inj hq
    exact h.1 i j _ _ (gWS_at G lo dd σ hi) (gWS_at G lo dd σ hj) e
  · have hk := lt hq
    rw [gWS_at G lo' dd' σ' hk] at hq
    cases Option.some.inj hq
    exact hB k hk
theorem gAA_in (G : gT) (sz : Nat) {i : Nat} (hi : i < 219) : gAA G sz (G.1 i) := Or.inl ⟨i, hi, rfl⟩
theorem gAA_le {G : gT} {a b : Nat} (h : a ≤ b) {q : Nat} (hq : gAA G b q) : gAA G a q := by
  rcases hq with h1 | h1
  · exact Or.inl h1
  · exact Or.inr (Nat.le_trans h h1)
theorem gkd_ds {k j : Nat} (hk : k < 11) (hj : j < 18) : gkd (1 + 18 * k + j) = gdk j := by
  unfold gkd
  rw [if_neg (by omega), if_pos (by omega)]
  congr 1
  omega
theorem gkd_cm {k : Nat} (hk : k < 10) : gkd (207 + k) = 11 := by
  have h : k = 0 ∨ k = 1 ∨ k = 2 ∨ k = 3 ∨ k = 4 ∨ k = 5 ∨ k = 6 ∨ k = 7 ∨ k = 8 ∨ k = 9 := by omega
  rcases h with rfl | rfl | rfl | rfl | rfl | rfl | rfl | rfl | rfl | rfl <;> rfl
/-- what the tables say: the good words -/
def gTs : List Cond := lw_tbl.filter goodWord
theorem g_tw {L : List Cond} (hL : ∀ w ∈ L, w ∈ lw_tbl) {w : Cond} (i : Nat) (h : (decide (L[i]? = some w) && goodWord w) = true) : w ∈ gTs := by
  simp only [Bool.and_eq_true, decide_eq_true_eq] at h
  exact List.mem_filter.mpr ⟨hL w (List.mem_of_getElem? h.1), h.2⟩
theorem tm_0 : ∀ w ∈ k2_sels lw_privs, w ∈ lw_tbl := fun _ h => List.mem_append_left _ h
theorem tm_1 : ∀ w ∈ tables_1_1, w ∈ lw_tbl := fun _ h => List.mem_append_right _ (List.mem_append_left _ h)
theorem tm_2 : ∀ w ∈ tables_1_2, w ∈ lw_tbl := fun _ h => List.mem_append_right _ (List.mem_append_right _ (List.mem_append_left _ h))
theorem tm_3 : ∀ w ∈ tables_1_3, w ∈ lw_tbl := fun _ h => List.mem_append_right _ (List.mem_append_right _ (List.mem_append_right _ (List.mem_append_left _ h)))
theorem tm_4 : ∀ w ∈ tables_1_4, w ∈ lw_tbl := fun _ h => List.mem_append_right _ (List.mem_append_right _ (List.mem_append_right _ (List.mem_append_right _ (List.mem_append_left _ h))))
theorem tm_5 : ∀ w ∈ tables_1_5, w ∈ lw_tbl := fun _ h => List.mem_append_right _ (List.mem_append_right _ (List.mem_append_right _ (List.mem_append_right _ (List.mem_append_right _ (List.mem_append_left _ h)))))
theorem tm_6 : ∀ w ∈ tables_1_6, w ∈ lw_tbl := fun _ h => List.mem_append_right _ (List.mem_append_right _ (List.mem_append_right _ (List.mem_append_right _ (List.mem_append_right _ (List.mem_append_right _ (List.mem_append_left _ h))))))
theorem tm_7 : ∀ w ∈ tables_1_7, w ∈ lw_tbl := fun _ h => List.mem_append_right _ (List.mem_append_right _ (List.mem_append_right _ (List.mem_append_right _ (List.mem_append_right _ (List.mem_append_right _ (List.mem_append_right _ h))))))
/-- the links between the nest's classes -/
def gNs : List Cond := [(Jvm.Cond.methodLinkNest "ParcelDepot" (9 : Nat) ({ cls := "ParcelDepot$DepotState", name := "<init>", desc := "()V" } : Jvm.MethodName) "ParcelDepot"), (Jvm.Cond.methodLinkNest "ParcelDepot$DepotState" (11 : Nat) ({ cls := "ParcelDepot$Roads", name := "<init>", desc := "()V" } : Jvm.MethodName) "ParcelDepot"), (Jvm.Cond.methodLinkNest "ParcelDepot$DepotState" (20 : Nat) ({ cls := "ParcelDepot$Parcels", name := "<init>", desc := "()V" } : Jvm.MethodName) "ParcelDepot"), (Jvm.Cond.methodLinkNest "ParcelDepot$DepotState" (27 : Nat) ({ cls := "ParcelDepot$Gloves", name := "<init>", desc := "()V" } : Jvm.MethodName) "ParcelDepot"), (Jvm.Cond.methodLinkNest "ParcelDepot$History" (24 : Nat) ({ cls := "ParcelDepot$DepotState", name := "<init>", desc := "()V" } : Jvm.MethodName) "ParcelDepot"), (Jvm.Cond.methodLinkNest "ParcelDepot" (28 : Nat) ({ cls := "ParcelDepot$Estimate", name := "<init>", desc := "()V" } : Jvm.MethodName) "ParcelDepot"), (Jvm.Cond.methodLinkNest "ParcelDepot$CommandText" (31 : Nat) ({ cls := "ParcelDepot$Command", name := "<init>", desc := "()V" } : Jvm.MethodName) "ParcelDepot"), (Jvm.Cond.methodLinkNest "ParcelDepot" (42 : Nat) ({ cls := "ParcelDepot$SackText", name := "<init>", desc := "()V" } : Jvm.MethodName) "ParcelDepot"), (Jvm.Cond.methodLinkNest "ParcelDepot$DepotState" (72 : Nat) ({ cls := "ParcelDepot", name := "isIndex", desc := "(II)Z" } : Jvm.MethodName) "ParcelDepot"), (Jvm.Cond.methodLinkNest "ParcelDepot$DepotState" (76 : Nat) ({ cls := "ParcelDepot", name := "isWithin", desc := "(III)Z" } : Jvm.MethodName) "ParcelDepot"), (Jvm.Cond.methodLinkNest "ParcelDepot$Estimate" (60 : Nat) ({ cls := "ParcelDepot", name := "isIndex", desc := "(II)Z" } : Jvm.MethodName) "ParcelDepot"), (Jvm.Cond.methodLinkNest "ParcelDepot$CommandText" (32 : Nat) ({ cls := "ParcelDepot", name := "isIndex", desc := "(II)Z" } : Jvm.MethodName) "ParcelDepot"), (Jvm.Cond.fieldLinkNest "ParcelDepot$CommandText" (40 : Nat) "ParcelDepot" "FORMS" "[LParcelDepot$Form;" "ParcelDepot"), (Jvm.Cond.declares ({ cls := "java/lang/RuntimeException", name := "<init>", desc := "()V" } : Jvm.MethodName)), (Jvm.Cond.declares ({ cls := "java/lang/RuntimeException", name := "<init>", desc := "(Ljava/lang/String;)V" } : Jvm.MethodName)), (Jvm.Cond.declares ({ cls := "java/lang/Exception", name := "<init>", desc := "()V" } : Jvm.MethodName)), (Jvm.Cond.declares ({ cls := "java/lang/Exception", name := "<init>", desc := "(Ljava/lang/String;)V" } : Jvm.MethodName)), (Jvm.Cond.declares ({ cls := "java/lang/Throwable", name := "<init>", desc := "()V" } : Jvm.MethodName)), (Jvm.Cond.declares ({ cls := "java/lang/Throwable", name := "<init>", desc := "(Ljava/lang/String;)V" } : Jvm.MethodName)), (Jvm.Cond.declares ({ cls := "java/lang/Enum", name := "ordinal", desc := "()I" } : Jvm.MethodName)), (Jvm.Cond.declares ({ cls := "java/lang/IndexOutOfBoundsException", name := "<init>", desc := "()V" } : Jvm.MethodName)), (Jvm.Cond.declares ({ cls := "java/lang/IndexOutOfBoundsException", name := "<init>", desc := "(Ljava/lang/String;)V" } : Jvm.MethodName)), (Jvm.Cond.castable "java/lang/IndexOutOfBoundsException" "java/lang/IndexOutOfBoundsException"), (Jvm.Cond.castable "java/lang/IllegalArgumentException" "java/lang/IllegalArgumentException"), (Jvm.Cond.castable "java/lang/IllegalStateException" "java/lang/IllegalStateException"), (Jvm.Cond.castable "java/lang/UnsupportedOperationException" "java/lang/UnsupportedOperationException"), (Jvm.Cond.castable "java/util/NoSuchElementException" "java/util/NoSuchElementException"), (Jvm.Cond.castable "java/lang/ArithmeticException" "java/lang/ArithmeticException")]
/-- what a text is: who loads it, where, the text (the forms' seven, the throws' nine, the law's eighteen) -/
def gTx : List (String × Nat × String) := [("ParcelDepot$Form", 49, "road #-# %"), ("ParcelDepot$Form", 55, "parcel % # #"), ("ParcelDepot$Form", 58, "glove #"), ("ParcelDepot$Form", 61, "put % #"), ("ParcelDepot$Form", 64, "out %"), ("ParcelDepot$Form", 67, "carry # #"), ("ParcelDepot$Form", 70, "back %"), ("ParcelDepot", 230, "there are no parcels"), ("ParcelDepot", 263, "the text is malformed"), ("ParcelDepot", 274, "a command cannot be carried out"), ("ParcelDepot", 296, "no state was saved"), ("ParcelDepot", 304, "there is nothing with this index"), ("ParcelDepot", 307, "an argument is out of range"), ("ParcelDepot", 309, "the state does not allow this call"), ("ParcelDepot", 311, "this cannot be done"), ("ParcelDepot", 315, "there is no such thing"), ("ParcelDepotLaw", 158, "carry 0 "), ("ParcelDepotLaw", 167, ";carry 0 "), ("ParcelDepotLaw", 182, ";road 2-2 1"), ("ParcelDepotLaw", 190, "glove 4"), ("ParcelDepotLaw", 192, "p"), ("ParcelDepotLaw", 198, "road 0-5"), ("ParcelDepotLaw", 200, "put 123"), ("ParcelDepotLaw", 202, "parcel 20 3"), ("ParcelDepotLaw", 204, "glove 33"), ("ParcelDepotLaw", 206, ""), ("ParcelDepotLaw", 208, "out 1;"), ("ParcelDepotLaw", 210, "carry 2"), ("ParcelDepotLaw", 212, "px"), ("ParcelDepotLaw", 214, "back"), ("ParcelDepotLaw", 216, "z"), ("ParcelDepotLaw", 234, "road 0-1 "), ("ParcelDepotLaw", 236, ";road 1-2 3;road 0-2 20;glove 2;glove 3"), ("ParcelDepotLaw", 257, "s0@2 20h>1")]
def gLen : List Nat := [10, 12, 7, 7, 5, 9, 6, 20, 21, 31, 18, 32, 27, 34, 19, 22, 8, 9, 11, 7, 1, 8, 7, 11, 8, 0, 6, 7, 2, 4, 1, 9, 39, 10]
def gByt : List (List Int32) := [[114, 111, 97, 100, 32, 35, 45, 35, 32, 37], [112, 97, 114, 99, 101, 108, 32, 37, 32, 35, 32, 35], [103, 108, 111, 118, 101, 32, 35], [112, 117, 116, 32, 37, 32, 35], [111, 117, 116, 32, 37], [99, 97, 114, 114, 121, 32, 35, 32, 35], [98, 97, 99, 107, 32, 37], [116, 104, 101, 114, 101, 32, 97, 114, 101, 32, 110, 111, 32, 112, 97, 114, 99, 101, 108, 115], [116, 104, 101, 32, 116, 101, 120, 116, 32, 105, 115, 32, 109, 97, 108, 102, 111, 114, 109, 101, 100], [97, 32, 99, 111, 109, 109, 97, 110, 100, 32, 99, 97, 110, 110, 111, 116, 32, 98, 101, 32, 99, 97, 114, 114, 105, 101, 100, 32, 111, 117, 116], [110, 111, 32, 115, 116, 97, 116, 101, 32, 119, 97, 115, 32, 115, 97, 118, 101, 100], [116, 104, 101, 114, 101, 32, 105, 115, 32, 110, 111, 116, 104, 105, 110, 103, 32, 119, 105, 116, 104, 32, 116, 104, 105, 115, 32, 105, 110, 100, 101, 120], [97, 110, 32, 97, 114, 103, 117, 109, 101, 110, 116, 32, 105, 115, 32, 111, 117, 116, 32, 111, 102, 32, 114, 97, 110, 103, 101], [116, 104, 101, 32, 115, 116, 97, 116, 101, 32, 100, 111, 101, 115, 32, 110, 111, 116, 32, 97, 108, 108, 111, 119, 32, 116, 104, 105, 115, 32, 99, 97, 108, 108], [116, 104, 105, 115, 32, 99, 97, 110, 110, 111, 116, 32, 98, 101, 32, 100, 111, 110, 101], [116, 104, 101, 114, 101, 32, 105, 115, 32, 110, 111, 32, 115, 117, 99, 104, 32, 116, 104, 105, 110, 103], [99, 97, 114, 114, 121, 32, 48, 32], [59, 99, 97, 114, 114, 121, 32, 48, 32], [59, 114, 111, 97, 100, 32, 50, 45, 50, 32, 49], [103, 108, 111, 118, 101, 32, 52], [112], [114, 111, 97, 100, 32, 48, 45, 53], [112, 117, 116, 32, 49, 50, 51], [112, 97, 114, 99, 101, 108, 32, 50, 48, 32, 51], [103, 108, 111, 118, 101, 32, 51, 51], [], [111, 117, 116, 32, 49, 59], [99, 97, 114, 114, 121, 32, 50], [112, 120], [98, 97, 99, 107], [122], [114, 111, 97, 100, 32, 48, 45, 49, 32], [59, 114, 111, 97, 100, 32, 49, 45, 50, 32, 51, 59, 114, 111, 97, 100, 32, 48, 45, 50, 32, 50, 48, 59, 103, 108, 111, 118, 101, 32, 50, 59, 103, 108, 111, 118, 101, 32, 51], [115, 48, 64, 50, 32, 50, 48, 104, 62, 49]]
abbrev gtK (G : gT) : Nat → Nat := G.2.2.2.2.1
abbrev gtV (G : gT) : Nat → Nat := G.2.2.2.2.2.1
abbrev gtX (G : gT) : Nat → Nat := G.2.2.2.2.2.2.1
/-- the script -/
abbrev gtI (G : gT) : Nat → Int32 := G.2.2.2.2.2.2.2.1
/-- texts that were built: address, address of the bytes, text -/
abbrev gtS (G : gT) : List (Nat × Nat × List Int32) := G.2.2.2.2.2.2.2.2
/-- constants of the heap: the forms, their texts, the statics -/
def gKS (G : gT) (A : Nat → Prop) (U : State) (H : Heap) : Prop :=
  (vx_Zq Bundle.tN "UNASSIGNED_STACK" Bundle.steD A U H ∧ vx_Zq Bundle.tN "SUPPRESSED_SENTINEL" Bundle.listD A U H) ∧
  (va_Z "ParcelDepot" "FORMS" "[LParcelDepot$Form;" (.ref (gtX G 0)) A U H ∧ va_T (.object "ParcelDepot$Form") (gtX G 0) 7 (fun j => .ref (gtF G j)) A U H) ∧
  (va_Ef 7 "ParcelDepot$Form" "pattern" "Ljava/lang/String;" (fun i => .ref (gtK G i)) (gtF G) A U H ∧ va_Ef 7 "java/lang/Enum" "ordinal" "I" (fun i => .int (nI i)) (gtF G) A U H) ∧
  (va_Z "ParcelDepot$1" "$SwitchMap$ParcelDepot$Form" "[I" (.ref (gtX G 1)) A U H ∧ va_T .int (gtX G 1) 7 (fun j => .int (nI (j + 1))) A U H) ∧
  vk_S 7 gLen gByt (gtK G) (gtV G) A U H ∧ va_Z "java/lang/String" "COMPACT_STRINGS" "Z" (.int 1) A U H ∧ va_Zq "jdk/internal/util/Preconditions" "SIOOBE_FORMATTER" "Ljava/util/function/BiFunction;" A U H ∧
  (∀ i, i < 7 → va_O "ParcelDepot$Form" (gtF G i) A U H)
theorem gKS.moved {G : gT} {A : Nat → Prop} {u U : State} {H : Heap} (hv : u.vm.Alike U.vm) (h : gKS G A u H) : gKS G A U H := by
  obtain ⟨⟨a1, a2⟩, ⟨b1, b2⟩, ⟨c1, c2⟩, ⟨d1, d2⟩, e1, e2, e3, e4⟩ := h
  exact ⟨⟨vx_Zq.moved hv a1, vx_Zq.moved hv a2⟩, ⟨va_Z.moved hv b1, va_T.moved hv b2⟩, ⟨va_Ef.moved hv c1, va_Ef.moved hv c2⟩, ⟨va_Z.moved hv d1, va_T.moved hv d2⟩, vk_S.moved hv e1, va_Z.moved hv e2, va_Zq.moved hv e3, fun i hi => va_O.moved hv (e4 i hi)⟩
theorem gKS.kept {G : gT} {A : Nat → Prop} {U : State} {H H1 : Heap} (h : gKS G A U H) (hq : ∀ a : Nat, a < H.size → ¬ A a → H1[a]? = H[a]?) : gKS G A U H1 := by
  obtain ⟨⟨a1, a2⟩, ⟨b1, b2⟩, ⟨c1, c2⟩, ⟨d1, d2⟩, e1, e2, e3, e4⟩ := h
  exact ⟨⟨a1.kept hq, a2.kept hq⟩, ⟨b1.kept hq, b2.kept hq⟩, ⟨c1.kept hq, c2.kept hq⟩, ⟨d1.kept hq, d2.kept hq⟩, e1.kept hq, e2.kept hq, e3.kept hq, fun i hi => (e4 i hi).kept hq⟩
theorem gKS.narrow {G : gT} {A B : Nat → Prop} {U : State} {H : Heap} (h : gKS G A U H) (hq : ∀ q, B q → A q) : gKS G B U H := by
  obtain ⟨⟨a1, a2⟩, ⟨b1, b2⟩, ⟨c1, c2⟩, ⟨d1, d2⟩, e1, e2, e3, e4⟩ := h
  exact ⟨⟨a1.narrow hq, a2.narrow hq⟩, ⟨b1.narrow hq, b2.narrow hq⟩, ⟨c1.narrow hq, c2.narrow hq⟩, ⟨d1.narrow hq, d2.narrow hq⟩, e1.narrow hq, e2.narrow hq, e3.narrow hq, fun i hi => (e4 i hi).narrow hq⟩
/-- classes of throws that are not each other's -/
def gNc : List (String × String) := [("java/lang/IndexOutOfBoundsException", "java/lang/IllegalArgumentException"), ("java/lang/IndexOutOfBoundsException", "java/lang/IllegalStateException"), ("java/lang/IndexOutOfBoundsException", "java/lang/UnsupportedOperationException"), ("java/lang/IndexOutOfBoundsException", "java/util/NoSuchElementException"), ("java/lang/IllegalArgumentException", "java/lang/IndexOutOfBoundsException"), ("java/lang/IllegalArgumentException", "java/lang/IllegalStateException"), ("java/lang/IllegalArgumentException", "java/lang/UnsupportedOperationException"), ("java/lang/IllegalArgumentException", "java/util/NoSuchElementException"), ("java/lang/IllegalStateException", "java/lang/IndexOutOfBoundsException"), ("java/lang/IllegalStateException", "java/lang/IllegalArgumentException"), ("java/lang/IllegalStateException", "java/lang/UnsupportedOperationException"), ("java/lang/IllegalStateException", "java/util/NoSuchElementException"), ("java/lang/UnsupportedOperationException", "java/lang/IndexOutOfBoundsException"), ("java/lang/UnsupportedOperationException", "java/lang/IllegalArgumentException"), ("java/lang/UnsupportedOperationException", "java/lang/IllegalStateException"), ("java/lang/UnsupportedOperationException", "java/util/NoSuchElementException"), ("java/util/NoSuchElementException", "java/lang/IndexOutOfBoundsException"), ("java/util/NoSuchElementException", "java/lang/IllegalArgumentException"), ("java/util/NoSuchElementException", "java/lang/IllegalStateException"), ("java/util/NoSuchElementException", "java/lang/UnsupportedOperationException"), ("java/lang/ArithmeticException", "java/lang/IndexOutOfBoundsException"), ("java/lang/ArithmeticException", "java/lang/IllegalArgumentException"), ("java/lang/ArithmeticException", "java/lang/IllegalStateException"), ("java/lang/ArithmeticException", "java/lang/UnsupportedOperationException"), ("java/lang/ArithmeticException", "java/util/NoSuchElementException")]
/-- what holds at every method's start, beside the memory -/
def gCST (G : gT) (A : Nat → Prop) (U : State) : Prop :=
  (∀ w ∈ gTs, w.before #[] U = true) ∧ (∀ w ∈ gNs, va_Nw w U) ∧ (∀ i, i < 34 → vk_R (gTx.getD i ("", 0, "")).1 (gTx.getD i ("", 0, "")).2.1 (gTx.getD i ("", 0, "")).2.2 (gtK G i) U) ∧ ((∀ q ∈ gNc, va_Nc q.1 q.2 U) ∧ va_T .int (gtX G 2) (gtX G 3) (fun j => .int (gtI G j)) A U U.heap ∧ (∀ x ∈ gtS G, vk_S 1 [x.2.2.length] [x.2.2] (fun _ => x.1) (fun _ => x.2.1) A U U.heap) ∧ (∀ k, 16 ≤ k → k < 34 → vk_S 1 [gLen.getD k 0] [gByt.getD k []] (fun _ => gtK G k) (fun _ => gtV G k) A U U.heap)) ∧ gKS G A U U.heap
def gOkN : Cond → Bool
  | .methodLinkNest .. => true
  | .fieldLinkNest .. => true
  | .declares _ => true
  | .castable .. => true
  | _ => false
theorem gNs_ok : gNs.all gOkN = true := by decide +kernel
theorem g_warmN {w : Cond} {s U : State} (hw : gOkN w = true) (hW : s.WarmedH U.vm) (h : va_Nw w s) : va_Nw w U := by
  cases w <;> first
    | exact va_Nw.warmM hW h
    | exact va_Nw.warmF hW h
    | exact va_Nw.warmD hW h
    | exact va_Nw.warmC hW h
    | (simp [gOkN] at hw)
theorem gCST_call {G : gT} {s U : State} {H : Heap} {locs : List Loc} (h : gCST G (gAA G s.heap.size) s) (hS : va_S (gAA G s.heap.size) s.heap H locs) (hU : U.heap = H) (hW : s.WarmedH U.vm) : gCST G (gAA G H.size) U := by
  obtain ⟨h1, h2, h3, ⟨h4, h6, h7, h8⟩, h5⟩ := h
  refine ⟨fun w hw => word_at hW (good_of_word (List.mem_filter.mp hw).2) (h1 w hw), fun w hw => g_warmN (List.all_eq_true.mp gNs_ok w hw) hW (h2 w hw), fun i hi => (h3 i hi).warm hW, ⟨fun q hq => (h4 q hq).moved hW.alike, ?_, fun x hx => ?_, fun k h16 h34 => ?_⟩, ?_⟩
  · rw [hU]
    exact ((va_T.moved hW.alike h6).kept hS.2.1).narrow (fun q hq => gAA_le hS.1 hq)
  · rw [hU]
    exact ((vk_S.moved hW.alike (h7 x hx)).kept hS.2.1).narrow (fun q hq => gAA_le hS.1 hq)
  · rw [hU]
    exact ((vk_S.moved hW.alike (h8 k h16 h34)).kept hS.2.1).narrow (fun q hq => gAA_le hS.1 hq)
  rw [hU]
  exact ((h5.moved hW.alike).kept hS.2.1).narrow (fun q hq => gAA_le hS.1 hq)
theorem gCST_calling {G : gT} {A : Nat → Prop} {U : State} {g : JFrame} {mk : MethodId} {a : Array Value} (h : gCST G A U) : gCST G A (U.calling g mk a) := by
  obtain ⟨h1, h2, h3, ⟨h4, h6, h7, h8⟩, h5⟩ := h
  refine ⟨fun w hw => ?_, fun w hw => ?_, fun i hi => vk_R.same rfl (h3 i hi), ⟨fun q hq => va_Nc.moved (Vm.Alike.refl U.vm) (h4 q hq), va_T.moved (u := U) (U := U.calling g mk a) (Vm.Alike.refl U.vm) h6, fun x hx => vk_S.moved (u := U) (U := U.calling g mk a) (Vm.Alike.refl U.vm) (h7 x hx), fun k h16 h34 => vk_S.moved (u := U) (U := U.calling g mk a) (Vm.Alike.refl U.vm) (h8 k h16 h34)⟩, gKS.moved (Vm.Alike.refl U.vm) h5⟩
  · have hg := good_of_word (List.mem_filter.mp hw).2
    rcases hg with hg | ⟨ty, rfl⟩
    · simp only [Bool.and_eq_true] at hg
      exact va_tabs hg.1 (rfl : U.vm = (U.calling g mk a).vm) (h1 w hw)
    · exact h1 _ hw
  · have hg := List.all_eq_true.mp gNs_ok w hw
    exact va_tabs (A := #[]) (by cases w <;> first | rfl | (simp [gOkN] at hg)) (rfl : U.vm = (U.calling g mk a).vm) (h2 w hw)
abbrev gO : Type := (Option Value × gM × Int64 × UInt64) ⊕ (String × gM × Int64 × UInt64)
def gPc (G : gT) (sz : Nat) (av : List Value) (lo : Int64) (dd : UInt64) (σ : gM) : Array Value → State → Prop := va_Pc av (fun U => U.heap.size = sz ∧ gMU G (gAA G sz) lo dd σ U ∧ gCST G (gAA G sz) U)
def gQc (G : gT) (sz : Nat) (out : gO) : Array Value → State → Outcome → State → Prop := fun _ st o t => (∃ (v : Option Value) (σ : gM) (lo : Int64) (dd : UInt64), out = .inl (v, σ, lo, dd) ∧ o = .returned v ∧ gMU G (gAA G sz) lo dd σ t) ∧ va_F (gAA G sz) st t
def gXC (G : gT) (sz : Nat) (out : gO) : String → State → State → Prop := fun E st t => (∃ (σ : gM) (lo : Int64) (dd : UInt64), out = .inr (E, σ, lo, dd) ∧ gMU G (gAA G sz) lo dd σ t) ∧ va_F (gAA G sz) st t
/-- a method's contract: from one memory to another, with an answer or a throw -/
def gCT (l : Launch) (y : MethodName) (cc : ByteArray) (maxL : Nat) (ret : Option FieldType) (rm : Room) (mc ms : Nat) (G : gT) (sz : Nat) (av : List Value) (lo : Int64) (dd : UInt64) (σ : gM) (out : gO) : Prop :=
  vx_Met l y [.code y cc maxL ret] rm (gPc G sz av lo dd σ) (gQc G sz out) (gXC G sz out) mc ms (gAA G sz)
theorem gPc_blind {G : gT} {sz : Nat} {av : List Value} {lo : Int64} {dd : UInt64} {σ : gM} : FrameBlind (gPc G sz av lo dd σ) := by
  rintro a U g mk ⟨h1, h2, ⟨hK, hP, hD⟩, h4⟩
  exact ⟨h1, h2, ⟨va_K.moved (u := U) (U := U.calling g mk a) (Vm.Alike.refl U.vm) hK, hP, hD⟩, gCST_calling h4⟩
/-- a word's fact at the arguments of a walk -/
theorem g_at {w : Cond} {s : State} {args : Array Value} (hw : w ∈ gTs) (h : ∀ w ∈ gTs, w.before #[] s = true) : w.before args s = true := by
  rcases good_of_word (List.mem_filter.mp hw).2 with hg | ⟨ty, rfl⟩
  · simp only [Bool.and_eq_true] at hg
    exact va_tabs hg.1 rfl (h w hw)
  · exact h _ hw
theorem gCT_of {l : Launch} {y : MethodName} {cc : ByteArray} {maxL : Nat} {ret : Option FieldType} {rm : Room} {mc ms : Nat} {G : gT} {sz : Nat} {av : List Value} {lo : Int64} {dd : UInt64} {σ : gM} {out : gO} (hy : plainName y.cls = true) (hlen : (lg_sl av).length ≤ maxL)
    (body : ∀ (p : Program) (e : Env) (s : State) (m : MethodId) (args : Array Value) (below : List Frame) (meth : Method) (c : Code) (ls : Array Slot), CallFix p m c cc maxL s args gTs y.cls → meth.sig.returnType = ret → meth.locks = false → (∀ x ∈ c.exceptionTable.toList, False) → s.heap.size = sz → gCST G (gAA G s.heap.size) s → lv_has ls maxL (lv_args 0 av) → ∀ (H : Heap) (locs : List Loc), gMS G (gAA G s.heap.size) lo dd σ s H locs →
      W p l e rm s m args below meth c H locs 0 0 (vx_MQ below (gQc G s.heap.size out) (gXC G s.heap.size out) args s mc ms (gAA G s.heap.size)) (F0 m 0 ls [])) : gCT l y cc maxL ret rm mc ms G sz av lo dd σ out := by
  refine vx_ofW (cc := cc) (maxL := maxL) (ret := ret) hy rfl ?_
  intro p e s m args below meth c s₁ B hml ht hv
  obtain ⟨rfl, rfl, ⟨hK, hP, hD⟩, hC⟩ := hv
  have hl := lv_entry av hlen
  rw [lg_entry_eq]
  exact body p e s m av.toArray below meth c _ ⟨B.exec, B.bytes, hml, findClass_of_methodNamed B.named, fun w hw => g_at hw hC.1⟩ B.returns B.notSynchronized ht rfl hC hl _ _ ⟨hK, hP, hD, va_S.rf⟩
section GROWS
variable {p : Program} {l : Launch} {e : Env} {R : Room} {s : State} {m : MethodId} {args : Array Value} {below : List Frame} {meth : Method} {c : Code} {H : Heap} {locs : List Loc} {cells slots : Nat} {Q : State → Prop}
variable {cc : ByteArray} {nL : Nat} {own : String} {pc : Nat} {ls : Array Slot} {rest : List Value} {G : gT} {lo : Int64} {dd : UInt64} {σ : gM}
/-- a field is read -/
theorem g_get {A : Nat → Prop} {ref C : String} {T : u_T} {N ci index i : Nat} (S : CallFix p m c cc nL s args gTs own) (M : gMS G A lo dd σ s H locs) (hin : ∀ w ∈ u_ws C T N, w ∈ gTs) (hi : i < 219) {fs : List Value} (he : gent G i lo dd (σ i) (gkd i) = .inr (ci, fs)) (hc : vwCl[ci]? = some (C, T, N)) (k : Nat) (hk : k < N) (hlink : Cond.fieldLink own index ref (T k).2.1 (T k).2.2.1 ∈ gTs) (href : ref = (T k).1) {v : Value} (hv : fs[k]? = some v) (hdg : decode cc pc = .ok (.getfield index, 3))
    (kk : W p l e R s m args below meth c H locs cells slots Q (F0 m (pc + 3) ls (v :: rest))) : W p l e R s m args below meth c H locs cells slots Q (F0 m pc ls (.ref (G.1 i) :: rest)) := by
  obtain ⟨hx, hb, -, hown, hts⟩ := S
  exact va_get hx hb hts hin hown M.1 M.2.1 i (by rw [gWS_at G lo dd σ hi, he]) hc k hk (hts _ hlink) (fun x h => by rw [href]; exact h) hv hdg kk
/-- a field is written -/
theorem g_put {A : Nat → Prop} {ref C : String} {T : u_T} {N ci index i : Nat} (S : CallFix p m c cc nL s args gTs own) (M : gMS G A lo dd σ s H locs) (hin : ∀ w ∈ u_ws C T N, w ∈ gTs) (ty0 : Nat → FieldType) (hty : ∀ k, k < N → parseFieldDescriptor (T k).2.2.1 = some (ty0 k)) (hnm : ∀ a, a < N → ∀ b, b < N → a ≠ b → (T a).2.1 ≠ (T b).2.1) (hi : i < 219) {fs : List Value} (he : gent G i lo dd (σ i) (gkd i) = .inr (ci, fs)) (hc : vwCl[ci]? = some (C, T, N)) (k : Nat) (hk : k < N) (hlink : Cond.fieldLink own index ref (T k).2.1 (T k).2.2.1 ∈ gTs) (href : ref = (T k).1) (hfin : (T k).2.2.2 = false) {v : Value} (hn : narrow (ty0 k) v = v) (hfit : fits (ty0 k) v = true) (hl : k < fs.length)
    {r : Nat → Int32} (he2 : gent G i lo dd r (gkd i) = .inr (ci, fs.set k v)) (hdg : decode cc pc = .ok (.putfield index, 3))
    (kk : ∀ (H : Heap) (locs : List Loc), gMS G A lo dd (rset σ i r) s H locs → W p l e R s m args below meth c H locs cells slots Q (F0 m (pc + 3) ls rest)) : W p l e R s m args below meth c H locs cells slots Q (F0 m pc ls (v :: .ref (G.1 i) :: rest)) := by
  obtain ⟨hx, hb, -, hown, hts⟩ := S
  obtain ⟨hK, hP, hD, hS⟩ := M
  refine va_put hx hb hts hin ty0 hty hnm hown hK hP hD hS i (by rw [gWS_at G lo dd σ hi, he]) hc k hk (hts _ hlink) (fun x h => by rw [href]; exact h) hfin (hty k hk) hn hfit hl hdg (fun H1 locs1 hP1 hD1 hS1 => ?_)
  rw [gWS_rset hi he2] at hP1 hD1
  exact kk H1 locs1 ⟨hK, hP1, hD1, hS1⟩
/-- rows of ints -/
theorem g_iald {A : Nat → Prop} {i n : Nat} (S : CallFix p m c cc nL s args gTs own) (M : gMS G A lo dd σ s H locs) (hi : i < 219) (he : gent G i lo dd (σ i) (gkd i) = .inl (G.2.1 0, n, .inl (σ i))) {x : Int32} (hin : vp_in x n) (hdg : decode cc pc = .ok (.iaload, 1))
    (kk : W p l e R s m args below meth c H locs cells slots Q (F0 m (pc + 1) ls (.int (σ i x.toNatClampNeg) :: rest))) : W p l e R s m args below meth c H locs cells slots Q (F0 m pc ls (.int x :: .ref (G.1 i) :: rest)) :=
  va_iald S.1 S.2.1 M.1 M.2.1 i 0 (by rw [gWS_at G lo dd σ hi, he]) rfl hin hdg kk
theorem g_iast {A : Nat → Prop} {i n : Nat} (S : CallFix p m c cc nL s args gTs own) (M : gMS G A lo dd σ s H locs) (hi : i < 219) (he : ∀ r, gent G i lo dd r (gkd i) = .inl (G.2.1 0, n, .inl r)) {x v : Int32} (hin : vp_in x n) (hdg : decode cc pc = .ok (.iastore, 1))
    (kk : ∀ (H : Heap) (locs : List Loc), gMS G A lo dd (mset σ i x.toNatClampNeg v) s H locs → W p l e R s m args below meth c H locs cells slots Q (F0 m (pc + 1) ls rest)) : W p l e R s m args below meth c H locs cells slots Q (F0 m pc ls (.int v :: .int x :: .ref (G.1 i) :: rest)) := by
  obtain ⟨hK, hP, hD, hS⟩ := M
  refine va_iast S.1 S.2.1 hK hP hD hS i 0 (f := σ i) (n := n) (by rw [gWS_at G lo dd σ hi, he]) rfl hin hdg (fun H1 locs1 hP1 hD1 hS1 => ?_)
  rw [gWS_rset hi (he _)] at hP1 hD1
  exact kk H1 locs1 ⟨hK, hP1, hD1, hS1⟩
theorem g_zald {A : Nat → Prop} {i n : Nat} (S : CallFix p m c cc nL s args gTs own) (M : gMS G A lo dd σ s H locs) (hi : i < 219) (he : gent G i lo dd (σ i) (gkd i) = .inl (G.2.1 1, n, .inl (σ i))) {x : Int32} (hin : vp_in x n) (hdg : decode cc pc = .ok (.baload, 1))
    (kk : W p l e R s m args below meth c H locs cells slots Q (F0 m (pc + 1) ls (.int (σ i x.toNatClampNeg) :: rest))) : W p l e R s m args below meth c H locs cells slots Q (F0 m pc ls (.int x :: .ref (G.1 i) :: rest)) :=
  va_zald S.1 S.2.1 M.1 M.2.1 i 1 (by rw [gWS_at G lo dd σ hi, he]) rfl hin hdg kk
theorem g_zast {A : Nat → Prop} {i n : Nat} (S : CallFix p m c cc nL s args gTs own) (M : gMS G A lo dd σ s H locs) (hi : i < 219) (he : ∀ r, gent G i lo dd r (gkd i) = .inl (G.2.1 1, n, .inl r)) {x v : Int32} (hin : vp_in x n) (hdg : decode cc pc = .ok (.bastore, 1))
    (kk : ∀ (H : Heap) (locs : List Loc), gMS G A lo dd (mset σ i x.toNatClampNeg (vp_nar .boolean v)) s H locs → W p l e R s m args below meth c H locs cells slots Q (F0 m (pc + 1) ls rest)) : W p l e R s m args below meth c H locs cells slots Q (F0 m pc ls (.int v :: .int x :: .ref (G.1 i) :: rest)) := by
  obtain ⟨hK, hP, hD, hS⟩ := M
  refine va_zast S.1 S.2.1 hK hP hD hS i 1 (f := σ i) (n := n) (by rw [gWS_at G lo dd σ hi, he]) rfl hin hdg (fun H1 locs1 hP1 hD1 hS1 => ?_)
  rw [gWS_rset hi (he _)] at hP1 hD1
  exact kk H1 locs1 ⟨hK, hP1, hD1, hS1⟩
theorem g_cald {A : Nat → Prop} {i n : Nat} (S : CallFix p m c cc nL s args gTs own) (M : gMS G A lo dd σ s H locs) (hi : i < 219) (he : gent G i lo dd (σ i) (gkd i) = .inl (G.2.1 2, n, .inl (σ i))) {x : Int32} (hin : vp_in x n) (hdg : decode cc pc = .ok (.caload, 1))
    (kk : W p l e R s m args below meth c H locs cells slots Q (F0 m (pc + 1) ls (.int (σ i x.toNatClampNeg) :: rest))) : W p l e R s m args below meth c H locs cells slots Q (F0 m pc ls (.int x :: .ref (G.1 i) :: rest)) :=
  va_cald S.1 S.2.1 M.1 M.2.1 i 2 (by rw [gWS_at G lo dd σ hi, he]) rfl hin hdg kk
theorem g_cast {A : Nat → Prop} {i n : Nat} (S : CallFix p m c cc nL s args gTs own) (M : gMS G A lo dd σ s H locs) (hi : i < 219) (he : ∀ r, gent G i lo dd r (gkd i) = .inl (G.2.1 2, n, .inl r)) {x v : Int32} (hin : vp_in x n) (hdg : decode cc pc = .ok (.castore, 1))
    (kk : ∀ (H : Heap) (locs : List Loc), gMS G A lo dd (mset σ i x.toNatClampNeg (vp_nar .char v)) s H locs → W p l e R s m args below meth c H locs cells slots Q (F0 m (pc + 1) ls rest)) : W p l e R s m args below meth c H locs cells slots Q (F0 m pc ls (.int v :: .int x :: .ref (G.1 i) :: rest)) := by
  obtain ⟨hK, hP, hD, hS⟩ := M
  refine va_cast S.1 S.2.1 hK hP hD hS i 2 (f := σ i) (n := n) (by rw [gWS_at G lo dd σ hi, he]) rfl hin hdg (fun H1 locs1 hP1 hD1 hS1 => ?_)
  rw [gWS_rset hi (he _)] at hP1 hD1
  exact kk H1 locs1 ⟨hK, hP1, hD1, hS1⟩
/-- the ring, and the commands -/
theorem g_aaldR {A : Nat → Prop} (S : CallFix p m c cc nL s args gTs own) (M : gMS G A lo dd σ s H locs) {x : Int32} (hin : vp_in x 9) (hdg : decode cc pc = .ok (.aaload, 1))
    (kk : W p l e R s m args below meth c H locs cells slots Q (F0 m (pc + 1) ls (.ref (G.1 (1 + 18 * (x.toNatClampNeg + 2))) :: rest))) : W p l e R s m args below meth c H locs cells slots Q (F0 m pc ls (.int x :: .ref (G.1 200) :: rest)) := by
  have e1 : 1 + 18 * (x.toNatClampNeg + 2) = 37 + 18 * x.toNatClampNeg := by omega
  rw [e1] at kk
  exact va_aldq S.1 S.2.1 M.1 M.2.1 200 3 (f := fun j => some (G.1 (37 + 18 * j))) (n := 9) (by rw [gWS_at G lo dd σ (by decide)]; rfl) rfl hin hdg kk
theorem g_aaldC {A : Nat → Prop} (S : CallFix p m c cc nL s args gTs own) (M : gMS G A lo dd σ s H locs) {x : Int32} (hin : vp_in x 10) (hdg : decode cc pc = .ok (.aaload, 1))
    (kk : W p l e R s m args below meth c H locs cells slots Q (F0 m (pc + 1) ls (.ref (G.1 (207 + x.toNatClampNeg)) :: rest))) : W p l e R s m args below meth c H locs cells slots Q (F0 m pc ls (.int x :: .ref (G.1 206) :: rest)) :=
  va_aldq S.1 S.2.1 M.1 M.2.1 206 4 (f := fun j => some (G.1 (207 + j))) (n := 10) (by rw [gWS_at G lo dd σ (by decide)]; rfl) rfl hin hdg kk
theorem g_alen {A : Nat → Prop} {i n t : Nat} {cA : ClassId} {ty : FieldType} {f : (Nat → Int32) ⊕ (Nat → Int64) ⊕ (Nat → UInt32) ⊕ (Nat → UInt64) ⊕ (Nat → Option Nat)} (S : CallFix p m c cc nL s args gTs own) (M : gMS G A lo dd σ s H locs) (hi : i < 219) (he : gent G i lo dd (σ i) (gkd i) = .inl (cA, n, f)) (ht : (gtys G)[t]? = some (cA, ty)) {v : Int32} (hv : Int32.ofNat n = v) (hdg : decode cc pc = .ok (.arraylength, 1))
    (kk : W p l e R s m args below meth c H locs cells slots Q (F0 m (pc + 1) ls (.int v :: rest))) : W p l e R s m args below meth c H locs cells slots Q (F0 m pc ls (.ref (G.1 i) :: rest)) :=
  va_alen S.1 S.2.1 M.1 M.2.1 i t (by rw [gWS_at G lo dd σ hi, he]) ht hv hdg kk
/-- a row of ints is copied over another -/
theorem g_copy {A : Nat → Prop} {i j n0 n1 index : Nat} (S : CallFix p m c cc nL s args gTs own) (M : gMS G A lo dd σ s H locs) (hml : nL = ls.size) (hlink : Cond.methodLink own index arraycopyName ∈ gTs) (hnat : Cond.native arraycopyName ∈ gTs) (hstat : Cond.static arraycopyName ∈ gTs) (hini : Cond.initialized "java/lang/System" ∈ gTs) (hi : i < 219) (hj : j < 219) (hei : gent G i lo dd (σ i) (gkd i) = .inl (G.2.1 0, n0, .inl (σ i))) (hej : ∀ r, gent G j lo dd r (gkd j) = .inl (G.2.1 0, n1, .inl r)) {sp dp n : Int32} (h1 : ¬ sp < 0) (h2 : ¬ dp < 0) (h3 : ¬ n < 0) (h4 : sp.toNatClampNeg + n.toNatClampNeg ≤ n0) (h5 : dp.toNatClampNeg + n.toNatClampNeg ≤ n1)
    (hframes : 1 ≤ R.frames) (hlocals : (rest.map fun v => v.category).sum + (nativeFrameWords "java/lang/System" "arraycopy" 5 + 11) ≤ R.locals) (hdg : decode cc pc = .ok (.invokestatic index, 3))
    (kk : ∀ (H : Heap) (locs : List Loc), gMS G A lo dd (rset σ j (va_cpy (σ i) (σ j) sp.toNatClampNeg dp.toNatClampNeg n.toNatClampNeg)) s H locs → W p l e R s m args below meth c H locs cells slots Q (F0 m (pc + 3) ls rest)) : W p l e R s m args below meth c H locs cells slots Q (F0 m pc ls (.int n :: .int dp :: .ref (G.1 j) :: .int sp :: .ref (G.1 i) :: rest)) := by
  obtain ⟨hx, hb, hml0, hown, hts⟩ := S
  obtain ⟨hK, hP, hD, hS⟩ := M
  refine va_copyi hx hb (hml0.trans hml) hown (hts _ hlink) (hts _ hnat) (hts _ hstat) (hts _ hini) hK hP hD hS i j 0 0 (ty := .int) (by rw [gWS_at G lo dd σ hi, hei]) (f := σ i) (g := σ j) (by rw [gWS_at G lo dd σ hj, hej]) rfl rfl rfl h1 h2 h3 h4 h5 (fun _ _ => rfl) hframes hlocals hdg (fun H1 locs1 hP1 hD1 hS1 => ?_)
  rw [gWS_rset hj (hej _)] at hP1 hD1
  exact kk H1 locs1 ⟨hK, hP1, hD1, hS1⟩
/-- a numbered object as receiver -/
theorem g_recv {A : Nat → Prop} {i ci : Nat} {q : vw_C} {fs : List Value} (M : gMS G A lo dd σ s H locs) (hi : i < 219) (he : gent G i lo dd (σ i) (gkd i) = .inr (ci, fs)) (hc : vwCl[ci]? = some q) : ∃ cell : Cell, H[G.1 i]? = some cell ∧ cell.vm.isStatics = false ∧ s.vm.findClass q.1 = some cell.cls :=
  va_recv M.1 M.2.1 hc (by rw [gWS_at G lo dd σ hi, he])
/-- a callee's start -/
theorem g_pre {As : List Value} (M : gMS G (gAA G s.heap.size) lo dd σ s H locs) (C0 : gCST G (gAA G s.heap.size) s) : FrameBlind (gPc G H.size As lo dd σ) ∧ ∀ U : State, U.heap = H → s.WarmedH U.vm → gPc G H.size As lo dd σ As.toArray U :=
  ⟨gPc_blind, fun U hU hW => ⟨rfl, by rw [hU], ⟨M.1.moved hW.alike, by rw [hU]; exact M.2.1, gWS_D M.2.2.1 (fun i hi => gAA_in G _ hi)⟩, gCST_call C0 M.2.2.2 hU hW⟩⟩
/-- behind a call that has returned: the new memory -/
theorem g_runR {v : Option Value} {σ' : gM} {lo' : Int64} {dd' : UInt64} {mc ms : Nat} {st0 : List Value} {a : Array Value} (M : gMS G (gAA G s.heap.size) lo dd σ s H locs) (hr : vx_Run p l e R s m args below meth c H locs cells slots mc ms (F0 m pc ls st0) rest (gQc G H.size (.inl (v, σ', lo', dd')) a) (gXC G H.size (.inl (v, σ', lo', dd'))) (gAA G H.size)) {cells' slots' : Nat} (hc : cells + mc = cells') (hs : slots + ms = slots')
    (kk : ∀ (H : Heap) (locs : List Loc), gMS G (gAA G s.heap.size) lo' dd' σ' s H locs → W p l e R s m args below meth c H locs cells' slots' Q (F0 m (pc + 3) ls (v.toList ++ rest))) : W p l e R s m args below meth c H locs cells slots Q (F0 m pc ls st0) := by
  subst hc; subst hs
  intro T hT X
  rcases hr T hT X with ⟨v1, st₀, t, T', L, h0, X', hL, e1, e2, ⟨⟨v2, σ2, lo2, dd2, ho, hv, hK, hP, hD⟩, hz, hk⟩, st⟩ | ⟨q, st₀, t, T', L, E, ce, h0, X', hL, e1, e2, ⟨⟨σ2, lo2, dd2, ho, -⟩, -⟩, -⟩
  · cases ho
    cases hv
    rw [h0] at hz hk
    have hS := M.2.2.2
    have hle : s.heap.size ≤ H.size := hS.1
    have hM : gMS G (gAA G s.heap.size) lo' dd' σ' s T'.heap (locs ++ L) := by
      refine ⟨M.1, by rw [e1]; exact hP, gWS_D hD (fun i hi => gAA_in G _ hi), Nat.le_trans hS.1 (by rw [e1]; exact hz), fun q h1 h2 => ?_, fun q hq => ?_⟩
      · rw [e1, hk q (Nat.lt_of_lt_of_le h1 hle) (fun z => h2 (gAA_le hle z))]
        exact hS.2.1 q h1 h2
      · rcases List.mem_append.mp hq with h | h
        · exact hS.2.2 q h
        · exact gAA_le hle (hL q h)
    obtain ⟨t2, a1, b1⟩ := kk T'.heap (locs ++ L) hM T' rfl X'
    exact ⟨t2, st t2 a1, b1⟩
  · cases ho
/-- behind a call that has thrown -/
theorem g_runX {E : String} {σ' : gM} {lo' : Int64} {dd' : UInt64} {mc ms : Nat} {st0 : List Value} {a : Array Value} (M : gMS G (gAA G s.heap.size) lo dd σ s H locs) (hr : vx_Run p l e R s m args below meth c H locs cells slots mc ms (F0 m pc ls st0) rest (gQc G H.size (.inr (E, σ', lo', dd')) a) (gXC G H.size (.inr (E, σ', lo', dd'))) (gAA G H.size)) {cells' slots' : Nat} (hc : cells + mc = cells') (hs : slots + ms = slots')
    (kk : ∀ (ce : Cell) (q : Addr) (H : Heap) (locs : List Loc), gMS G (gAA G s.heap.size) lo' dd' σ' s H locs → H[q]? = some ce → ce.vm = .none → s.vm.findClass E = some ce.cls → vx_W p l e R s m args below meth c H locs cells' slots' Q (F0 m pc ls rest) q) : W p l e R s m args below meth c H locs cells slots Q (F0 m pc ls st0) := by
  subst hc; subst hs
  intro T hT X
  rcases hr T hT X with ⟨v1, st₀, t, T', L, h0, X', hL, e1, e2, ⟨⟨v2, σ2, lo2, dd2, ho, -⟩, -⟩, -⟩ | ⟨q, st₀, t, T', L, E2, ce, h0, X', hL, e1, e2, ⟨⟨σ2, lo2, dd2, ho, hK, hP, hD⟩, hz, hk⟩, hq, hv, hcl, st⟩
  · cases ho
  · cases ho
    rw [h0] at hz hk
    have hS := M.2.2.2
    have hle : s.heap.size ≤ H.size := hS.1
    have hM : gMS G (gAA G s.heap.size) lo' dd' σ' s T'.heap (locs ++ L) := by
      refine ⟨M.1, by rw [e1]; exact hP, gWS_D hD (fun i hi => gAA_in G _ hi), Nat.le_trans hS.1 (by rw [e1]; exact hz), fun q h1 h2 => ?_, fun q hq => ?_⟩
      · rw [e1, hk q (Nat.lt_of_lt_of_le h1 hle) (fun z => h2 (gAA_le hle z))]
        exact hS.2.1 q h1 h2
      · rcases List.mem_append.mp hq with h | h
        · exact hS.2.2 q h
        · exact gAA_le hle (hL q h)
    obtain ⟨t2, a1, b1⟩ := kk ce q T'.heap (locs ++ L) hM (by rw [e1]; exact hq) hv hcl T' rfl X'
    exact ⟨t2, st.trans a1, b1⟩
end GROWS
/-- what the tables say of a method that is called -/
def gMV (y : MethodName) (cc : ByteArray) (maxL : Nat) (ret : Option FieldType) (n : Nat) : Prop := Cond.code y cc maxL ret ∈ gTs ∧ Cond.initialized y.cls ∈ gTs ∧ (y.cls ≠ "java/lang/invoke/MethodHandle" ∧ y.cls ≠ "java/lang/invoke/VarHandle" ∧ (parseMethodDescriptor y.desc).map (fun d => d.parameters.length) = some n)
theorem gGood {w : Cond} (h : w ∈ gTs) : GoodIn gTs [w] := fun w' h' => by
  cases List.mem_singleton.mp h'
  exact ⟨h, good_of_word (List.mem_filter.mp h).2⟩
def gRm (R rm : Room) (cells slots maxL : Nat) : Bool := Nat.ble (rm.frames + 1) R.frames && Nat.ble (8 + (maxL + 11) + rm.locals) R.locals && Nat.ble (cells + rm.cells) R.cells && Nat.ble (slots + rm.slots) R.slots
theorem gRm_of {R rm : Room} {cells slots maxL : Nat} (h : gRm R rm cells slots maxL = true) : (rm.frames + 1 ≤ R.frames ∧ 8 + (maxL + 11) + rm.locals ≤ R.locals) ∧ cells + rm.cells ≤ R.cells ∧ slots + rm.slots ≤ R.slots := by
  simp only [gRm, Bool.and_eq_true] at h
  exact ⟨⟨Nat.le_of_ble_eq_true h.1.1.1, Nat.le_of_ble_eq_true h.1.1.2⟩, Nat.le_of_ble_eq_true h.1.2, Nat.le_of_ble_eq_true h.2⟩
section GCALLS
variable {p : Program} {l : Launch} {e : Env} {R : Room} {s : State} {m : MethodId} {args : Array Value} {below : List Frame} {meth : Method} {c : Code} {H : Heap} {locs : List Loc} {cells slots : Nat} {Q : State → Prop}
variable {cc : ByteArray} {nL : Nat} {own : String} {pc : Nat} {ls : Array Slot} {rest As : List Value} {G : gT} {lo : Int64} {dd : UInt64} {σ : gM} {lv : List (Nat × Value)}
variable {y : MethodName} {bytes : ByteArray} {maxL n mc ms index i ci : Nat} {ret : Option FieldType} {rm : Room} {out : gO} {fs : List Value} {q : vw_C}
theorem g_invV (S : CallFix p m c cc nL s args gTs own) (M : gMS G (gAA G s.heap.size) lo dd σ s H locs) (C0 : gCST G (gAA G s.heap.size) s) (hl : lv_has ls nL lv) (hM : gCT l y bytes maxL ret rm rm.cells rm.slots G H.size (.ref (G.1 i) :: As) lo dd σ out) (hk : gMV y bytes maxL ret n) (hin : Cond.instanceMethod y ∈ gTs) (hsel : Cond.selects y.cls y y ∈ gTs) (hlink : Cond.methodLink own index y ∈ gTs)
    (hi : i < 219) (he : gent G i lo dd (σ i) (gkd i) = .inr (ci, fs)) (hcl : vwCl[ci]? = some q) (hq : q.1 = y.cls) (hn : As.length = n) {st0 : List Value} (hst : st0 = As.reverse ++ .ref (G.1 i) :: rest) (hW : Nat.ble (0 + (rest.map fun v => v.category).sum) 8 = true) (hR : gRm R rm cells slots maxL = true) (hdg : decode cc pc = .ok (.invokevirtual index, 3)) :
    vx_Run p l e R s m args below meth c H locs cells slots rm.cells rm.slots (F0 m pc ls st0) rest (gQc G H.size out (Value.ref (G.1 i) :: As).toArray) (gXC G H.size out) (gAA G H.size) := by
  obtain ⟨k1, k2, k3⟩ := hk
  obtain ⟨r1, r2⟩ := gRm_of hR
  have hts := S.2.2.2.2
  exact vx_runV S hM ⟨callB_of n hts (gGood k1) rfl rfl rfl (hts _ k2) (hts _ hlink) k3 r1, hts _ hin, hts _ hsel⟩ ⟨(g_pre M C0).1, by rw [← hq]; exact g_recv M hi he hcl, (g_pre M C0).2⟩ rfl hn hl.1 hst (Nat.le_of_ble_eq_true hW) hdg r2
theorem g_invS (S : CallFix p m c cc nL s args gTs own) (M : gMS G (gAA G s.heap.size) lo dd σ s H locs) (C0 : gCST G (gAA G s.heap.size) s) (hl : lv_has ls nL lv) (hM : gCT l y bytes maxL ret rm rm.cells rm.slots G H.size As lo dd σ out) (hk : gMV y bytes maxL ret n) (hst1 : Cond.static y ∈ gTs) (hlink : Cond.methodLink own index y ∈ gTs)
    (hn : As.length = n) {st0 : List Value} (hst : st0 = As.reverse ++ rest) (hW : Nat.ble (0 + (rest.map fun v => v.category).sum) 8 = true) (hR : gRm R rm cells slots maxL = true) (hdg : decode cc pc = .ok (.invokestatic index, 3)) :
    vx_Run p l e R s m args below meth c H locs cells slots rm.cells rm.slots (F0 m pc ls st0) rest (gQc G H.size out As.toArray) (gXC G H.size out) (gAA G H.size) := by
  obtain ⟨k1, k2, k3⟩ := hk
  obtain ⟨r1, r2⟩ := gRm_of hR
  have hts := S.2.2.2.2
  exact vx_runS S hM ⟨callB_of n hts (gGood k1) rfl rfl rfl (hts _ k2) (hts _ hlink) k3 r1, hts _ hst1⟩ (g_pre M C0) rfl hn hl.1 hst (Nat.le_of_ble_eq_true hW) hdg r2
theorem g_invSN {host : String} (S : CallFix p m c cc nL s args gTs own) (M : gMS G (gAA G s.heap.size) lo dd σ s H locs) (C0 : gCST G (gAA G s.heap.size) s) (hl : lv_has ls nL lv) (hM : gCT l y bytes maxL ret rm rm.cells rm.slots G H.size As lo dd σ out) (hk : gMV y bytes maxL ret n) (hst1 : Cond.static y ∈ gTs) (hlink : Cond.methodLinkNest own index y host ∈ gNs)
    (hn : As.length = n) {st0 : List Value} (hst : st0 = As.reverse ++ rest) (hW : Nat.ble (0 + (rest.map fun v => v.category).sum) 8 = true) (hR : gRm R rm cells slots maxL = true) (hdg : decode cc pc = .ok (.invokestatic index, 3)) :
    vx_Run p l e R s m args below meth c H locs cells slots rm.cells rm.slots (F0 m pc ls st0) rest (gQc G H.size out As.toArray) (gXC G H.size out) (gAA G H.size) := by
  obtain ⟨k1, k2, k3⟩ := hk
  obtain ⟨r1, r2⟩ := gRm_of hR
  have hts := S.2.2.2.2
  exact vx_runSN S hM ⟨va_cnB n hts (gGood k1) rfl rfl rfl (C0.2.1 _ hlink) (hts _ k2) k3 r1, hts _ hst1, trivial⟩ (g_pre M C0) rfl hn hl.1 hst (Nat.le_of_ble_eq_true hW) hdg r2
/-! the ends -/
theorem g_iret {v : Int32} (S : CallFix p m c cc nL s args gTs own) (M : gMS G (gAA G s.heap.size) lo dd σ s H locs) (hr : meth.sig.returnType = some .int) (hlk : meth.locks = false) (hc : cells ≤ mc) (hs : slots ≤ ms) (hdg : decode cc pc = .ok (.ireturn, 1)) (hout : out = .inl (some (.int v), σ, lo, dd)) : W p l e R s m args below meth c H locs cells slots (vx_MQ below (gQc G s.heap.size out) (gXC G s.heap.size out) args s mc ms (gAA G s.heap.size)) (F0 m pc ls [.int v]) := by
  obtain ⟨hK, hP, hD, hS⟩ := M
  refine W.widen hc hs (vx_ret (W.iret S.1 S.2.1 hr (fun t ht hW => ⟨⟨_, σ, lo, dd, hout, rfl, hK.moved hW.alike, by rw [ht]; exact hP, hD⟩, hS.F ht⟩) hS.2.2 hdg))
theorem g_zret {v : Int32} {ty : FieldType} (S : CallFix p m c cc nL s args gTs own) (M : gMS G (gAA G s.heap.size) lo dd σ s H locs) (hr : meth.sig.returnType = some ty) (hlk : meth.locks = false) (hn : narrow ty (.int v) = .int v) (hc : cells ≤ mc) (hs : slots ≤ ms) (hdg : decode cc pc = .ok (.ireturn, 1)) (hout : out = .inl (some (.int v), σ, lo, dd)) : W p l e R s m args below meth c H locs cells slots (vx_MQ below (gQc G s.heap.size out) (gXC G s.heap.size out) args s mc ms (gAA G s.heap.size)) (F0 m pc ls [.int v]) := by
  obtain ⟨hK, hP, hD, hS⟩ := M
  refine W.widen hc hs (vx_ret (W.zret S.1 S.2.1 hr hn (fun t ht hW => ⟨⟨_, σ, lo, dd, hout, rfl, hK.moved hW.alike, by rw [ht]; exact hP, hD⟩, hS.F ht⟩) hS.2.2 hdg))
theorem g_vret (S : CallFix p m c cc nL s args gTs own) (M : gMS G (gAA G s.heap.size) lo dd σ s H locs) (hr : meth.sig.returnType = none) (hlk : meth.locks = false) (hc : cells ≤ mc) (hs : slots ≤ ms) (hdg : decode cc pc = .ok (.return_, 1)) (hout : out = .inl (none, σ, lo, dd)) : W p l e R s m args below meth c H locs cells slots (vx_MQ below (gQc G s.heap.size out) (gXC G s.heap.size out) args s mc ms (gAA G s.heap.size)) (F0 m pc ls []) := by
  obtain ⟨hK, hP, hD, hS⟩ := M
  refine W.widen hc hs (vx_ret (W.vret S.1 S.2.1 hr (fun t ht hW => ⟨⟨_, σ, lo, dd, hout, rfl, hK.moved hW.alike, by rw [ht]; exact hP, hD⟩, hS.F ht⟩) hS.2.2 hdg))
theorem g_dret {v : UInt64} (S : CallFix p m c cc nL s args gTs own) (M : gMS G (gAA G s.heap.size) lo dd σ s H locs) (hr : meth.sig.returnType = some .double) (hlk : meth.locks = false) (hc : cells ≤ mc) (hs : slots ≤ ms) (hdg : decode cc pc = .ok (.dreturn, 1)) (hout : out = .inl (some (.double v), σ, lo, dd)) : W p l e R s m args below meth c H locs cells slots (vx_MQ below (gQc G s.heap.size out) (gXC G s.heap.size out) args s mc ms (gAA G s.heap.size)) (F0 m pc ls [.double v]) := by
  obtain ⟨hK, hP, hD, hS⟩ := M
  refine W.widen hc hs (vx_ret (W.dret S.1 S.2.1 hr (fun t ht hW => ⟨⟨_, σ, lo, dd, hout, rfl, hK.moved hW.alike, by rw [ht]; exact hP, hD⟩, hS.F ht⟩) hS.2.2 hdg))
theorem g_fret {v : UInt32} (S : CallFix p m c cc nL s args gTs own) (M : gMS G (gAA G s.heap.size) lo dd σ s H locs) (hr : meth.sig.returnType = some .float) (hlk : meth.locks = false) (hc : cells ≤ mc) (hs : slots ≤ ms) (hdg : decode cc pc = .ok (.freturn, 1)) (hout : out = .inl (some (.float v), σ, lo, dd)) : W p l e R s m args below meth c H locs cells slots (vx_MQ below (gQc G s.heap.size out) (gXC G s.heap.size out) args s mc ms (gAA G s.heap.size)) (F0 m pc ls [.float v]) := by
  obtain ⟨hK, hP, hD, hS⟩ := M
  refine W.widen hc hs (vx_ret (W.fret S.1 S.2.1 hr (fun t ht hW => ⟨⟨_, σ, lo, dd, hout, rfl, hK.moved hW.alike, by rw [ht]; exact hP, hD⟩, hS.F ht⟩) hS.2.2 hdg))
theorem g_aret {v : Value} {rt : FieldType} (S : CallFix p m c cc nL s args gTs own) (M : gMS G (gAA G s.heap.size) lo dd σ s H locs) (hr : meth.sig.returnType = some rt) (hlk : meth.locks = false) (hc : cells ≤ mc) (hs : slots ≤ ms) (hrt : (∃ n, rt = .object n) ∨ ∃ t, rt = .array t) (hv : v = .null ∨ ∃ a, v = .ref a) (hdg : decode cc pc = .ok (.areturn, 1)) (hout : out = .inl (some v, σ, lo, dd)) : W p l e R s m args below meth c H locs cells slots (vx_MQ below (gQc G s.heap.size out) (gXC G s.heap.size out) args s mc ms (gAA G s.heap.size)) (F0 m pc ls [v]) := by
  obtain ⟨hK, hP, hD, hS⟩ := M
  refine W.widen hc hs (vx_ret (W.aret S.1 S.2.1 hr hrt hv (fun t ht hW => ⟨⟨_, σ, lo, dd, hout, rfl, hK.moved hW.alike, by rw [ht]; exact hP, hD⟩, hS.F ht⟩) hS.2.2 hdg))
/-- a callee's throw goes on to the caller's caller -/
theorem g_out {E : String} {ce : Cell} {q : Addr} (M : gMS G (gAA G s.heap.size) lo dd σ s H locs) (hnx : ∀ x ∈ c.exceptionTable.toList, False) (hlk : meth.locks = false) (hcell : H[q]? = some ce) (hv : ce.vm = .none) (hcl : s.vm.findClass E = some ce.cls) (hc : cells ≤ mc) (hs : slots ≤ ms) (hout : out = .inr (E, σ, lo, dd)) : vx_W p l e R s m args below meth c H locs cells slots (vx_MQ below (gQc G s.heap.size out) (gXC G s.heap.size out) args s mc ms (gAA G s.heap.size)) (F0 m pc ls rest) q := by
  obtain ⟨hK, hP, hD, hS⟩ := M
  exact vx_out (fun x hx => (hnx x hx).elim) hlk hcell hv hcl (fun t ht hvm => ⟨⟨σ, lo, dd, hout, hK.moved hvm, by rw [ht]; exact hP, hD⟩, hS.F ht⟩) hS.2.2 hc hs
end GCALLS
/-! the words of the functions that the methods are -/
def nm {α β : Type} (v : α) (k : α → β) : β := k v
theorem nm_x {α β : Type} {v : α} {k : α → β} {r : β} (h : nm v k = r) : ∃ x, x = v ∧ k x = r := ⟨v, rfl, h⟩
def gi {α : Type} (x : Int32) (n : Nat) (A : Option α) : Option α := if x < 0 ∨ n ≤ x.toNatClampNeg then none else A
theorem gi_x {α : Type} {x : Int32} {n : Nat} {A : Option α} {r : α} (h : gi x n A = some r) : vp_in x n ∧ A = some r := by
  unfold gi at h
  by_cases hc : x < 0 ∨ n ≤ x.toNatClampNeg
  · rw [if_pos hc] at h; cases h
  · rw [if_neg hc] at h; exact ⟨hc, h⟩
theorem gi_in {α : Type} {x : Int32} {n : Nat} {A : Option α} (h : vp_in x n) : gi x n A = A := if_neg h
def gz {α : Type} (x : Int32) (A : Option α) : Option α := if x = 0 then none else A
theorem gz_x {α : Type} {x : Int32} {A : Option α} {r : α} (h : gz x A = some r) : ¬ x = 0 ∧ A = some r := by
  unfold gz at h
  by_cases hc : x = 0
  · rw [if_pos hc] at h; cases h
  · rw [if_neg hc] at h; exact ⟨hc, h⟩
/-- a small answer -/
def gn {α : Type} (ty : FieldType) (x : Int32) (A : Option α) : Option α := if vp_nar ty x = x then A else none
theorem gn_x {α : Type} {ty : FieldType} {x : Int32} {A : Option α} {r : α} (h : gn ty x A = some r) : vp_nar ty x = x ∧ A = some r := by
  unfold gn at h
  by_cases hc : vp_nar ty x = x
  · rw [if_pos hc] at h; exact ⟨hc, h⟩
  · rw [if_neg hc] at h; cases h
theorem g_narZ {x : Int32} (h : vp_nar .boolean x = x) : narrow .boolean (.int x) = .int x := by
  have h2 : narrow .boolean (.int x) = .int (vp_nar .boolean x) := rfl
  rw [h2, h]
theorem g_narC {x : Int32} (h : vp_nar .char x = x) : narrow .char (.int x) = .int x := by
  have h2 : narrow .char (.int x) = .int (vp_nar .char x) := rfl
  rw [h2, h]
def bd {α β : Type} (o : Option α) (k : α → Option β) : Option β := o.bind k
theorem bd_x {α β : Type} {o : Option α} {k : α → Option β} {r : β} (h : bd o k = some r) : ∃ a, o = some a ∧ k a = some r := by
  cases o with
  | none => cases h
  | some a => exact ⟨a, rfl, h⟩
theorem bd_s {α β : Type} (a : α) (k : α → Option β) : bd (some a) k = k a := rfl
theorem it_p {α : Sort _} {c : Prop} [Decidable c] {A B r : α} (hc : c) (h : (if c then A else B) = r) : A = r := by rw [if_pos hc] at h; exact h
theorem it_n {α : Sort _} {c : Prop} [Decidable c] {A B r : α} (hc : ¬ c) (h : (if c then A else B) = r) : B = r := by rw [if_neg hc] at h; exact h
def gEx (k : Nat) : String := ["java/lang/IndexOutOfBoundsException", "java/lang/IllegalArgumentException", "java/lang/IllegalStateException", "java/lang/UnsupportedOperationException", "java/util/NoSuchElementException", "java/lang/ArithmeticException"].getD k ""
