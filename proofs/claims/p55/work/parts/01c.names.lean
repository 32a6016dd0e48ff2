def RX0 : String := "ParcelDepot$1"
def TX0 : u_T := fun k => match k with
  | _ => ("", "", "", false)
def tyX0 : Nat → FieldType := fun k => match k with
  | _ => .int
abbrev wsX00 : List Cond := u_ws RX0 TX0 0
theorem nmX0 : ∀ a, a < 0 → ∀ b, b < 0 → a ≠ b → (TX0 a).2.1 ≠ (TX0 b).2.1 := by decide +kernel
theorem tyX0_ok : ∀ k, k < 0 → parseFieldDescriptor (TX0 k).2.2.1 = some (tyX0 k) := by decide +kernel
def RX1 : String := "ParcelDepot$Command"
def TX1 : u_T := fun k => match k with
  | 0 => ("ParcelDepot$Command", "form", "LParcelDepot$Form;", false)
  | 1 => ("ParcelDepot$Command", "first", "I", false)
  | 2 => ("ParcelDepot$Command", "second", "I", false)
  | _ => ("ParcelDepot$Command", "third", "I", false)
def tyX1 : Nat → FieldType := fun k => match k with
  | 0 => .object "ParcelDepot$Form"
  | 1 => .int
  | 2 => .int
  | _ => .int
abbrev wsX10 : List Cond := u_ws RX1 TX1 4
theorem nmX1 : ∀ a, a < 4 → ∀ b, b < 4 → a ≠ b → (TX1 a).2.1 ≠ (TX1 b).2.1 := by decide +kernel
theorem tyX1_ok : ∀ k, k < 4 → parseFieldDescriptor (TX1 k).2.2.1 = some (tyX1 k) := by decide +kernel
abbrev cX1_init : ByteArray := prog_3_method_1_code
def yX1_init : MethodName := ⟨RX1, "<init>", "()V"⟩
abbrev cX1_setNumber : ByteArray := prog_3_method_2_code
def yX1_setNumber : MethodName := ⟨RX1, "setNumber", "(II)V"⟩
def RX2 : String := "ParcelDepot$CommandText"
def TX2 : u_T := fun k => match k with
  | 0 => ("ParcelDepot$CommandText", "text", "[C", true)
  | 1 => ("ParcelDepot$CommandText", "commands", "[LParcelDepot$Command;", true)
  | 2 => ("ParcelDepot$CommandText", "length", "I", false)
  | 3 => ("ParcelDepot$CommandText", "count", "I", false)
  | _ => ("ParcelDepot$CommandText", "at", "I", false)
def tyX2 : Nat → FieldType := fun k => match k with
  | 0 => .array .char
  | 1 => .array (.object "ParcelDepot$Command")
  | 2 => .int
  | 3 => .int
  | _ => .int
abbrev wsX20 : List Cond := u_ws RX2 TX2 5
theorem nmX2 : ∀ a, a < 5 → ∀ b, b < 5 → a ≠ b → (TX2 a).2.1 ≠ (TX2 b).2.1 := by decide +kernel
theorem tyX2_ok : ∀ k, k < 5 → parseFieldDescriptor (TX2 k).2.2.1 = some (tyX2 k) := by decide +kernel
abbrev cX2_init : ByteArray := prog_4_method_1_code
def yX2_init : MethodName := ⟨RX2, "<init>", "()V"⟩
abbrev cX2_isFull : ByteArray := prog_4_method_2_code
def yX2_isFull : MethodName := ⟨RX2, "isFull", "()Z"⟩
abbrev cX2_add : ByteArray := prog_4_method_3_code
def yX2_add : MethodName := ⟨RX2, "add", "(C)I"⟩
abbrev cX2_clear : ByteArray := prog_4_method_4_code
def yX2_clear : MethodName := ⟨RX2, "clear", "()V"⟩
abbrev cX2_commandCount : ByteArray := prog_4_method_5_code
def yX2_commandCount : MethodName := ⟨RX2, "commandCount", "()I"⟩
abbrev cX2_command : ByteArray := prog_4_method_6_code
def yX2_command : MethodName := ⟨RX2, "command", "(I)LParcelDepot$Command;"⟩
abbrev cX2_read : ByteArray := prog_4_method_7_code
def yX2_read : MethodName := ⟨RX2, "read", "()I"⟩
abbrev cX2_readCommand : ByteArray := prog_4_method_8_code
def yX2_readCommand : MethodName := ⟨RX2, "readCommand", "(LParcelDepot$Command;I)Z"⟩
abbrev cX2_fits : ByteArray := prog_4_method_9_code
def yX2_fits : MethodName := ⟨RX2, "fits", "(LParcelDepot$Form;LParcelDepot$Command;I)Z"⟩
abbrev cX2_readNumber : ByteArray := prog_4_method_10_code
def yX2_readNumber : MethodName := ⟨RX2, "readNumber", "(Z)I"⟩
abbrev cX2_isDigit : ByteArray := prog_4_method_11_code
def yX2_isDigit : MethodName := ⟨RX2, "isDigit", "(I)Z"⟩
def RX3 : String := "ParcelDepot$DepotState"
def TX3 : u_T := fun k => match k with
  | 0 => ("ParcelDepot$DepotState", "roads", "LParcelDepot$Roads;", true)
  | 1 => ("ParcelDepot$DepotState", "parcels", "LParcelDepot$Parcels;", true)
  | 2 => ("ParcelDepot$DepotState", "gloves", "LParcelDepot$Gloves;", true)
  | _ => ("ParcelDepot$DepotState", "sacks", "LParcelDepot$Sacks;", true)
def tyX3 : Nat → FieldType := fun k => match k with
  | 0 => .object "ParcelDepot$Roads"
  | 1 => .object "ParcelDepot$Parcels"
  | 2 => .object "ParcelDepot$Gloves"
  | _ => .object "ParcelDepot$Sacks"
abbrev wsX30 : List Cond := u_ws RX3 TX3 4
theorem nmX3 : ∀ a, a < 4 → ∀ b, b < 4 → a ≠ b → (TX3 a).2.1 ≠ (TX3 b).2.1 := by decide +kernel
theorem tyX3_ok : ∀ k, k < 4 → parseFieldDescriptor (TX3 k).2.2.1 = some (tyX3 k) := by decide +kernel
abbrev cX3_init : ByteArray := prog_5_method_1_code
def yX3_init : MethodName := ⟨RX3, "<init>", "()V"⟩
abbrev cX3_copyFrom : ByteArray := prog_5_method_2_code
def yX3_copyFrom : MethodName := ⟨RX3, "copyFrom", "(LParcelDepot$DepotState;)V"⟩
abbrev cX3_isSafe : ByteArray := prog_5_method_3_code
def yX3_isSafe : MethodName := ⟨RX3, "isSafe", "(I)Z"⟩
abbrev cX3_roomIn : ByteArray := prog_5_method_4_code
def yX3_roomIn : MethodName := ⟨RX3, "roomIn", "(I)I"⟩
abbrev cX3_effortOf : ByteArray := prog_5_method_5_code
def yX3_effortOf : MethodName := ⟨RX3, "effortOf", "(II)I"⟩
abbrev cX3_joinPlaces : ByteArray := prog_5_method_6_code
def yX3_joinPlaces : MethodName := ⟨RX3, "joinPlaces", "(III)I"⟩
abbrev cX3_addParcel : ByteArray := prog_5_method_7_code
def yX3_addParcel : MethodName := ⟨RX3, "addParcel", "(III)I"⟩
abbrev cX3_addGlove : ByteArray := prog_5_method_8_code
def yX3_addGlove : MethodName := ⟨RX3, "addGlove", "(I)I"⟩
abbrev cX3_changeCapacity : ByteArray := prog_5_method_9_code
def yX3_changeCapacity : MethodName := ⟨RX3, "changeCapacity", "(II)I"⟩
abbrev cX3_putIn : ByteArray := prog_5_method_10_code
def yX3_putIn : MethodName := ⟨RX3, "putIn", "(II)I"⟩
abbrev cX3_pullOut : ByteArray := prog_5_method_11_code
def yX3_pullOut : MethodName := ⟨RX3, "pullOut", "(I)I"⟩
abbrev cX3_bring : ByteArray := prog_5_method_12_code
def yX3_bring : MethodName := ⟨RX3, "bring", "(II)I"⟩
abbrev cX3_takeBack : ByteArray := prog_5_method_13_code
def yX3_takeBack : MethodName := ⟨RX3, "takeBack", "(I)I"⟩
def RX4 : String := "ParcelDepot$Estimate"
def TX4 : u_T := fun k => match k with
  | 0 => ("ParcelDepot$Estimate", "usesOfGrades", "[I", true)
  | _ => ("ParcelDepot$Estimate", "mostOfWeight", "[I", true)
def tyX4 : Nat → FieldType := fun k => match k with
  | 0 => .array .int
  | _ => .array .int
abbrev wsX40 : List Cond := u_ws RX4 TX4 2
theorem nmX4 : ∀ a, a < 2 → ∀ b, b < 2 → a ≠ b → (TX4 a).2.1 ≠ (TX4 b).2.1 := by decide +kernel
theorem tyX4_ok : ∀ k, k < 2 → parseFieldDescriptor (TX4 k).2.2.1 = some (tyX4 k) := by decide +kernel
abbrev cX4_init : ByteArray := prog_6_method_1_code
def yX4_init : MethodName := ⟨RX4, "<init>", "()V"⟩
abbrev cX4_handledGreedily : ByteArray := prog_6_method_2_code
def yX4_handledGreedily : MethodName := ⟨RX4, "handledGreedily", "(LParcelDepot$DepotState;)I"⟩
abbrev cX4_handledOf : ByteArray := prog_6_method_3_code
def yX4_handledOf : MethodName := ⟨RX4, "handledOf", "(II)I"⟩
abbrev cX4_handledByShortage : ByteArray := prog_6_method_4_code
def yX4_handledByShortage : MethodName := ⟨RX4, "handledByShortage", "(LParcelDepot$DepotState;)I"⟩
abbrev cX4_fittingGreedily : ByteArray := prog_6_method_5_code
def yX4_fittingGreedily : MethodName := ⟨RX4, "fittingGreedily", "(LParcelDepot$DepotState;I)I"⟩
abbrev cX4_fittingByTable : ByteArray := prog_6_method_6_code
def yX4_fittingByTable : MethodName := ⟨RX4, "fittingByTable", "(LParcelDepot$DepotState;I)I"⟩
abbrev cX4_enter : ByteArray := prog_6_method_7_code
def yX4_enter : MethodName := ⟨RX4, "enter", "(II)V"⟩
def RX5 : String := "ParcelDepot$Form"
def TX5 : u_T := fun k => match k with
  | _ => ("", "", "", false)
def tyX5 : Nat → FieldType := fun k => match k with
  | _ => .int
abbrev wsX50 : List Cond := u_ws RX5 TX5 0
theorem nmX5 : ∀ a, a < 0 → ∀ b, b < 0 → a ≠ b → (TX5 a).2.1 ≠ (TX5 b).2.1 := by decide +kernel
theorem tyX5_ok : ∀ k, k < 0 → parseFieldDescriptor (TX5 k).2.2.1 = some (tyX5 k) := by decide +kernel
def RX6 : String := "ParcelDepot$Gloves"
def TX6 : u_T := fun k => match k with
  | 0 => ("ParcelDepot$Gloves", "grades", "[I", true)
  | 1 => ("ParcelDepot$Gloves", "uses", "[I", true)
  | 2 => ("ParcelDepot$Gloves", "count", "I", false)
  | _ => ("ParcelDepot$Gloves", "gone", "I", false)
def tyX6 : Nat → FieldType := fun k => match k with
  | 0 => .array .int
  | 1 => .array .int
  | 2 => .int
  | _ => .int
abbrev wsX60 : List Cond := u_ws RX6 TX6 4
theorem nmX6 : ∀ a, a < 4 → ∀ b, b < 4 → a ≠ b → (TX6 a).2.1 ≠ (TX6 b).2.1 := by decide +kernel
theorem tyX6_ok : ∀ k, k < 4 → parseFieldDescriptor (TX6 k).2.2.1 = some (tyX6 k) := by decide +kernel
abbrev cX6_init : ByteArray := prog_8_method_1_code
def yX6_init : MethodName := ⟨RX6, "<init>", "()V"⟩
abbrev cX6_copyFrom : ByteArray := prog_8_method_2_code
def yX6_copyFrom : MethodName := ⟨RX6, "copyFrom", "(LParcelDepot$Gloves;)V"⟩
abbrev cX6_size : ByteArray := prog_8_method_3_code
def yX6_size : MethodName := ⟨RX6, "size", "()I"⟩
abbrev cX6_isFull : ByteArray := prog_8_method_4_code
def yX6_isFull : MethodName := ⟨RX6, "isFull", "()Z"⟩
abbrev cX6_goneCount : ByteArray := prog_8_method_5_code
def yX6_goneCount : MethodName := ⟨RX6, "goneCount", "()I"⟩
abbrev cX6_add : ByteArray := prog_8_method_6_code
def yX6_add : MethodName := ⟨RX6, "add", "(I)I"⟩
abbrev cX6_gradeOf : ByteArray := prog_8_method_7_code
def yX6_gradeOf : MethodName := ⟨RX6, "gradeOf", "(I)I"⟩
abbrev cX6_usesLeftOf : ByteArray := prog_8_method_8_code
def yX6_usesLeftOf : MethodName := ⟨RX6, "usesLeftOf", "(I)I"⟩
abbrev cX6_bestAgainst : ByteArray := prog_8_method_9_code
def yX6_bestAgainst : MethodName := ⟨RX6, "bestAgainst", "(I)I"⟩
abbrev cX6_isPreferred : ByteArray := prog_8_method_10_code
def yX6_isPreferred : MethodName := ⟨RX6, "isPreferred", "(II)Z"⟩
abbrev cX6_useAgainst : ByteArray := prog_8_method_11_code
def yX6_useAgainst : MethodName := ⟨RX6, "useAgainst", "(I)V"⟩
abbrev cX6_remove : ByteArray := prog_8_method_12_code
def yX6_remove : MethodName := ⟨RX6, "remove", "(I)V"⟩
abbrev cX6_usesOfGrade : ByteArray := prog_8_method_13_code
def yX6_usesOfGrade : MethodName := ⟨RX6, "usesOfGrade", "(I)I"⟩
def RX7 : String := "ParcelDepot$History"
def TX7 : u_T := fun k => match k with
  | 0 => ("ParcelDepot$History", "ring", "[LParcelDepot$DepotState;", true)
  | 1 => ("ParcelDepot$History", "next", "I", false)
  | _ => ("ParcelDepot$History", "count", "I", false)
def tyX7 : Nat → FieldType := fun k => match k with
  | 0 => .array (.object "ParcelDepot$DepotState")
  | 1 => .int
  | _ => .int
abbrev wsX70 : List Cond := u_ws RX7 TX7 3
theorem nmX7 : ∀ a, a < 3 → ∀ b, b < 3 → a ≠ b → (TX7 a).2.1 ≠ (TX7 b).2.1 := by decide +kernel
theorem tyX7_ok : ∀ k, k < 3 → parseFieldDescriptor (TX7 k).2.2.1 = some (tyX7 k) := by decide +kernel
abbrev cX7_init : ByteArray := prog_9_method_1_code
def yX7_init : MethodName := ⟨RX7, "<init>", "()V"⟩
abbrev cX7_size : ByteArray := prog_9_method_2_code
def yX7_size : MethodName := ⟨RX7, "size", "()I"⟩
abbrev cX7_prepare : ByteArray := prog_9_method_3_code
def yX7_prepare : MethodName := ⟨RX7, "prepare", "(LParcelDepot$DepotState;)V"⟩
abbrev cX7_keep : ByteArray := prog_9_method_4_code
def yX7_keep : MethodName := ⟨RX7, "keep", "()V"⟩
abbrev cX7_putBack : ByteArray := prog_9_method_5_code
def yX7_putBack : MethodName := ⟨RX7, "putBack", "(LParcelDepot$DepotState;)V"⟩
abbrev cX7_goBack : ByteArray := prog_9_method_6_code
def yX7_goBack : MethodName := ⟨RX7, "goBack", "(LParcelDepot$DepotState;)I"⟩
abbrev cX7_forget : ByteArray := prog_9_method_7_code
def yX7_forget : MethodName := ⟨RX7, "forget", "()V"⟩
def RX8 : String := "ParcelDepot$Parcels"
def TX8 : u_T := fun k => match k with
  | 0 => ("ParcelDepot$Parcels", "weights", "[I", true)
  | 1 => ("ParcelDepot$Parcels", "hazards", "[I", true)
  | 2 => ("ParcelDepot$Parcels", "destinations", "[I", true)
  | 3 => ("ParcelDepot$Parcels", "whereabouts", "[I", true)
  | 4 => ("ParcelDepot$Parcels", "returnCounts", "[I", true)
  | _ => ("ParcelDepot$Parcels", "count", "I", false)
def tyX8 : Nat → FieldType := fun k => match k with
  | 0 => .array .int
  | 1 => .array .int
  | 2 => .array .int
  | 3 => .array .int
  | 4 => .array .int
  | _ => .int
abbrev wsX80 : List Cond := u_ws RX8 TX8 6
theorem nmX8 : ∀ a, a < 6 → ∀ b, b < 6 → a ≠ b → (TX8 a).2.1 ≠ (TX8 b).2.1 := by decide +kernel
theorem tyX8_ok : ∀ k, k < 6 → parseFieldDescriptor (TX8 k).2.2.1 = some (tyX8 k) := by decide +kernel
abbrev cX8_init : ByteArray := prog_10_method_1_code
def yX8_init : MethodName := ⟨RX8, "<init>", "()V"⟩
abbrev cX8_copyFrom : ByteArray := prog_10_method_2_code
def yX8_copyFrom : MethodName := ⟨RX8, "copyFrom", "(LParcelDepot$Parcels;)V"⟩
abbrev cX8_size : ByteArray := prog_10_method_3_code
def yX8_size : MethodName := ⟨RX8, "size", "()I"⟩
abbrev cX8_isFull : ByteArray := prog_10_method_4_code
def yX8_isFull : MethodName := ⟨RX8, "isFull", "()Z"⟩
abbrev cX8_add : ByteArray := prog_10_method_5_code
def yX8_add : MethodName := ⟨RX8, "add", "(III)I"⟩
abbrev cX8_weightOf : ByteArray := prog_10_method_6_code
def yX8_weightOf : MethodName := ⟨RX8, "weightOf", "(I)I"⟩
abbrev cX8_hazardOf : ByteArray := prog_10_method_7_code
def yX8_hazardOf : MethodName := ⟨RX8, "hazardOf", "(I)I"⟩
abbrev cX8_destinationOf : ByteArray := prog_10_method_8_code
def yX8_destinationOf : MethodName := ⟨RX8, "destinationOf", "(I)I"⟩
abbrev cX8_whereIs : ByteArray := prog_10_method_9_code
def yX8_whereIs : MethodName := ⟨RX8, "whereIs", "(I)I"⟩
abbrev cX8_returnsOf : ByteArray := prog_10_method_10_code
def yX8_returnsOf : MethodName := ⟨RX8, "returnsOf", "(I)I"⟩
abbrev cX8_stateOf : ByteArray := prog_10_method_11_code
def yX8_stateOf : MethodName := ⟨RX8, "stateOf", "(I)C"⟩
abbrev cX8_move : ByteArray := prog_10_method_12_code
def yX8_move : MethodName := ⟨RX8, "move", "(II)V"⟩
abbrev cX8_returnToDepot : ByteArray := prog_10_method_13_code
def yX8_returnToDepot : MethodName := ⟨RX8, "returnToDepot", "(I)I"⟩
abbrev cX8_deliverFrom : ByteArray := prog_10_method_14_code
def yX8_deliverFrom : MethodName := ⟨RX8, "deliverFrom", "(II)I"⟩
abbrev cX8_countAt : ByteArray := prog_10_method_15_code
def yX8_countAt : MethodName := ⟨RX8, "countAt", "(I)I"⟩
abbrev cX8_weightAt : ByteArray := prog_10_method_16_code
def yX8_weightAt : MethodName := ⟨RX8, "weightAt", "(I)I"⟩
abbrev cX8_waitingOfHazard : ByteArray := prog_10_method_17_code
def yX8_waitingOfHazard : MethodName := ⟨RX8, "waitingOfHazard", "(I)I"⟩
abbrev cX8_waitingOfWeight : ByteArray := prog_10_method_18_code
def yX8_waitingOfWeight : MethodName := ⟨RX8, "waitingOfWeight", "(I)I"⟩
abbrev cX8_sumOfHazards : ByteArray := prog_10_method_19_code
def yX8_sumOfHazards : MethodName := ⟨RX8, "sumOfHazards", "()I"⟩
abbrev cX8_atRank : ByteArray := prog_10_method_20_code
def yX8_atRank : MethodName := ⟨RX8, "atRank", "(I)I"⟩
abbrev cX8_rankOf : ByteArray := prog_10_method_21_code
def yX8_rankOf : MethodName := ⟨RX8, "rankOf", "(I)I"⟩
abbrev cX8_comesBefore : ByteArray := prog_10_method_22_code
def yX8_comesBefore : MethodName := ⟨RX8, "comesBefore", "(II)Z"⟩
def RX9 : String := "ParcelDepot$Roads"
def TX9 : u_T := fun k => match k with
  | 0 => ("ParcelDepot$Roads", "lengths", "[I", true)
  | 1 => ("ParcelDepot$Roads", "reached", "[I", true)
  | 2 => ("ParcelDepot$Roads", "settled", "[Z", true)
  | 3 => ("ParcelDepot$Roads", "rounds", "[I", true)
  | _ => ("ParcelDepot$Roads", "count", "I", false)
def tyX9 : Nat → FieldType := fun k => match k with
  | 0 => .array .int
  | 1 => .array .int
  | 2 => .array .boolean
  | 3 => .array .int
  | _ => .int
abbrev wsX90 : List Cond := u_ws RX9 TX9 5
theorem nmX9 : ∀ a, a < 5 → ∀ b, b < 5 → a ≠ b → (TX9 a).2.1 ≠ (TX9 b).2.1 := by decide +kernel
theorem tyX9_ok : ∀ k, k < 5 → parseFieldDescriptor (TX9 k).2.2.1 = some (tyX9 k) := by decide +kernel
abbrev cX9_init : ByteArray := prog_11_method_1_code
def yX9_init : MethodName := ⟨RX9, "<init>", "()V"⟩
abbrev cX9_copyFrom : ByteArray := prog_11_method_2_code
def yX9_copyFrom : MethodName := ⟨RX9, "copyFrom", "(LParcelDepot$Roads;)V"⟩
abbrev cX9_size : ByteArray := prog_11_method_3_code
def yX9_size : MethodName := ⟨RX9, "size", "()I"⟩
abbrev cX9_joins : ByteArray := prog_11_method_4_code
def yX9_joins : MethodName := ⟨RX9, "joins", "(II)Z"⟩
abbrev cX9_lengthBetween : ByteArray := prog_11_method_5_code
def yX9_lengthBetween : MethodName := ⟨RX9, "lengthBetween", "(II)I"⟩
abbrev cX9_join : ByteArray := prog_11_method_6_code
def yX9_join : MethodName := ⟨RX9, "join", "(III)I"⟩
abbrev cX9_shortest : ByteArray := prog_11_method_7_code
def yX9_shortest : MethodName := ⟨RX9, "shortest", "(II)I"⟩
abbrev cX9_farthestFrom : ByteArray := prog_11_method_8_code
def yX9_farthestFrom : MethodName := ⟨RX9, "farthestFrom", "(I)I"⟩
abbrev cX9_measureFrom : ByteArray := prog_11_method_9_code
def yX9_measureFrom : MethodName := ⟨RX9, "measureFrom", "(I)V"⟩
abbrev cX9_nearestOpen : ByteArray := prog_11_method_10_code
def yX9_nearestOpen : MethodName := ⟨RX9, "nearestOpen", "()I"⟩
abbrev cX9_goOnFrom : ByteArray := prog_11_method_11_code
def yX9_goOnFrom : MethodName := ⟨RX9, "goOnFrom", "(I)V"⟩
abbrev cX9_measureByRounds : ByteArray := prog_11_method_12_code
def yX9_measureByRounds : MethodName := ⟨RX9, "measureByRounds", "()V"⟩
abbrev cX9_shortenBy : ByteArray := prog_11_method_13_code
def yX9_shortenBy : MethodName := ⟨RX9, "shortenBy", "(III)V"⟩
abbrev cX9_measuredByRounds : ByteArray := prog_11_method_14_code
def yX9_measuredByRounds : MethodName := ⟨RX9, "measuredByRounds", "(II)I"⟩
abbrev cX9_bothDistancesAgree : ByteArray := prog_11_method_15_code
def yX9_bothDistancesAgree : MethodName := ⟨RX9, "bothDistancesAgree", "()Z"⟩
def RX10 : String := "ParcelDepot$SackText"
def TX10 : u_T := fun k => match k with
  | 0 => ("ParcelDepot$SackText", "text", "[C", true)
  | _ => ("ParcelDepot$SackText", "length", "I", false)
def tyX10 : Nat → FieldType := fun k => match k with
  | 0 => .array .char
  | _ => .int
abbrev wsX100 : List Cond := u_ws RX10 TX10 2
theorem nmX10 : ∀ a, a < 2 → ∀ b, b < 2 → a ≠ b → (TX10 a).2.1 ≠ (TX10 b).2.1 := by decide +kernel
theorem tyX10_ok : ∀ k, k < 2 → parseFieldDescriptor (TX10 k).2.2.1 = some (tyX10 k) := by decide +kernel
abbrev cX10_init : ByteArray := prog_12_method_1_code
def yX10_init : MethodName := ⟨RX10, "<init>", "()V"⟩
abbrev cX10_size : ByteArray := prog_12_method_2_code
def yX10_size : MethodName := ⟨RX10, "size", "()I"⟩
abbrev cX10_at : ByteArray := prog_12_method_3_code
def yX10_at : MethodName := ⟨RX10, "at", "(I)C"⟩
abbrev cX10_describe : ByteArray := prog_12_method_4_code
def yX10_describe : MethodName := ⟨RX10, "describe", "(LParcelDepot$DepotState;I)I"⟩
abbrev cX10_addParcel : ByteArray := prog_12_method_5_code
def yX10_addParcel : MethodName := ⟨RX10, "addParcel", "(LParcelDepot$Parcels;I)V"⟩
abbrev cX10_addNumber : ByteArray := prog_12_method_6_code
def yX10_addNumber : MethodName := ⟨RX10, "addNumber", "(I)V"⟩
abbrev cX10_add : ByteArray := prog_12_method_7_code
def yX10_add : MethodName := ⟨RX10, "add", "(C)V"⟩
def RX11 : String := "ParcelDepot$Sacks"
def TX11 : u_T := fun k => match k with
  | 0 => ("ParcelDepot$Sacks", "places", "[I", true)
  | 1 => ("ParcelDepot$Sacks", "capacities", "[I", true)
  | _ => ("ParcelDepot$Sacks", "effort", "I", false)
def tyX11 : Nat → FieldType := fun k => match k with
  | 0 => .array .int
  | 1 => .array .int
  | _ => .int
abbrev wsX110 : List Cond := u_ws RX11 TX11 3
theorem nmX11 : ∀ a, a < 3 → ∀ b, b < 3 → a ≠ b → (TX11 a).2.1 ≠ (TX11 b).2.1 := by decide +kernel
theorem tyX11_ok : ∀ k, k < 3 → parseFieldDescriptor (TX11 k).2.2.1 = some (tyX11 k) := by decide +kernel
abbrev cX11_init : ByteArray := prog_13_method_1_code
def yX11_init : MethodName := ⟨RX11, "<init>", "()V"⟩
abbrev cX11_copyFrom : ByteArray := prog_13_method_2_code
def yX11_copyFrom : MethodName := ⟨RX11, "copyFrom", "(LParcelDepot$Sacks;)V"⟩
abbrev cX11_placeOf : ByteArray := prog_13_method_3_code
def yX11_placeOf : MethodName := ⟨RX11, "placeOf", "(I)I"⟩
abbrev cX11_capacityOf : ByteArray := prog_13_method_4_code
def yX11_capacityOf : MethodName := ⟨RX11, "capacityOf", "(I)I"⟩
abbrev cX11_effortOfAll : ByteArray := prog_13_method_5_code
def yX11_effortOfAll : MethodName := ⟨RX11, "effortOfAll", "()I"⟩
abbrev cX11_resize : ByteArray := prog_13_method_6_code
def yX11_resize : MethodName := ⟨RX11, "resize", "(II)I"⟩
abbrev cX11_move : ByteArray := prog_13_method_7_code
def yX11_move : MethodName := ⟨RX11, "move", "(III)V"⟩
def RX12 : String := "ParcelDepot"
def TX12 : u_T := fun k => match k with
  | 0 => ("ParcelDepot", "now", "LParcelDepot$DepotState;", true)
  | 1 => ("ParcelDepot", "saved", "LParcelDepot$DepotState;", true)
  | 2 => ("ParcelDepot", "history", "LParcelDepot$History;", true)
  | 3 => ("ParcelDepot", "estimate", "LParcelDepot$Estimate;", true)
  | 4 => ("ParcelDepot", "input", "LParcelDepot$CommandText;", true)
  | 5 => ("ParcelDepot", "output", "LParcelDepot$SackText;", true)
  | 6 => ("ParcelDepot", "hasSaved", "Z", false)
  | 7 => ("ParcelDepot", "errorAt", "I", false)
  | _ => ("ParcelDepot", "failedAt", "I", false)
def tyX12 : Nat → FieldType := fun k => match k with
  | 0 => .object "ParcelDepot$DepotState"
  | 1 => .object "ParcelDepot$DepotState"
  | 2 => .object "ParcelDepot$History"
  | 3 => .object "ParcelDepot$Estimate"
  | 4 => .object "ParcelDepot$CommandText"
  | 5 => .object "ParcelDepot$SackText"
  | 6 => .boolean
  | 7 => .int
  | _ => .int
abbrev wsX120 : List Cond := u_ws RX12 TX12 9
theorem nmX12 : ∀ a, a < 9 → ∀ b, b < 9 → a ≠ b → (TX12 a).2.1 ≠ (TX12 b).2.1 := by decide +kernel
theorem tyX12_ok : ∀ k, k < 9 → parseFieldDescriptor (TX12 k).2.2.1 = some (tyX12 k) := by decide +kernel
abbrev cX12_init : ByteArray := prog_1_method_1_code
def yX12_init : MethodName := ⟨RX12, "<init>", "()V"⟩
abbrev cX12_buildRoad : ByteArray := prog_1_method_2_code
def yX12_buildRoad : MethodName := ⟨RX12, "buildRoad", "(III)I"⟩
abbrev cX12_acceptParcel : ByteArray := prog_1_method_3_code
def yX12_acceptParcel : MethodName := ⟨RX12, "acceptParcel", "(III)I"⟩
abbrev cX12_buyGlove : ByteArray := prog_1_method_4_code
def yX12_buyGlove : MethodName := ⟨RX12, "buyGlove", "(I)I"⟩
abbrev cX12_setCapacity : ByteArray := prog_1_method_5_code
def yX12_setCapacity : MethodName := ⟨RX12, "setCapacity", "(II)I"⟩
abbrev cX12_put : ByteArray := prog_1_method_6_code
def yX12_put : MethodName := ⟨RX12, "put", "(II)I"⟩
abbrev cX12_takeOut : ByteArray := prog_1_method_7_code
def yX12_takeOut : MethodName := ⟨RX12, "takeOut", "(I)I"⟩
abbrev cX12_carry : ByteArray := prog_1_method_8_code
def yX12_carry : MethodName := ⟨RX12, "carry", "(II)I"⟩
abbrev cX12_comeBack : ByteArray := prog_1_method_9_code
def yX12_comeBack : MethodName := ⟨RX12, "comeBack", "(I)I"⟩
abbrev cX12_roadCount : ByteArray := prog_1_method_10_code
def yX12_roadCount : MethodName := ⟨RX12, "roadCount", "()I"⟩
abbrev cX12_roadLength : ByteArray := prog_1_method_11_code
def yX12_roadLength : MethodName := ⟨RX12, "roadLength", "(II)I"⟩
abbrev cX12_distance : ByteArray := prog_1_method_12_code
def yX12_distance : MethodName := ⟨RX12, "distance", "(II)I"⟩
abbrev cX12_distanceByRounds : ByteArray := prog_1_method_13_code
def yX12_distanceByRounds : MethodName := ⟨RX12, "distanceByRounds", "(II)I"⟩
abbrev cX12_farthestPlace : ByteArray := prog_1_method_14_code
def yX12_farthestPlace : MethodName := ⟨RX12, "farthestPlace", "(I)I"⟩
abbrev cX12_parcelCount : ByteArray := prog_1_method_15_code
def yX12_parcelCount : MethodName := ⟨RX12, "parcelCount", "()I"⟩
abbrev cX12_weight : ByteArray := prog_1_method_16_code
def yX12_weight : MethodName := ⟨RX12, "weight", "(I)I"⟩
abbrev cX12_hazard : ByteArray := prog_1_method_17_code
def yX12_hazard : MethodName := ⟨RX12, "hazard", "(I)I"⟩
abbrev cX12_destination : ByteArray := prog_1_method_18_code
def yX12_destination : MethodName := ⟨RX12, "destination", "(I)I"⟩
abbrev cX12_state : ByteArray := prog_1_method_19_code
def yX12_state : MethodName := ⟨RX12, "state", "(I)C"⟩
abbrev cX12_sackOf : ByteArray := prog_1_method_20_code
def yX12_sackOf : MethodName := ⟨RX12, "sackOf", "(I)I"⟩
abbrev cX12_returns : ByteArray := prog_1_method_21_code
def yX12_returns : MethodName := ⟨RX12, "returns", "(I)I"⟩
abbrev cX12_waitingCount : ByteArray := prog_1_method_22_code
def yX12_waitingCount : MethodName := ⟨RX12, "waitingCount", "()I"⟩
abbrev cX12_deliveredCount : ByteArray := prog_1_method_23_code
def yX12_deliveredCount : MethodName := ⟨RX12, "deliveredCount", "()I"⟩
abbrev cX12_gloveCount : ByteArray := prog_1_method_24_code
def yX12_gloveCount : MethodName := ⟨RX12, "gloveCount", "()I"⟩
abbrev cX12_grade : ByteArray := prog_1_method_25_code
def yX12_grade : MethodName := ⟨RX12, "grade", "(I)I"⟩
abbrev cX12_usesLeft : ByteArray := prog_1_method_26_code
def yX12_usesLeft : MethodName := ⟨RX12, "usesLeft", "(I)I"⟩
abbrev cX12_gloveFor : ByteArray := prog_1_method_27_code
def yX12_gloveFor : MethodName := ⟨RX12, "gloveFor", "(I)I"⟩
abbrev cX12_canHandle : ByteArray := prog_1_method_28_code
def yX12_canHandle : MethodName := ⟨RX12, "canHandle", "(I)Z"⟩
abbrev cX12_handleable : ByteArray := prog_1_method_29_code
def yX12_handleable : MethodName := ⟨RX12, "handleable", "()I"⟩
abbrev cX12_handleableByShortage : ByteArray := prog_1_method_30_code
def yX12_handleableByShortage : MethodName := ⟨RX12, "handleableByShortage", "()I"⟩
abbrev cX12_place : ByteArray := prog_1_method_31_code
def yX12_place : MethodName := ⟨RX12, "place", "(I)I"⟩
abbrev cX12_capacity : ByteArray := prog_1_method_32_code
def yX12_capacity : MethodName := ⟨RX12, "capacity", "(I)I"⟩
abbrev cX12_load : ByteArray := prog_1_method_33_code
def yX12_load : MethodName := ⟨RX12, "load", "(I)I"⟩
abbrev cX12_mostFitting : ByteArray := prog_1_method_35_code
def yX12_mostFitting : MethodName := ⟨RX12, "mostFitting", "(I)I"⟩
abbrev cX12_mostFittingByTable : ByteArray := prog_1_method_36_code
def yX12_mostFittingByTable : MethodName := ⟨RX12, "mostFittingByTable", "(I)I"⟩
abbrev cX12_effortTo : ByteArray := prog_1_method_37_code
def yX12_effortTo : MethodName := ⟨RX12, "effortTo", "(II)I"⟩
abbrev cX12_effortSoFar : ByteArray := prog_1_method_38_code
def yX12_effortSoFar : MethodName := ⟨RX12, "effortSoFar", "()I"⟩
abbrev cX12_glovesUsedUp : ByteArray := prog_1_method_39_code
def yX12_glovesUsedUp : MethodName := ⟨RX12, "glovesUsedUp", "()I"⟩
abbrev cX12_heaviest : ByteArray := prog_1_method_40_code
def yX12_heaviest : MethodName := ⟨RX12, "heaviest", "(I)I"⟩
abbrev cX12_meanHazard : ByteArray := prog_1_method_41_code
def yX12_meanHazard : MethodName := ⟨RX12, "meanHazard", "()D"⟩
abbrev cX12_deliveredShare : ByteArray := prog_1_method_42_code
def yX12_deliveredShare : MethodName := ⟨RX12, "deliveredShare", "()F"⟩
abbrev cX12_isConsistent : ByteArray := prog_1_method_43_code
def yX12_isConsistent : MethodName := ⟨RX12, "isConsistent", "()Z"⟩
abbrev cX12_feed : ByteArray := prog_1_method_44_code
def yX12_feed : MethodName := ⟨RX12, "feed", "(C)I"⟩
abbrev cX12_runCommands : ByteArray := prog_1_method_45_code
def yX12_runCommands : MethodName := ⟨RX12, "runCommands", "()I"⟩
abbrev cX12_errorPosition : ByteArray := prog_1_method_46_code
def yX12_errorPosition : MethodName := ⟨RX12, "errorPosition", "()I"⟩
abbrev cX12_failedCommand : ByteArray := prog_1_method_47_code
def yX12_failedCommand : MethodName := ⟨RX12, "failedCommand", "()I"⟩
abbrev cX12_writeSack : ByteArray := prog_1_method_48_code
def yX12_writeSack : MethodName := ⟨RX12, "writeSack", "(I)I"⟩
abbrev cX12_outputChar : ByteArray := prog_1_method_49_code
def yX12_outputChar : MethodName := ⟨RX12, "outputChar", "(I)C"⟩
abbrev cX12_undo : ByteArray := prog_1_method_51_code
def yX12_undo : MethodName := ⟨RX12, "undo", "()I"⟩
abbrev cX12_save : ByteArray := prog_1_method_52_code
def yX12_save : MethodName := ⟨RX12, "save", "()I"⟩
abbrev cX12_restore : ByteArray := prog_1_method_53_code
def yX12_restore : MethodName := ⟨RX12, "restore", "()I"⟩
abbrev cX12_isIndex : ByteArray := prog_1_method_54_code
def yX12_isIndex : MethodName := ⟨RX12, "isIndex", "(II)Z"⟩
abbrev cX12_isWithin : ByteArray := prog_1_method_55_code
def yX12_isWithin : MethodName := ⟨RX12, "isWithin", "(III)Z"⟩
abbrev cX12_accepted : ByteArray := prog_1_method_56_code
def yX12_accepted : MethodName := ⟨RX12, "accepted", "(I)I"⟩
abbrev cX12_present : ByteArray := prog_1_method_57_code
def yX12_present : MethodName := ⟨RX12, "present", "(I)I"⟩
abbrev cX12_recorded : ByteArray := prog_1_method_58_code
def yX12_recorded : MethodName := ⟨RX12, "recorded", "(I)I"⟩
abbrev cX12_requireIndex : ByteArray := prog_1_method_59_code
def yX12_requireIndex : MethodName := ⟨RX12, "requireIndex", "(II)V"⟩
abbrev cX12_requirePlaces : ByteArray := prog_1_method_60_code
def yX12_requirePlaces : MethodName := ⟨RX12, "requirePlaces", "(II)V"⟩
abbrev cX12_requireParcel : ByteArray := prog_1_method_61_code
def yX12_requireParcel : MethodName := ⟨RX12, "requireParcel", "(I)V"⟩
abbrev cX12_handlingAgrees : ByteArray := prog_1_method_62_code
def yX12_handlingAgrees : MethodName := ⟨RX12, "handlingAgrees", "()Z"⟩
abbrev cX12_sacksAgree : ByteArray := prog_1_method_63_code
def yX12_sacksAgree : MethodName := ⟨RX12, "sacksAgree", "()Z"⟩
abbrev cX12_carryOutCommands : ByteArray := prog_1_method_64_code
def yX12_carryOutCommands : MethodName := ⟨RX12, "carryOutCommands", "()I"⟩
abbrev cX12_carryOut : ByteArray := prog_1_method_65_code
def yX12_carryOut : MethodName := ⟨RX12, "carryOut", "(LParcelDepot$Command;)I"⟩
def RX13 : String := "ParcelDepotModel"
def TX13 : u_T := fun k => match k with
  | _ => ("", "", "", false)
def tyX13 : Nat → FieldType := fun k => match k with
  | _ => .int
abbrev wsX130 : List Cond := u_ws RX13 TX13 0
theorem nmX13 : ∀ a, a < 0 → ∀ b, b < 0 → a ≠ b → (TX13 a).2.1 ≠ (TX13 b).2.1 := by decide +kernel
theorem tyX13_ok : ∀ k, k < 0 → parseFieldDescriptor (TX13 k).2.2.1 = some (tyX13 k) := by decide +kernel
def RJx145de : String := "java/io/Serializable"
def TJx145de : u_T := fun k => match k with
  | _ => ("", "", "", false)
def tyJx145de : Nat → FieldType := fun k => match k with
  | _ => .int
abbrev wsJx145de0 : List Cond := u_ws RJx145de TJx145de 0
theorem nmJx145de : ∀ a, a < 0 → ∀ b, b < 0 → a ≠ b → (TJx145de a).2.1 ≠ (TJx145de b).2.1 := by decide +kernel
theorem tyJx145de_ok : ∀ k, k < 0 → parseFieldDescriptor (TJx145de k).2.2.1 = some (tyJx145de k) := by decide +kernel
def RJ5 : String := "java/lang/AbstractStringBuilder"
def TJ5 : u_T := fun k => match k with
  | _ => ("", "", "", false)
def tyJ5 : Nat → FieldType := fun k => match k with
  | _ => .int
abbrev wsJ50 : List Cond := u_ws RJ5 TJ5 0
theorem nmJ5 : ∀ a, a < 0 → ∀ b, b < 0 → a ≠ b → (TJ5 a).2.1 ≠ (TJ5 b).2.1 := by decide +kernel
theorem tyJ5_ok : ∀ k, k < 0 → parseFieldDescriptor (TJ5 k).2.2.1 = some (tyJ5 k) := by decide +kernel
abbrev cJ5_init_d00df : ByteArray := prog_17_method_2_code
def yJ5_init_d00df : MethodName := ⟨RJ5, "<init>", "(I)V"⟩
abbrev cJ5_length_8abf5 : ByteArray := prog_17_method_6_code
def yJ5_length_8abf5 : MethodName := ⟨RJ5, "length", "()I"⟩
abbrev cJ5_ensureCapacityInternal_d00df : ByteArray := prog_17_method_9_code
def yJ5_ensureCapacityInternal_d00df : MethodName := ⟨RJ5, "ensureCapacityInternal", "(I)V"⟩
abbrev cJ5_newCapacity_0f7a4 : ByteArray := prog_17_method_10_code
def yJ5_newCapacity_0f7a4 : MethodName := ⟨RJ5, "newCapacity", "(I)I"⟩
abbrev cJ5_inflate_da8c8 : ByteArray := prog_17_method_11_code
def yJ5_inflate_da8c8 : MethodName := ⟨RJ5, "inflate", "()V"⟩
abbrev cJ5_append_cf1ce : ByteArray := prog_17_method_22_code
def yJ5_append_cf1ce : MethodName := ⟨RJ5, "append", "(Ljava/lang/String;)Ljava/lang/AbstractStringBuilder;"⟩
abbrev cJ5_appendNull_278bc : ByteArray := prog_17_method_26_code
def yJ5_appendNull_278bc : MethodName := ⟨RJ5, "appendNull", "()Ljava/lang/AbstractStringBuilder;"⟩
abbrev cJ5_append_c97b9 : ByteArray := prog_17_method_32_code
def yJ5_append_c97b9 : MethodName := ⟨RJ5, "append", "(I)Ljava/lang/AbstractStringBuilder;"⟩
abbrev cJ5_getValue_6d5f1 : ByteArray := prog_17_method_64_code
def yJ5_getValue_6d5f1 : MethodName := ⟨RJ5, "getValue", "()[B"⟩
abbrev cJ5_isLatin1_aae02 : ByteArray := prog_17_method_68_code
def yJ5_isLatin1_aae02 : MethodName := ⟨RJ5, "isLatin1", "()Z"⟩
abbrev cJ5_inflateIfNeededFor_a7421 : ByteArray := prog_17_method_71_code
def yJ5_inflateIfNeededFor_a7421 : MethodName := ⟨RJ5, "inflateIfNeededFor", "(Ljava/lang/String;)V"⟩
abbrev cJ5_putStringAt_47b60 : ByteArray := prog_17_method_73_code
def yJ5_putStringAt_47b60 : MethodName := ⟨RJ5, "putStringAt", "(ILjava/lang/String;)V"⟩
def RJx2cfe8 : String := "java/lang/Appendable"
def TJx2cfe8 : u_T := fun k => match k with
  | _ => ("", "", "", false)
def tyJx2cfe8 : Nat → FieldType := fun k => match k with
  | _ => .int
abbrev wsJx2cfe80 : List Cond := u_ws RJx2cfe8 TJx2cfe8 0
theorem nmJx2cfe8 : ∀ a, a < 0 → ∀ b, b < 0 → a ≠ b → (TJx2cfe8 a).2.1 ≠ (TJx2cfe8 b).2.1 := by decide +kernel
theorem tyJx2cfe8_ok : ∀ k, k < 0 → parseFieldDescriptor (TJx2cfe8 k).2.2.1 = some (tyJx2cfe8 k) := by decide +kernel
def RJx00060 : String := "java/lang/ArrayIndexOutOfBoundsException"
def TJx00060 : u_T := fun k => match k with
  | 0 => ("java/lang/Throwable", "backtrace", "Ljava/lang/Object;", false)
  | 1 => ("java/lang/Throwable", "detailMessage", "Ljava/lang/String;", false)
  | 2 => ("java/lang/Throwable", "cause", "Ljava/lang/Throwable;", false)
  | 3 => ("java/lang/Throwable", "stackTrace", "[Ljava/lang/StackTraceElement;", false)
  | 4 => ("java/lang/Throwable", "depth", "I", false)
  | _ => ("java/lang/Throwable", "suppressedExceptions", "Ljava/util/List;", false)
def tyJx00060 : Nat → FieldType := fun k => match k with
  | 0 => .object "java/lang/Object"
  | 1 => .object "java/lang/String"
  | 2 => .object "java/lang/Throwable"
  | 3 => .array (.object "java/lang/StackTraceElement")
  | 4 => .int
  | _ => .object "java/util/List"
abbrev wsJx000600 : List Cond := u_ws RJx00060 TJx00060 6
theorem nmJx00060 : ∀ a, a < 6 → ∀ b, b < 6 → a ≠ b → (TJx00060 a).2.1 ≠ (TJx00060 b).2.1 := by decide +kernel
theorem tyJx00060_ok : ∀ k, k < 6 → parseFieldDescriptor (TJx00060 k).2.2.1 = some (tyJx00060 k) := by decide +kernel
abbrev cJx00060_init_a7421 : ByteArray := prog_20_method_2_code
def yJx00060_init_a7421 : MethodName := ⟨RJx00060, "<init>", "(Ljava/lang/String;)V"⟩
def RJx9f9b0 : String := "java/lang/CharSequence"
def TJx9f9b0 : u_T := fun k => match k with
  | _ => ("", "", "", false)
def tyJx9f9b0 : Nat → FieldType := fun k => match k with
  | _ => .int
abbrev wsJx9f9b00 : List Cond := u_ws RJx9f9b0 TJx9f9b0 0
theorem nmJx9f9b0 : ∀ a, a < 0 → ∀ b, b < 0 → a ≠ b → (TJx9f9b0 a).2.1 ≠ (TJx9f9b0 b).2.1 := by decide +kernel
theorem tyJx9f9b0_ok : ∀ k, k < 0 → parseFieldDescriptor (TJx9f9b0 k).2.2.1 = some (tyJx9f9b0 k) := by decide +kernel
def RJx8e188 : String := "java/lang/Cloneable"
def TJx8e188 : u_T := fun k => match k with
  | _ => ("", "", "", false)
def tyJx8e188 : Nat → FieldType := fun k => match k with
  | _ => .int
abbrev wsJx8e1880 : List Cond := u_ws RJx8e188 TJx8e188 0
theorem nmJx8e188 : ∀ a, a < 0 → ∀ b, b < 0 → a ≠ b → (TJx8e188 a).2.1 ≠ (TJx8e188 b).2.1 := by decide +kernel
theorem tyJx8e188_ok : ∀ k, k < 0 → parseFieldDescriptor (TJx8e188 k).2.2.1 = some (tyJx8e188 k) := by decide +kernel
def RJxb160c : String := "java/lang/Comparable"
def TJxb160c : u_T := fun k => match k with
  | _ => ("", "", "", false)
def tyJxb160c : Nat → FieldType := fun k => match k with
  | _ => .int
abbrev wsJxb160c0 : List Cond := u_ws RJxb160c TJxb160c 0
theorem nmJxb160c : ∀ a, a < 0 → ∀ b, b < 0 → a ≠ b → (TJxb160c a).2.1 ≠ (TJxb160c b).2.1 := by decide +kernel
theorem tyJxb160c_ok : ∀ k, k < 0 → parseFieldDescriptor (TJxb160c k).2.2.1 = some (tyJxb160c k) := by decide +kernel
def RJx29ce0 : String := "java/lang/Enum"
def TJx29ce0 : u_T := fun k => match k with
  | _ => ("", "", "", false)
def tyJx29ce0 : Nat → FieldType := fun k => match k with
  | _ => .int
abbrev wsJx29ce00 : List Cond := u_ws RJx29ce0 TJx29ce0 0
theorem nmJx29ce0 : ∀ a, a < 0 → ∀ b, b < 0 → a ≠ b → (TJx29ce0 a).2.1 ≠ (TJx29ce0 b).2.1 := by decide +kernel
theorem tyJx29ce0_ok : ∀ k, k < 0 → parseFieldDescriptor (TJx29ce0 k).2.2.1 = some (tyJx29ce0 k) := by decide +kernel
abbrev cJx29ce0_ordinal_8abf5 : ByteArray := prog_24_method_2_code
def yJx29ce0_ordinal_8abf5 : MethodName := ⟨RJx29ce0, "ordinal", "()I"⟩
def RJ6 : String := "java/lang/Integer"
def TJ6 : u_T := fun k => match k with
  | _ => ("", "", "", false)
def tyJ6 : Nat → FieldType := fun k => match k with
  | _ => .int
abbrev wsJ60 : List Cond := u_ws RJ6 TJ6 0
theorem nmJ6 : ∀ a, a < 0 → ∀ b, b < 0 → a ≠ b → (TJ6 a).2.1 ≠ (TJ6 b).2.1 := by decide +kernel
theorem tyJ6_ok : ∀ k, k < 0 → parseFieldDescriptor (TJ6 k).2.2.1 = some (tyJ6 k) := by decide +kernel
abbrev cJ6_getChars_ba4f3 : ByteArray := prog_29_method_12_code
def yJ6_getChars_ba4f3 : MethodName := ⟨RJ6, "getChars", "(II[B)I"⟩
abbrev cJ6_stringSize_0f7a4 : ByteArray := prog_29_method_13_code
def yJ6_stringSize_0f7a4 : MethodName := ⟨RJ6, "stringSize", "(I)I"⟩
def RJ9 : String := "java/lang/Math"
def TJ9 : u_T := fun k => match k with
  | _ => ("", "", "", false)
def tyJ9 : Nat → FieldType := fun k => match k with
  | _ => .int
abbrev wsJ90 : List Cond := u_ws RJ9 TJ9 0
theorem nmJ9 : ∀ a, a < 0 → ∀ b, b < 0 → a ≠ b → (TJ9 a).2.1 ≠ (TJ9 b).2.1 := by decide +kernel
theorem tyJ9_ok : ∀ k, k < 0 → parseFieldDescriptor (TJ9 k).2.2.1 = some (tyJ9 k) := by decide +kernel
abbrev cJ9_max_7cf53 : ByteArray := prog_30_method_65_code
def yJ9_max_7cf53 : MethodName := ⟨RJ9, "max", "(II)I"⟩
abbrev cJ9_min_7cf53 : ByteArray := prog_30_method_69_code
def yJ9_min_7cf53 : MethodName := ⟨RJ9, "min", "(II)I"⟩
def RJxd2413 : String := "java/lang/Number"
def TJxd2413 : u_T := fun k => match k with
  | _ => ("", "", "", false)
def tyJxd2413 : Nat → FieldType := fun k => match k with
  | _ => .int
abbrev wsJxd24130 : List Cond := u_ws RJxd2413 TJxd2413 0
theorem nmJxd2413 : ∀ a, a < 0 → ∀ b, b < 0 → a ≠ b → (TJxd2413 a).2.1 ≠ (TJxd2413 b).2.1 := by decide +kernel
theorem tyJxd2413_ok : ∀ k, k < 0 → parseFieldDescriptor (TJxd2413 k).2.2.1 = some (tyJxd2413 k) := by decide +kernel
def RJ0 : String := "java/lang/String"
def TJ0 : u_T := fun k => match k with
  | 0 => ("java/lang/String", "value", "[B", true)
  | 1 => ("java/lang/String", "coder", "B", true)
  | 2 => ("java/lang/String", "hash", "I", false)
  | _ => ("java/lang/String", "hashIsZero", "Z", false)
def tyJ0 : Nat → FieldType := fun k => match k with
  | 0 => .array .byte
  | 1 => .byte
  | 2 => .int
  | _ => .boolean
abbrev wsJ00 : List Cond := u_ws RJ0 TJ0 4
theorem nmJ0 : ∀ a, a < 4 → ∀ b, b < 4 → a ≠ b → (TJ0 a).2.1 ≠ (TJ0 b).2.1 := by decide +kernel
theorem tyJ0_ok : ∀ k, k < 4 → parseFieldDescriptor (TJ0 k).2.2.1 = some (tyJ0 k) := by decide +kernel
abbrev cJ0_init_81219 : ByteArray := prog_33_method_53_code
def yJ0_init_81219 : MethodName := ⟨RJ0, "<init>", "(Ljava/lang/StringBuilder;)V"⟩
abbrev cJ0_length_8abf5 : ByteArray := prog_33_method_54_code
def yJ0_length_8abf5 : MethodName := ⟨RJ0, "length", "()I"⟩
abbrev cJ0_charAt_5068e : ByteArray := prog_33_method_56_code
def yJ0_charAt_5068e : MethodName := ⟨RJ0, "charAt", "(I)C"⟩
abbrev cJ0_getBytes_840e7 : ByteArray := prog_33_method_147_code
def yJ0_getBytes_840e7 : MethodName := ⟨RJ0, "getBytes", "([BIB)V"⟩
abbrev cJ0_init_db425 : ByteArray := prog_33_method_150_code
def yJ0_init_db425 : MethodName := ⟨RJ0, "<init>", "(Ljava/lang/AbstractStringBuilder;Ljava/lang/Void;)V"⟩
abbrev cJ0_coder_7d493 : ByteArray := prog_33_method_152_code
def yJ0_coder_7d493 : MethodName := ⟨RJ0, "coder", "()B"⟩
abbrev cJ0_isLatin1_aae02 : ByteArray := prog_33_method_154_code
def yJ0_isLatin1_aae02 : MethodName := ⟨RJ0, "isLatin1", "()Z"⟩
abbrev cJ0_checkIndex_df160 : ByteArray := prog_33_method_155_code
def yJ0_checkIndex_df160 : MethodName := ⟨RJ0, "checkIndex", "(II)V"⟩
abbrev cJ0_checkBoundsOffCount_cabcc : ByteArray := prog_33_method_157_code
def yJ0_checkBoundsOffCount_cabcc : MethodName := ⟨RJ0, "checkBoundsOffCount", "(III)I"⟩
abbrev cJ0_checkBoundsBeginEnd_23922 : ByteArray := prog_33_method_158_code
def yJ0_checkBoundsBeginEnd_23922 : MethodName := ⟨RJ0, "checkBoundsBeginEnd", "(III)V"⟩
def RJ4 : String := "java/lang/StringBuilder"
def TJ4 : u_T := fun k => match k with
  | 0 => ("java/lang/AbstractStringBuilder", "value", "[B", false)
  | 1 => ("java/lang/AbstractStringBuilder", "coder", "B", false)
  | 2 => ("java/lang/AbstractStringBuilder", "maybeLatin1", "Z", false)
  | _ => ("java/lang/AbstractStringBuilder", "count", "I", false)
def tyJ4 : Nat → FieldType := fun k => match k with
  | 0 => .array .byte
  | 1 => .byte
  | 2 => .boolean
  | _ => .int
abbrev wsJ40 : List Cond := u_ws RJ4 TJ4 4
theorem nmJ4 : ∀ a, a < 4 → ∀ b, b < 4 → a ≠ b → (TJ4 a).2.1 ≠ (TJ4 b).2.1 := by decide +kernel
theorem tyJ4_ok : ∀ k, k < 4 → parseFieldDescriptor (TJ4 k).2.2.1 = some (tyJ4 k) := by decide +kernel
abbrev cJ4_init_da8c8 : ByteArray := prog_34_method_1_code
def yJ4_init_da8c8 : MethodName := ⟨RJ4, "<init>", "()V"⟩
abbrev cJ4_append_15ec4 : ByteArray := prog_34_method_7_code
def yJ4_append_15ec4 : MethodName := ⟨RJ4, "append", "(Ljava/lang/String;)Ljava/lang/StringBuilder;"⟩
abbrev cJ4_append_bf812 : ByteArray := prog_34_method_15_code
def yJ4_append_bf812 : MethodName := ⟨RJ4, "append", "(I)Ljava/lang/StringBuilder;"⟩
abbrev cJ4_toString_0e30d : ByteArray := prog_34_method_42_code
def yJ4_toString_0e30d : MethodName := ⟨RJ4, "toString", "()Ljava/lang/String;"⟩
abbrev cJ4_length_8abf5 : ByteArray := prog_34_method_93_code
def yJ4_length_8abf5 : MethodName := ⟨RJ4, "length", "()I"⟩
def RJ1 : String := "java/lang/StringLatin1"
def TJ1 : u_T := fun k => match k with
  | _ => ("", "", "", false)
def tyJ1 : Nat → FieldType := fun k => match k with
  | _ => .int
abbrev wsJ10 : List Cond := u_ws RJ1 TJ1 0
theorem nmJ1 : ∀ a, a < 0 → ∀ b, b < 0 → a ≠ b → (TJ1 a).2.1 ≠ (TJ1 b).2.1 := by decide +kernel
theorem tyJ1_ok : ∀ k, k < 0 → parseFieldDescriptor (TJ1 k).2.2.1 = some (tyJ1 k) := by decide +kernel
abbrev cJ1_charAt_3b067 : ByteArray := prog_35_method_2_code
def yJ1_charAt_3b067 : MethodName := ⟨RJ1, "charAt", "([BI)C"⟩
abbrev cJ1_inflate_0e8fd : ByteArray := prog_35_method_50_code
def yJ1_inflate_0e8fd : MethodName := ⟨RJ1, "inflate", "([BI[BII)V"⟩
def RJ2 : String := "java/lang/StringUTF16"
def TJ2 : u_T := fun k => match k with
  | _ => ("", "", "", false)
def tyJ2 : Nat → FieldType := fun k => match k with
  | _ => .int
abbrev wsJ20 : List Cond := u_ws RJ2 TJ2 0
theorem nmJ2 : ∀ a, a < 0 → ∀ b, b < 0 → a ≠ b → (TJ2 a).2.1 ≠ (TJ2 b).2.1 := by decide +kernel
theorem tyJ2_ok : ∀ k, k < 0 → parseFieldDescriptor (TJ2 k).2.2.1 = some (tyJ2 k) := by decide +kernel
abbrev cJ2_newBytesFor_77867 : ByteArray := prog_36_method_2_code
def yJ2_newBytesFor_77867 : MethodName := ⟨RJ2, "newBytesFor", "(I)[B"⟩
abbrev cJ2_newBytesLength_0f7a4 : ByteArray := prog_36_method_3_code
def yJ2_newBytesLength_0f7a4 : MethodName := ⟨RJ2, "newBytesLength", "(I)I"⟩
abbrev cJ2_putChar_b72d1 : ByteArray := prog_36_method_4_code
def yJ2_putChar_b72d1 : MethodName := ⟨RJ2, "putChar", "([BII)V"⟩
abbrev cJ2_getChar_3b067 : ByteArray := prog_36_method_5_code
def yJ2_getChar_3b067 : MethodName := ⟨RJ2, "getChar", "([BI)C"⟩
abbrev cJ2_length_9d52b : ByteArray := prog_36_method_6_code
def yJ2_length_9d52b : MethodName := ⟨RJ2, "length", "([B)I"⟩
abbrev cJ2_coderFromArrayLen_85cad : ByteArray := prog_36_method_15_code
def yJ2_coderFromArrayLen_85cad : MethodName := ⟨RJ2, "coderFromArrayLen", "([BI)B"⟩
abbrev cJ2_compress_39247 : ByteArray := prog_36_method_17_code
def yJ2_compress_39247 : MethodName := ⟨RJ2, "compress", "([BII)[B"⟩
abbrev cJ2_compress_5af95 : ByteArray := prog_36_method_22_code
def yJ2_compress_5af95 : MethodName := ⟨RJ2, "compress", "([BI[BII)I"⟩
abbrev cJ2_getChars_46870 : ByteArray := prog_36_method_77_code
def yJ2_getChars_46870 : MethodName := ⟨RJ2, "getChars", "(III[B)I"⟩
abbrev cJ2_putCharsAt_cd4e5 : ByteArray := prog_36_method_81_code
def yJ2_putCharsAt_cd4e5 : MethodName := ⟨RJ2, "putCharsAt", "([BICCCC)I"⟩
abbrev cJ2_charAt_3b067 : ByteArray := prog_36_method_83_code
def yJ2_charAt_3b067 : MethodName := ⟨RJ2, "charAt", "([BI)C"⟩
abbrev cJ2_inflate_0e8fd : ByteArray := prog_36_method_86_code
def yJ2_inflate_0e8fd : MethodName := ⟨RJ2, "inflate", "([BI[BII)V"⟩
abbrev cJ2_getChars_ba4f3 : ByteArray := prog_36_method_89_code
def yJ2_getChars_ba4f3 : MethodName := ⟨RJ2, "getChars", "(II[B)I"⟩
abbrev cJ2_checkIndex_2214a : ByteArray := prog_36_method_91_code
def yJ2_checkIndex_2214a : MethodName := ⟨RJ2, "checkIndex", "(I[B)V"⟩
abbrev cJ2_checkBoundsBeginEnd_d044e : ByteArray := prog_36_method_93_code
def yJ2_checkBoundsBeginEnd_d044e : MethodName := ⟨RJ2, "checkBoundsBeginEnd", "(II[B)V"⟩
abbrev cJ2_checkBoundsOffCount_d044e : ByteArray := prog_36_method_94_code
def yJ2_checkBoundsOffCount_d044e : MethodName := ⟨RJ2, "checkBoundsOffCount", "(II[B)V"⟩
def RJ10 : String := "java/lang/System"
def TJ10 : u_T := fun k => match k with
  | _ => ("", "", "", false)
def tyJ10 : Nat → FieldType := fun k => match k with
  | _ => .int
abbrev wsJ100 : List Cond := u_ws RJ10 TJ10 0
theorem nmJ10 : ∀ a, a < 0 → ∀ b, b < 0 → a ≠ b → (TJ10 a).2.1 ≠ (TJ10 b).2.1 := by decide +kernel
theorem tyJ10_ok : ∀ k, k < 0 → parseFieldDescriptor (TJ10 k).2.2.1 = some (tyJ10 k) := by decide +kernel
def RJxfd54e : String := "java/lang/constant/Constable"
def TJxfd54e : u_T := fun k => match k with
  | _ => ("", "", "", false)
def tyJxfd54e : Nat → FieldType := fun k => match k with
  | _ => .int
abbrev wsJxfd54e0 : List Cond := u_ws RJxfd54e TJxfd54e 0
theorem nmJxfd54e : ∀ a, a < 0 → ∀ b, b < 0 → a ≠ b → (TJxfd54e a).2.1 ≠ (TJxfd54e b).2.1 := by decide +kernel
theorem tyJxfd54e_ok : ∀ k, k < 0 → parseFieldDescriptor (TJxfd54e k).2.2.1 = some (tyJxfd54e k) := by decide +kernel
def RJx3cf43 : String := "java/lang/constant/ConstantDesc"
def TJx3cf43 : u_T := fun k => match k with
  | _ => ("", "", "", false)
def tyJx3cf43 : Nat → FieldType := fun k => match k with
  | _ => .int
abbrev wsJx3cf430 : List Cond := u_ws RJx3cf43 TJx3cf43 0
theorem nmJx3cf43 : ∀ a, a < 0 → ∀ b, b < 0 → a ≠ b → (TJx3cf43 a).2.1 ≠ (TJx3cf43 b).2.1 := by decide +kernel
theorem tyJx3cf43_ok : ∀ k, k < 0 → parseFieldDescriptor (TJx3cf43 k).2.2.1 = some (tyJx3cf43 k) := by decide +kernel
def RJ7 : String := "java/util/Arrays"
def TJ7 : u_T := fun k => match k with
  | _ => ("", "", "", false)
def tyJ7 : Nat → FieldType := fun k => match k with
  | _ => .int
abbrev wsJ70 : List Cond := u_ws RJ7 TJ7 0
theorem nmJ7 : ∀ a, a < 0 → ∀ b, b < 0 → a ≠ b → (TJ7 a).2.1 ≠ (TJ7 b).2.1 := by decide +kernel
theorem tyJ7_ok : ∀ k, k < 0 → parseFieldDescriptor (TJ7 k).2.2.1 = some (tyJ7 k) := by decide +kernel
abbrev cJ7_copyOf_9075b : ByteArray := prog_42_method_121_code
def yJ7_copyOf_9075b : MethodName := ⟨RJ7, "copyOf", "([BI)[B"⟩
abbrev cJ7_checkLength_df160 : ByteArray := prog_42_method_131_code
def yJ7_checkLength_df160 : MethodName := ⟨RJ7, "checkLength", "(II)V"⟩
abbrev cJ7_copyOfRange_39247 : ByteArray := prog_42_method_132_code
def yJ7_copyOfRange_39247 : MethodName := ⟨RJ7, "copyOfRange", "([BII)[B"⟩
abbrev cJ7_copyOfRangeByte_39247 : ByteArray := prog_42_method_133_code
def yJ7_copyOfRangeByte_39247 : MethodName := ⟨RJ7, "copyOfRangeByte", "([BII)[B"⟩
def RJ8 : String := "jdk/internal/util/ArraysSupport"
def TJ8 : u_T := fun k => match k with
  | _ => ("", "", "", false)
def tyJ8 : Nat → FieldType := fun k => match k with
  | _ => .int
abbrev wsJ80 : List Cond := u_ws RJ8 TJ8 0
theorem nmJ8 : ∀ a, a < 0 → ∀ b, b < 0 → a ≠ b → (TJ8 a).2.1 ≠ (TJ8 b).2.1 := by decide +kernel
theorem tyJ8_ok : ∀ k, k < 0 → parseFieldDescriptor (TJ8 k).2.2.1 = some (tyJ8 k) := by decide +kernel
abbrev cJ8_newLength_cabcc : ByteArray := prog_44_method_27_code
def yJ8_newLength_cabcc : MethodName := ⟨RJ8, "newLength", "(III)I"⟩
abbrev cJ8_hugeLength_7cf53 : ByteArray := prog_44_method_28_code
def yJ8_hugeLength_7cf53 : MethodName := ⟨RJ8, "hugeLength", "(II)I"⟩
def RJ3 : String := "jdk/internal/util/Preconditions"
def TJ3 : u_T := fun k => match k with
  | _ => ("", "", "", false)
def tyJ3 : Nat → FieldType := fun k => match k with
  | _ => .int
abbrev wsJ30 : List Cond := u_ws RJ3 TJ3 0
theorem nmJ3 : ∀ a, a < 0 → ∀ b, b < 0 → a ≠ b → (TJ3 a).2.1 ≠ (TJ3 b).2.1 := by decide +kernel
theorem tyJ3_ok : ∀ k, k < 0 → parseFieldDescriptor (TJ3 k).2.2.1 = some (tyJ3 k) := by decide +kernel
abbrev cJ3_checkIndex_8e157 : ByteArray := prog_45_method_11_code
def yJ3_checkIndex_8e157 : MethodName := ⟨RJ3, "checkIndex", "(IILjava/util/function/BiFunction;)I"⟩
abbrev cJ3_checkFromToIndex_8c36e : ByteArray := prog_45_method_12_code
def yJ3_checkFromToIndex_8c36e : MethodName := ⟨RJ3, "checkFromToIndex", "(IIILjava/util/function/BiFunction;)I"⟩
abbrev cJ3_checkFromIndexSize_8c36e : ByteArray := prog_45_method_13_code
def yJ3_checkFromIndexSize_8c36e : MethodName := ⟨RJ3, "checkFromIndexSize", "(IIILjava/util/function/BiFunction;)I"⟩
def RL : String := "ParcelDepotLaw"
abbrev cL_at : ByteArray := method_2_code
def yL_at : MethodName := ⟨RL, "at", "([II)I"⟩
abbrev cL_put : ByteArray := method_3_code
def yL_put : MethodName := ⟨RL, "put", "(LParcelDepot;Ljava/lang/String;)V"⟩
abbrev cL_build : ByteArray := method_4_code
def yL_build : MethodName := ⟨RL, "build", "([I)LParcelDepot;"⟩
abbrev cL_act : ByteArray := method_5_code
def yL_act : MethodName := ⟨RL, "act", "(LParcelDepot;IIII)I"⟩
abbrev cL_road : ByteArray := method_6_code
def yL_road : MethodName := ⟨RL, "road", "(LParcelDepot;II)I"⟩
abbrev cL_sackOf : ByteArray := method_7_code
def yL_sackOf : MethodName := ⟨RL, "sackOf", "(LParcelDepot;I)I"⟩
abbrev cL_state : ByteArray := method_8_code
def yL_state : MethodName := ⟨RL, "state", "(LParcelDepot;)I"⟩
abbrev cL_law : ByteArray := code
def yL_law : MethodName := ⟨RL, "law", "([I)Z"⟩
abbrev cL_isLine : ByteArray := method_13_code
def yL_isLine : MethodName := ⟨RL, "isLine", "(LParcelDepot;ILjava/lang/String;)Z"⟩
abbrev cL_runs : ByteArray := method_14_code
def yL_runs : MethodName := ⟨RL, "runs", "(LParcelDepot;)I"⟩
abbrev cL_fails : ByteArray := method_15_code
def yL_fails : MethodName := ⟨RL, "fails", "(LParcelDepot;Ljava/lang/String;I)Z"⟩
abbrev vwCl : List vw_C := [(RJ0, TJ0, 4), (RJ4, TJ4, 4), (RJx00060, TJx00060, 6), (RX1, TX1, 4), (RX2, TX2, 5), (RX3, TX3, 4), (RX4, TX4, 2), (RX6, TX6, 4), (RX7, TX7, 3), (RX8, TX8, 6), (RX9, TX9, 5), (RX10, TX10, 2), (RX11, TX11, 3), (RX12, TX12, 9)]
