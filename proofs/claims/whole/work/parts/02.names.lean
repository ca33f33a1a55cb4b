def RX0 : String := "LoggiaPlanner$Board"
def TX0 : u_T := fun k => match k with
  | 0 => ("LoggiaPlanner$Board", "works", "I", false)
  | 1 => ("LoggiaPlanner$Board", "walls", "I", false)
  | 2 => ("LoggiaPlanner$Board", "free", "[I", true)
  | 3 => ("LoggiaPlanner$Board", "space", "[I", true)
  | 4 => ("LoggiaPlanner$Board", "chosen", "[I", true)
  | 5 => ("LoggiaPlanner$Board", "open", "[I", true)
  | _ => ("LoggiaPlanner$Board", "kinds", "[I", true)
def tyX0 : Nat → FieldType := fun k => match k with
  | 0 => .int
  | 1 => .int
  | 2 => .array .int
  | 3 => .array .int
  | 4 => .array .int
  | 5 => .array .int
  | _ => .array .int
abbrev wsX00 : List Cond := u_ws RX0 TX0 7
theorem nmX0 : ∀ a, a < 7 → ∀ b, b < 7 → a ≠ b → (TX0 a).2.1 ≠ (TX0 b).2.1 := by decide +kernel
theorem tyX0_ok : ∀ k, k < 7 → parseFieldDescriptor (TX0 k).2.2.1 = some (tyX0 k) := by decide +kernel
abbrev cX0_init : ByteArray := prog_2_method_1_code
def yX0_init : MethodName := ⟨RX0, "<init>", "()V"⟩
abbrev cX0_prepare : ByteArray := prog_2_method_2_code
def yX0_prepare : MethodName := ⟨RX0, "prepare", "(LLoggiaPlanner$Exhibition;LLoggiaPlanner$House;LLoggiaPlanner$Calendar;LLoggiaPlanner$Separations;)Z"⟩
abbrev cX0_opensAWall : ByteArray := prog_2_method_3_code
def yX0_opensAWall : MethodName := ⟨RX0, "opensAWall", "(ILLoggiaPlanner$Work;LLoggiaPlanner$Exhibition;LLoggiaPlanner$House;LLoggiaPlanner$Calendar;LLoggiaPlanner$Separations;)Z"⟩
abbrev cX0_hangWorkByWork : ByteArray := prog_2_method_4_code
def yX0_hangWorkByWork : MethodName := ⟨RX0, "hangWorkByWork", "()Z"⟩
abbrev cX0_hangFrom : ByteArray := prog_2_method_5_code
def yX0_hangFrom : MethodName := ⟨RX0, "hangFrom", "(LLoggiaPlanner$Board;I)Z"⟩
abbrev cX0_searchAllWalls : ByteArray := prog_2_method_6_code
def yX0_searchAllWalls : MethodName := ⟨RX0, "searchAllWalls", "()Z"⟩
abbrev cX0_chooseAsIn : ByteArray := prog_2_method_7_code
def yX0_chooseAsIn : MethodName := ⟨RX0, "chooseAsIn", "(I)V"⟩
abbrev cX0_worksBeforeTheFirstMisfit : ByteArray := prog_2_method_8_code
def yX0_worksBeforeTheFirstMisfit : MethodName := ⟨RX0, "worksBeforeTheFirstMisfit", "()I"⟩
abbrev cX0_fitsToThoseBefore : ByteArray := prog_2_method_9_code
def yX0_fitsToThoseBefore : MethodName := ⟨RX0, "fitsToThoseBefore", "(I)Z"⟩
abbrev cX0_power : ByteArray := prog_2_method_10_code
def yX0_power : MethodName := ⟨RX0, "power", "(II)I"⟩
def RX1 : String := "LoggiaPlanner$Calendar"
def TX1 : u_T := fun k => match k with
  | _ => ("LoggiaPlanner$Calendar", "exhibitions", "Ljava/util/ArrayList;", true)
def tyX1 : Nat → FieldType := fun k => match k with
  | _ => .object "java/util/ArrayList"
abbrev wsX10 : List Cond := u_ws RX1 TX1 1
theorem nmX1 : ∀ a, a < 1 → ∀ b, b < 1 → a ≠ b → (TX1 a).2.1 ≠ (TX1 b).2.1 := by decide +kernel
theorem tyX1_ok : ∀ k, k < 1 → parseFieldDescriptor (TX1 k).2.2.1 = some (tyX1 k) := by decide +kernel
abbrev cX1_init : ByteArray := prog_3_method_1_code
def yX1_init : MethodName := ⟨RX1, "<init>", "()V"⟩
abbrev cX1_takenOn : ByteArray := prog_3_method_2_code
def yX1_takenOn : MethodName := ⟨RX1, "takenOn", "(II)I"⟩
abbrev cX1_worksOn : ByteArray := prog_3_method_3_code
def yX1_worksOn : MethodName := ⟨RX1, "worksOn", "(II)I"⟩
abbrev cX1_mostTakenDuring : ByteArray := prog_3_method_4_code
def yX1_mostTakenDuring : MethodName := ⟨RX1, "mostTakenDuring", "(LLoggiaPlanner$Exhibition;I)I"⟩
abbrev cX1_isAgainst : ByteArray := prog_3_method_5_code
def yX1_isAgainst : MethodName := ⟨RX1, "isAgainst", "(LLoggiaPlanner$Separations;LLoggiaPlanner$Exhibition;LLoggiaPlanner$Work;I)Z"⟩
abbrev cX1_hangsAgainst : ByteArray := prog_3_method_6_code
def yX1_hangsAgainst : MethodName := ⟨RX1, "hangsAgainst", "(LLoggiaPlanner$Work;LLoggiaPlanner$Work;C)Z"⟩
abbrev cX1_meetsAgainst : ByteArray := prog_3_method_7_code
def yX1_meetsAgainst : MethodName := ⟨RX1, "meetsAgainst", "(LLoggiaPlanner$Exhibition;ILLoggiaPlanner$Work;C)Z"⟩
abbrev cX1_allowsTaking : ByteArray := prog_3_method_8_code
def yX1_allowsTaking : MethodName := ⟨RX1, "allowsTaking", "(LLoggiaPlanner$Exhibition;LLoggiaPlanner$Work;)Z"⟩
abbrev cX1_exhibitionWith : ByteArray := prog_3_method_9_code
def yX1_exhibitionWith : MethodName := ⟨RX1, "exhibitionWith", "(LLoggiaPlanner$Work;I)I"⟩
abbrev cX1_takeDownMisplaced : ByteArray := prog_3_method_10_code
def yX1_takeDownMisplaced : MethodName := ⟨RX1, "takeDownMisplaced", "(LLoggiaPlanner$House;)I"⟩
abbrev cX1_standsWhereItHangs : ByteArray := prog_3_method_11_code
def yX1_standsWhereItHangs : MethodName := ⟨RX1, "standsWhereItHangs", "(LLoggiaPlanner$Exhibition;LLoggiaPlanner$House;)Z"⟩
abbrev cX1_plannedExhibitions : ByteArray := prog_3_method_12_code
def yX1_plannedExhibitions : MethodName := ⟨RX1, "plannedExhibitions", "()I"⟩
abbrev cX1_plannedWorks : ByteArray := prog_3_method_13_code
def yX1_plannedWorks : MethodName := ⟨RX1, "plannedWorks", "()I"⟩
abbrev cX1_insuredSum : ByteArray := prog_3_method_14_code
def yX1_insuredSum : MethodName := ⟨RX1, "insuredSum", "()J"⟩
abbrev cX1_allHangWell : ByteArray := prog_3_method_15_code
def yX1_allHangWell : MethodName := ⟨RX1, "allHangWell", "(LLoggiaPlanner$House;LLoggiaPlanner$Separations;)Z"⟩
abbrev cX1_keepsApart : ByteArray := prog_3_method_16_code
def yX1_keepsApart : MethodName := ⟨RX1, "keepsApart", "(LLoggiaPlanner$Exhibition;LLoggiaPlanner$Separations;)Z"⟩
abbrev cX1_fitsOn : ByteArray := prog_3_method_17_code
def yX1_fitsOn : MethodName := ⟨RX1, "fitsOn", "(LLoggiaPlanner$House;)Z"⟩
abbrev cX1_takesWell : ByteArray := prog_3_method_18_code
def yX1_takesWell : MethodName := ⟨RX1, "takesWell", "()Z"⟩
abbrev cX1_allowsTakingAll : ByteArray := prog_3_method_19_code
def yX1_allowsTakingAll : MethodName := ⟨RX1, "allowsTakingAll", "(LLoggiaPlanner$Exhibition;)Z"⟩
def RX2 : String := "LoggiaPlanner$Exhibition"
def TX2 : u_T := fun k => match k with
  | 0 => ("LoggiaPlanner$Exhibition", "number", "I", true)
  | 1 => ("LoggiaPlanner$Exhibition", "first", "I", true)
  | 2 => ("LoggiaPlanner$Exhibition", "last", "I", true)
  | 3 => ("LoggiaPlanner$Exhibition", "gap", "I", true)
  | 4 => ("LoggiaPlanner$Exhibition", "shown", "Ljava/util/ArrayList;", true)
  | 5 => ("LoggiaPlanner$Exhibition", "walls", "[I", true)
  | _ => ("LoggiaPlanner$Exhibition", "state", "C", false)
def tyX2 : Nat → FieldType := fun k => match k with
  | 0 => .int
  | 1 => .int
  | 2 => .int
  | 3 => .int
  | 4 => .object "java/util/ArrayList"
  | 5 => .array .int
  | _ => .char
abbrev wsX20 : List Cond := u_ws RX2 TX2 7
theorem nmX2 : ∀ a, a < 7 → ∀ b, b < 7 → a ≠ b → (TX2 a).2.1 ≠ (TX2 b).2.1 := by decide +kernel
theorem tyX2_ok : ∀ k, k < 7 → parseFieldDescriptor (TX2 k).2.2.1 = some (tyX2 k) := by decide +kernel
abbrev cX2_init : ByteArray := prog_4_method_1_code
def yX2_init : MethodName := ⟨RX2, "<init>", "(IIII)V"⟩
abbrev cX2_days : ByteArray := prog_4_method_2_code
def yX2_days : MethodName := ⟨RX2, "days", "()I"⟩
abbrev cX2_indexOf : ByteArray := prog_4_method_3_code
def yX2_indexOf : MethodName := ⟨RX2, "indexOf", "(LLoggiaPlanner$Work;)I"⟩
abbrev cX2_hangsOn : ByteArray := prog_4_method_4_code
def yX2_hangsOn : MethodName := ⟨RX2, "hangsOn", "(I)Z"⟩
abbrev cX2_hangsDuring : ByteArray := prog_4_method_5_code
def yX2_hangsDuring : MethodName := ⟨RX2, "hangsDuring", "(LLoggiaPlanner$Exhibition;)Z"⟩
abbrev cX2_isAwayBetween : ByteArray := prog_4_method_6_code
def yX2_isAwayBetween : MethodName := ⟨RX2, "isAwayBetween", "(LLoggiaPlanner$Work;II)Z"⟩
abbrev cX2_spaceOn : ByteArray := prog_4_method_7_code
def yX2_spaceOn : MethodName := ⟨RX2, "spaceOn", "(I)I"⟩
abbrev cX2_countOn : ByteArray := prog_4_method_8_code
def yX2_countOn : MethodName := ⟨RX2, "countOn", "(I)I"⟩
abbrev cX2_insuredSum : ByteArray := prog_4_method_9_code
def yX2_insuredSum : MethodName := ⟨RX2, "insuredSum", "()J"⟩
abbrev cX2_hangAs : ByteArray := prog_4_method_10_code
def yX2_hangAs : MethodName := ⟨RX2, "hangAs", "([I)V"⟩
def RX3 : String := "LoggiaPlanner$House"
def TX3 : u_T := fun k => match k with
  | _ => ("LoggiaPlanner$House", "rooms", "Ljava/util/ArrayList;", true)
def tyX3 : Nat → FieldType := fun k => match k with
  | _ => .object "java/util/ArrayList"
abbrev wsX30 : List Cond := u_ws RX3 TX3 1
theorem nmX3 : ∀ a, a < 1 → ∀ b, b < 1 → a ≠ b → (TX3 a).2.1 ≠ (TX3 b).2.1 := by decide +kernel
theorem tyX3_ok : ∀ k, k < 1 → parseFieldDescriptor (TX3 k).2.2.1 = some (tyX3 k) := by decide +kernel
abbrev cX3_init : ByteArray := prog_5_method_1_code
def yX3_init : MethodName := ⟨RX3, "<init>", "()V"⟩
abbrev cX3_walls : ByteArray := prog_5_method_2_code
def yX3_walls : MethodName := ⟨RX3, "walls", "()I"⟩
abbrev cX3_lengthOf : ByteArray := prog_5_method_3_code
def yX3_lengthOf : MethodName := ⟨RX3, "lengthOf", "(I)I"⟩
abbrev cX3_suits : ByteArray := prog_5_method_4_code
def yX3_suits : MethodName := ⟨RX3, "suits", "(LLoggiaPlanner$Work;I)Z"⟩
def RX4 : String := "LoggiaPlanner$Lender"
def TX4 : u_T := fun k => match k with
  | 0 => ("LoggiaPlanner$Lender", "number", "I", true)
  | 1 => ("LoggiaPlanner$Lender", "limit", "I", true)
  | 2 => ("LoggiaPlanner$Lender", "days", "I", true)
  | _ => ("LoggiaPlanner$Lender", "longest", "I", true)
def tyX4 : Nat → FieldType := fun k => match k with
  | 0 => .int
  | 1 => .int
  | 2 => .int
  | _ => .int
abbrev wsX40 : List Cond := u_ws RX4 TX4 4
theorem nmX4 : ∀ a, a < 4 → ∀ b, b < 4 → a ≠ b → (TX4 a).2.1 ≠ (TX4 b).2.1 := by decide +kernel
theorem tyX4_ok : ∀ k, k < 4 → parseFieldDescriptor (TX4 k).2.2.1 = some (tyX4 k) := by decide +kernel
abbrev cX4_init : ByteArray := prog_6_method_1_code
def yX4_init : MethodName := ⟨RX4, "<init>", "(IIII)V"⟩
def RX5 : String := "LoggiaPlanner$Loads"
def TX5 : u_T := fun k => match k with
  | 0 => ("LoggiaPlanner$Loads", "limit", "I", false)
  | 1 => ("LoggiaPlanner$Loads", "count", "I", false)
  | 2 => ("LoggiaPlanner$Loads", "values", "[I", true)
  | 3 => ("LoggiaPlanner$Loads", "onTrip", "[I", true)
  | _ => ("LoggiaPlanner$Loads", "needs", "[I", true)
def tyX5 : Nat → FieldType := fun k => match k with
  | 0 => .int
  | 1 => .int
  | 2 => .array .int
  | 3 => .array .int
  | _ => .array .int
abbrev wsX50 : List Cond := u_ws RX5 TX5 5
theorem nmX5 : ∀ a, a < 5 → ∀ b, b < 5 → a ≠ b → (TX5 a).2.1 ≠ (TX5 b).2.1 := by decide +kernel
theorem tyX5_ok : ∀ k, k < 5 → parseFieldDescriptor (TX5 k).2.2.1 = some (tyX5 k) := by decide +kernel
abbrev cX5_init : ByteArray := prog_7_method_1_code
def yX5_init : MethodName := ⟨RX5, "<init>", "()V"⟩
abbrev cX5_collect : ByteArray := prog_7_method_2_code
def yX5_collect : MethodName := ⟨RX5, "collect", "(LLoggiaPlanner$Exhibition;LLoggiaPlanner$Lender;)Z"⟩
abbrev cX5_leastByGroups : ByteArray := prog_7_method_3_code
def yX5_leastByGroups : MethodName := ⟨RX5, "leastByGroups", "()I"⟩
abbrev cX5_valueOf : ByteArray := prog_7_method_4_code
def yX5_valueOf : MethodName := ⟨RX5, "valueOf", "(I)I"⟩
abbrev cX5_needOfParts : ByteArray := prog_7_method_5_code
def yX5_needOfParts : MethodName := ⟨RX5, "needOfParts", "(I)I"⟩
abbrev cX5_leastByTrying : ByteArray := prog_7_method_6_code
def yX5_leastByTrying : MethodName := ⟨RX5, "leastByTrying", "()I"⟩
abbrev cX5_putFrom : ByteArray := prog_7_method_7_code
def yX5_putFrom : MethodName := ⟨RX5, "putFrom", "(LLoggiaPlanner$Loads;II)I"⟩
def RX6 : String := "LoggiaPlanner$Room"
def TX6 : u_T := fun k => match k with
  | 0 => ("LoggiaPlanner$Room", "humidity", "I", false)
  | 1 => ("LoggiaPlanner$Room", "light", "I", false)
  | 2 => ("LoggiaPlanner$Room", "first", "I", true)
  | _ => ("LoggiaPlanner$Room", "second", "I", true)
def tyX6 : Nat → FieldType := fun k => match k with
  | 0 => .int
  | 1 => .int
  | 2 => .int
  | _ => .int
abbrev wsX60 : List Cond := u_ws RX6 TX6 4
theorem nmX6 : ∀ a, a < 4 → ∀ b, b < 4 → a ≠ b → (TX6 a).2.1 ≠ (TX6 b).2.1 := by decide +kernel
theorem tyX6_ok : ∀ k, k < 4 → parseFieldDescriptor (TX6 k).2.2.1 = some (tyX6 k) := by decide +kernel
abbrev cX6_init : ByteArray := prog_8_method_1_code
def yX6_init : MethodName := ⟨RX6, "<init>", "(IIII)V"⟩
def RX7 : String := "LoggiaPlanner$Separations"
def TX7 : u_T := fun k => match k with
  | _ => ("LoggiaPlanner$Separations", "kinds", "[C", true)
def tyX7 : Nat → FieldType := fun k => match k with
  | _ => .array .char
abbrev wsX70 : List Cond := u_ws RX7 TX7 1
theorem nmX7 : ∀ a, a < 1 → ∀ b, b < 1 → a ≠ b → (TX7 a).2.1 ≠ (TX7 b).2.1 := by decide +kernel
theorem tyX7_ok : ∀ k, k < 1 → parseFieldDescriptor (TX7 k).2.2.1 = some (tyX7 k) := by decide +kernel
abbrev cX7_init : ByteArray := prog_9_method_1_code
def yX7_init : MethodName := ⟨RX7, "<init>", "()V"⟩
abbrev cX7_kindOf : ByteArray := prog_9_method_2_code
def yX7_kindOf : MethodName := ⟨RX7, "kindOf", "(II)C"⟩
abbrev cX7_keep : ByteArray := prog_9_method_3_code
def yX7_keep : MethodName := ⟨RX7, "keep", "(IIC)V"⟩
abbrev cX7_keepOneSide : ByteArray := prog_9_method_4_code
def yX7_keepOneSide : MethodName := ⟨RX7, "keepOneSide", "(IIC)V"⟩
abbrev cX7_pairs : ByteArray := prog_9_method_5_code
def yX7_pairs : MethodName := ⟨RX7, "pairs", "()I"⟩
def RX8 : String := "LoggiaPlanner$Work"
def TX8 : u_T := fun k => match k with
  | 0 => ("LoggiaPlanner$Work", "number", "I", true)
  | 1 => ("LoggiaPlanner$Work", "width", "I", true)
  | 2 => ("LoggiaPlanner$Work", "low", "I", true)
  | 3 => ("LoggiaPlanner$Work", "high", "I", true)
  | 4 => ("LoggiaPlanner$Work", "light", "I", true)
  | 5 => ("LoggiaPlanner$Work", "value", "I", true)
  | _ => ("LoggiaPlanner$Work", "lender", "LLoggiaPlanner$Lender;", true)
def tyX8 : Nat → FieldType := fun k => match k with
  | 0 => .int
  | 1 => .int
  | 2 => .int
  | 3 => .int
  | 4 => .int
  | 5 => .int
  | _ => .object "LoggiaPlanner$Lender"
abbrev wsX80 : List Cond := u_ws RX8 TX8 7
theorem nmX8 : ∀ a, a < 7 → ∀ b, b < 7 → a ≠ b → (TX8 a).2.1 ≠ (TX8 b).2.1 := by decide +kernel
theorem tyX8_ok : ∀ k, k < 7 → parseFieldDescriptor (TX8 k).2.2.1 = some (tyX8 k) := by decide +kernel
abbrev cX8_init : ByteArray := prog_10_method_1_code
def yX8_init : MethodName := ⟨RX8, "<init>", "(IIIIIILLoggiaPlanner$Lender;)V"⟩
abbrev cX8_stands : ByteArray := prog_10_method_2_code
def yX8_stands : MethodName := ⟨RX8, "stands", "(LLoggiaPlanner$Room;)Z"⟩
abbrev cX8_isFrom : ByteArray := prog_10_method_3_code
def yX8_isFrom : MethodName := ⟨RX8, "isFrom", "(LLoggiaPlanner$Lender;)Z"⟩
abbrev cX8_travelDays : ByteArray := prog_10_method_4_code
def yX8_travelDays : MethodName := ⟨RX8, "travelDays", "()I"⟩
abbrev cX8_isLentFor : ByteArray := prog_10_method_5_code
def yX8_isLentFor : MethodName := ⟨RX8, "isLentFor", "(LLoggiaPlanner$Exhibition;)Z"⟩
def RX9 : String := "LoggiaPlanner"
def TX9 : u_T := fun k => match k with
  | 0 => ("LoggiaPlanner", "house", "LLoggiaPlanner$House;", true)
  | 1 => ("LoggiaPlanner", "lenderList", "Ljava/util/ArrayList;", true)
  | 2 => ("LoggiaPlanner", "workList", "Ljava/util/ArrayList;", true)
  | 3 => ("LoggiaPlanner", "separations", "LLoggiaPlanner$Separations;", true)
  | 4 => ("LoggiaPlanner", "calendar", "LLoggiaPlanner$Calendar;", true)
  | 5 => ("LoggiaPlanner", "board", "LLoggiaPlanner$Board;", true)
  | 6 => ("LoggiaPlanner", "loads", "LLoggiaPlanner$Loads;", true)
  | _ => ("LoggiaPlanner", "timesPlanned", "I", false)
def tyX9 : Nat → FieldType := fun k => match k with
  | 0 => .object "LoggiaPlanner$House"
  | 1 => .object "java/util/ArrayList"
  | 2 => .object "java/util/ArrayList"
  | 3 => .object "LoggiaPlanner$Separations"
  | 4 => .object "LoggiaPlanner$Calendar"
  | 5 => .object "LoggiaPlanner$Board"
  | 6 => .object "LoggiaPlanner$Loads"
  | _ => .int
abbrev wsX90 : List Cond := u_ws RX9 TX9 8
theorem nmX9 : ∀ a, a < 8 → ∀ b, b < 8 → a ≠ b → (TX9 a).2.1 ≠ (TX9 b).2.1 := by decide +kernel
theorem tyX9_ok : ∀ k, k < 8 → parseFieldDescriptor (TX9 k).2.2.1 = some (tyX9 k) := by decide +kernel
abbrev cX9_init : ByteArray := prog_1_method_1_code
def yX9_init : MethodName := ⟨RX9, "<init>", "()V"⟩
abbrev cX9_addRoom : ByteArray := prog_1_method_2_code
def yX9_addRoom : MethodName := ⟨RX9, "addRoom", "(IIII)I"⟩
abbrev cX9_setClimate : ByteArray := prog_1_method_3_code
def yX9_setClimate : MethodName := ⟨RX9, "setClimate", "(III)I"⟩
abbrev cX9_addLender : ByteArray := prog_1_method_4_code
def yX9_addLender : MethodName := ⟨RX9, "addLender", "(III)I"⟩
abbrev cX9_addWork : ByteArray := prog_1_method_5_code
def yX9_addWork : MethodName := ⟨RX9, "addWork", "(IIIIII)I"⟩
abbrev cX9_separate : ByteArray := prog_1_method_6_code
def yX9_separate : MethodName := ⟨RX9, "separate", "(IIC)I"⟩
abbrev cX9_rooms : ByteArray := prog_1_method_7_code
def yX9_rooms : MethodName := ⟨RX9, "rooms", "()I"⟩
abbrev cX9_works : ByteArray := prog_1_method_8_code
def yX9_works : MethodName := ⟨RX9, "works", "()I"⟩
abbrev cX9_separation : ByteArray := prog_1_method_9_code
def yX9_separation : MethodName := ⟨RX9, "separation", "(II)C"⟩
abbrev cX9_canHang : ByteArray := prog_1_method_10_code
def yX9_canHang : MethodName := ⟨RX9, "canHang", "(II)Z"⟩
abbrev cX9_addExhibition : ByteArray := prog_1_method_11_code
def yX9_addExhibition : MethodName := ⟨RX9, "addExhibition", "(III)I"⟩
abbrev cX9_include : ByteArray := prog_1_method_12_code
def yX9_include : MethodName := ⟨RX9, "include", "(II)I"⟩
abbrev cX9_request : ByteArray := prog_1_method_13_code
def yX9_request : MethodName := ⟨RX9, "request", "(I)C"⟩
abbrev cX9_cancel : ByteArray := prog_1_method_14_code
def yX9_cancel : MethodName := ⟨RX9, "cancel", "(I)I"⟩
abbrev cX9_stateOf : ByteArray := prog_1_method_15_code
def yX9_stateOf : MethodName := ⟨RX9, "stateOf", "(I)C"⟩
abbrev cX9_worksOf : ByteArray := prog_1_method_16_code
def yX9_worksOf : MethodName := ⟨RX9, "worksOf", "(I)I"⟩
abbrev cX9_workOf : ByteArray := prog_1_method_17_code
def yX9_workOf : MethodName := ⟨RX9, "workOf", "(II)I"⟩
abbrev cX9_wallOf : ByteArray := prog_1_method_18_code
def yX9_wallOf : MethodName := ⟨RX9, "wallOf", "(II)I"⟩
abbrev cX9_canTake : ByteArray := prog_1_method_19_code
def yX9_canTake : MethodName := ⟨RX9, "canTake", "(II)Z"⟩
abbrev cX9_wallFor : ByteArray := prog_1_method_20_code
def yX9_wallFor : MethodName := ⟨RX9, "wallFor", "(II)I"⟩
abbrev cX9_wallForBySearch : ByteArray := prog_1_method_21_code
def yX9_wallForBySearch : MethodName := ⟨RX9, "wallForBySearch", "(II)I"⟩
abbrev cX9_trips : ByteArray := prog_1_method_22_code
def yX9_trips : MethodName := ⟨RX9, "trips", "(II)I"⟩
abbrev cX9_tripsByTrying : ByteArray := prog_1_method_23_code
def yX9_tripsByTrying : MethodName := ⟨RX9, "tripsByTrying", "(II)I"⟩
abbrev cX9_taken : ByteArray := prog_1_method_24_code
def yX9_taken : MethodName := ⟨RX9, "taken", "(II)I"⟩
abbrev cX9_hanging : ByteArray := prog_1_method_25_code
def yX9_hanging : MethodName := ⟨RX9, "hanging", "(II)I"⟩
abbrev cX9_awayFor : ByteArray := prog_1_method_26_code
def yX9_awayFor : MethodName := ⟨RX9, "awayFor", "(II)I"⟩
abbrev cX9_planned : ByteArray := prog_1_method_27_code
def yX9_planned : MethodName := ⟨RX9, "planned", "()I"⟩
abbrev cX9_insured : ByteArray := prog_1_method_28_code
def yX9_insured : MethodName := ⟨RX9, "insured", "()J"⟩
abbrev cX9_meanWorks : ByteArray := prog_1_method_29_code
def yX9_meanWorks : MethodName := ⟨RX9, "meanWorks", "()D"⟩
abbrev cX9_share : ByteArray := prog_1_method_30_code
def yX9_share : MethodName := ⟨RX9, "share", "(II)F"⟩
abbrev cX9_isSafe : ByteArray := prog_1_method_31_code
def yX9_isSafe : MethodName := ⟨RX9, "isSafe", "()Z"⟩
abbrev cX9_roomAt : ByteArray := prog_1_method_32_code
def yX9_roomAt : MethodName := ⟨RX9, "roomAt", "(I)LLoggiaPlanner$Room;"⟩
abbrev cX9_workAt : ByteArray := prog_1_method_33_code
def yX9_workAt : MethodName := ⟨RX9, "workAt", "(I)LLoggiaPlanner$Work;"⟩
abbrev cX9_exhibitionAt : ByteArray := prog_1_method_34_code
def yX9_exhibitionAt : MethodName := ⟨RX9, "exhibitionAt", "(I)LLoggiaPlanner$Exhibition;"⟩
abbrev cX9_shownAt : ByteArray := prog_1_method_35_code
def yX9_shownAt : MethodName := ⟨RX9, "shownAt", "(LLoggiaPlanner$Exhibition;I)LLoggiaPlanner$Work;"⟩
abbrev cX9_openExhibitionAt : ByteArray := prog_1_method_36_code
def yX9_openExhibitionAt : MethodName := ⟨RX9, "openExhibitionAt", "(II)LLoggiaPlanner$Exhibition;"⟩
abbrev cX9_refuseUnknown : ByteArray := prog_1_method_37_code
def yX9_refuseUnknown : MethodName := ⟨RX9, "refuseUnknown", "(II)V"⟩
abbrev cX9_collectLoads : ByteArray := prog_1_method_38_code
def yX9_collectLoads : MethodName := ⟨RX9, "collectLoads", "(II)V"⟩
abbrev cX9_planThoseThatWait : ByteArray := prog_1_method_39_code
def yX9_planThoseThatWait : MethodName := ⟨RX9, "planThoseThatWait", "()I"⟩
abbrev cX9_hangAsFound : ByteArray := prog_1_method_40_code
def yX9_hangAsFound : MethodName := ⟨RX9, "hangAsFound", "(LLoggiaPlanner$Exhibition;)V"⟩
abbrev cX9_findsWorkByWork : ByteArray := prog_1_method_41_code
def yX9_findsWorkByWork : MethodName := ⟨RX9, "findsWorkByWork", "(LLoggiaPlanner$Exhibition;)Z"⟩
abbrev cX9_findsBySearch : ByteArray := prog_1_method_42_code
def yX9_findsBySearch : MethodName := ⟨RX9, "findsBySearch", "(LLoggiaPlanner$Exhibition;)Z"⟩
abbrev cX9_allWaitRightly : ByteArray := prog_1_method_43_code
def yX9_allWaitRightly : MethodName := ⟨RX9, "allWaitRightly", "()Z"⟩
abbrev cX9_isWithin : ByteArray := prog_1_method_44_code
def yX9_isWithin : MethodName := ⟨RX9, "isWithin", "(III)Z"⟩
abbrev cX9_isClimate : ByteArray := prog_1_method_45_code
def yX9_isClimate : MethodName := ⟨RX9, "isClimate", "(II)Z"⟩
abbrev cX9_isBroken : ByteArray := prog_1_method_46_code
def yX9_isBroken : MethodName := ⟨RX9, "isBroken", "(CII)Z"⟩
abbrev cX9_numberAt : ByteArray := prog_1_method_47_code
def yX9_numberAt : MethodName := ⟨RX9, "numberAt", "([II)I"⟩
abbrev cX9_putAt : ByteArray := prog_1_method_48_code
def yX9_putAt : MethodName := ⟨RX9, "putAt", "([III)V"⟩
def RX10 : String := "LoggiaPlannerModel"
def TX10 : u_T := fun k => match k with
  | 0 => ("LoggiaPlannerModel", "humidities", "[I", true)
  | 1 => ("LoggiaPlannerModel", "lights", "[I", true)
  | 2 => ("LoggiaPlannerModel", "lengths", "[I", true)
  | 3 => ("LoggiaPlannerModel", "limits", "[I", true)
  | 4 => ("LoggiaPlannerModel", "travels", "[I", true)
  | 5 => ("LoggiaPlannerModel", "longests", "[I", true)
  | 6 => ("LoggiaPlannerModel", "widths", "[I", true)
  | 7 => ("LoggiaPlannerModel", "lows", "[I", true)
  | 8 => ("LoggiaPlannerModel", "highs", "[I", true)
  | 9 => ("LoggiaPlannerModel", "stands", "[I", true)
  | 10 => ("LoggiaPlannerModel", "values", "[I", true)
  | 11 => ("LoggiaPlannerModel", "lenders", "[I", true)
  | 12 => ("LoggiaPlannerModel", "kinds", "[I", true)
  | 13 => ("LoggiaPlannerModel", "firsts", "[I", true)
  | 14 => ("LoggiaPlannerModel", "lasts", "[I", true)
  | 15 => ("LoggiaPlannerModel", "gaps", "[I", true)
  | 16 => ("LoggiaPlannerModel", "states", "[I", true)
  | 17 => ("LoggiaPlannerModel", "counts", "[I", true)
  | 18 => ("LoggiaPlannerModel", "included", "[I", true)
  | 19 => ("LoggiaPlannerModel", "walls", "[I", true)
  | 20 => ("LoggiaPlannerModel", "tried", "[I", true)
  | 21 => ("LoggiaPlannerModel", "loads", "[I", true)
  | 22 => ("LoggiaPlannerModel", "least", "[I", true)
  | 23 => ("LoggiaPlannerModel", "thrown", "I", false)
  | 24 => ("LoggiaPlannerModel", "rooms", "I", false)
  | 25 => ("LoggiaPlannerModel", "lenderCount", "I", false)
  | 26 => ("LoggiaPlannerModel", "works", "I", false)
  | 27 => ("LoggiaPlannerModel", "exhibitions", "I", false)
  | _ => ("LoggiaPlannerModel", "planned", "I", false)
def tyX10 : Nat → FieldType := fun k => match k with
  | 0 => .array .int
  | 1 => .array .int
  | 2 => .array .int
  | 3 => .array .int
  | 4 => .array .int
  | 5 => .array .int
  | 6 => .array .int
  | 7 => .array .int
  | 8 => .array .int
  | 9 => .array .int
  | 10 => .array .int
  | 11 => .array .int
  | 12 => .array .int
  | 13 => .array .int
  | 14 => .array .int
  | 15 => .array .int
  | 16 => .array .int
  | 17 => .array .int
  | 18 => .array .int
  | 19 => .array .int
  | 20 => .array .int
  | 21 => .array .int
  | 22 => .array .int
  | 23 => .int
  | 24 => .int
  | 25 => .int
  | 26 => .int
  | 27 => .int
  | _ => .int
abbrev wsX100 : List Cond := u_ws RX10 TX10 29
theorem nmX10 : ∀ a, a < 29 → ∀ b, b < 29 → a ≠ b → (TX10 a).2.1 ≠ (TX10 b).2.1 := by decide +kernel
theorem tyX10_ok : ∀ k, k < 29 → parseFieldDescriptor (TX10 k).2.2.1 = some (tyX10 k) := by decide +kernel
abbrev cX10_init : ByteArray := prog_12_method_1_code
def yX10_init : MethodName := ⟨RX10, "<init>", "()V"⟩
abbrev cX10_thrown : ByteArray := prog_12_method_2_code
def yX10_thrown : MethodName := ⟨RX10, "thrown", "()I"⟩
abbrev cX10_in : ByteArray := prog_12_method_3_code
def yX10_in : MethodName := ⟨RX10, "in", "(III)Z"⟩
abbrev cX10_plain : ByteArray := prog_12_method_4_code
def yX10_plain : MethodName := ⟨RX10, "plain", "(I)I"⟩
abbrev cX10_checked : ByteArray := prog_12_method_5_code
def yX10_checked : MethodName := ⟨RX10, "checked", "(Z)I"⟩
abbrev cX10_isRoom : ByteArray := prog_12_method_6_code
def yX10_isRoom : MethodName := ⟨RX10, "isRoom", "(I)Z"⟩
abbrev cX10_isWork : ByteArray := prog_12_method_7_code
def yX10_isWork : MethodName := ⟨RX10, "isWork", "(I)Z"⟩
abbrev cX10_isExhibition : ByteArray := prog_12_method_8_code
def yX10_isExhibition : MethodName := ⟨RX10, "isExhibition", "(I)Z"⟩
abbrev cX10_addRoom : ByteArray := prog_12_method_9_code
def yX10_addRoom : MethodName := ⟨RX10, "addRoom", "(IIII)I"⟩
abbrev cX10_hangsWhere : ByteArray := prog_12_method_10_code
def yX10_hangsWhere : MethodName := ⟨RX10, "hangsWhere", "(II)Z"⟩
abbrev cX10_isSpoiled : ByteArray := prog_12_method_11_code
def yX10_isSpoiled : MethodName := ⟨RX10, "isSpoiled", "(I)Z"⟩
abbrev cX10_setClimate : ByteArray := prog_12_method_12_code
def yX10_setClimate : MethodName := ⟨RX10, "setClimate", "(III)I"⟩
abbrev cX10_addLender : ByteArray := prog_12_method_13_code
def yX10_addLender : MethodName := ⟨RX10, "addLender", "(III)I"⟩
abbrev cX10_addWork : ByteArray := prog_12_method_14_code
def yX10_addWork : MethodName := ⟨RX10, "addWork", "(IIIIII)I"⟩
abbrev cX10_areAtOnce : ByteArray := prog_12_method_15_code
def yX10_areAtOnce : MethodName := ⟨RX10, "areAtOnce", "(II)Z"⟩
abbrev cX10_isBroken : ByteArray := prog_12_method_16_code
def yX10_isBroken : MethodName := ⟨RX10, "isBroken", "(III)Z"⟩
abbrev cX10_areBroken : ByteArray := prog_12_method_17_code
def yX10_areBroken : MethodName := ⟨RX10, "areBroken", "(IIIII)Z"⟩
abbrev cX10_wouldBreak : ByteArray := prog_12_method_18_code
def yX10_wouldBreak : MethodName := ⟨RX10, "wouldBreak", "(III)Z"⟩
abbrev cX10_separate : ByteArray := prog_12_method_19_code
def yX10_separate : MethodName := ⟨RX10, "separate", "(IIC)I"⟩
abbrev cX10_rooms : ByteArray := prog_12_method_20_code
def yX10_rooms : MethodName := ⟨RX10, "rooms", "()I"⟩
abbrev cX10_works : ByteArray := prog_12_method_21_code
def yX10_works : MethodName := ⟨RX10, "works", "()I"⟩
abbrev cX10_separation : ByteArray := prog_12_method_22_code
def yX10_separation : MethodName := ⟨RX10, "separation", "(II)C"⟩
abbrev cX10_canHang : ByteArray := prog_12_method_23_code
def yX10_canHang : MethodName := ⟨RX10, "canHang", "(II)Z"⟩
abbrev cX10_addExhibition : ByteArray := prog_12_method_24_code
def yX10_addExhibition : MethodName := ⟨RX10, "addExhibition", "(III)I"⟩
abbrev cX10_includes : ByteArray := prog_12_method_25_code
def yX10_includes : MethodName := ⟨RX10, "includes", "(II)Z"⟩
abbrev cX10_include : ByteArray := prog_12_method_26_code
def yX10_include : MethodName := ⟨RX10, "include", "(II)I"⟩
abbrev cX10_travelOf : ByteArray := prog_12_method_27_code
def yX10_travelOf : MethodName := ⟨RX10, "travelOf", "(I)I"⟩
abbrev cX10_isElsewhere : ByteArray := prog_12_method_28_code
def yX10_isElsewhere : MethodName := ⟨RX10, "isElsewhere", "(II)Z"⟩
abbrev cX10_takes : ByteArray := prog_12_method_29_code
def yX10_takes : MethodName := ⟨RX10, "takes", "(II)Z"⟩
abbrev cX10_takenOn : ByteArray := prog_12_method_30_code
def yX10_takenOn : MethodName := ⟨RX10, "takenOn", "(III)I"⟩
abbrev cX10_isTooShort : ByteArray := prog_12_method_31_code
def yX10_isTooShort : MethodName := ⟨RX10, "isTooShort", "(II)Z"⟩
abbrev cX10_breaksOthers : ByteArray := prog_12_method_32_code
def yX10_breaksOthers : MethodName := ⟨RX10, "breaksOthers", "(III)Z"⟩
abbrev cX10_hangs : ByteArray := prog_12_method_33_code
def yX10_hangs : MethodName := ⟨RX10, "hangs", "(II)Z"⟩
abbrev cX10_plans : ByteArray := prog_12_method_34_code
def yX10_plans : MethodName := ⟨RX10, "plans", "(I)Z"⟩
abbrev cX10_settles : ByteArray := prog_12_method_35_code
def yX10_settles : MethodName := ⟨RX10, "settles", "(I)Z"⟩
abbrev cX10_looks : ByteArray := prog_12_method_36_code
def yX10_looks : MethodName := ⟨RX10, "looks", "()I"⟩
abbrev cX10_request : ByteArray := prog_12_method_37_code
def yX10_request : MethodName := ⟨RX10, "request", "(I)C"⟩
abbrev cX10_cancel : ByteArray := prog_12_method_38_code
def yX10_cancel : MethodName := ⟨RX10, "cancel", "(I)I"⟩
abbrev cX10_stateOf : ByteArray := prog_12_method_39_code
def yX10_stateOf : MethodName := ⟨RX10, "stateOf", "(I)C"⟩
abbrev cX10_worksOf : ByteArray := prog_12_method_40_code
def yX10_worksOf : MethodName := ⟨RX10, "worksOf", "(I)I"⟩
abbrev cX10_hasNo : ByteArray := prog_12_method_41_code
def yX10_hasNo : MethodName := ⟨RX10, "hasNo", "(II)Z"⟩
abbrev cX10_workOf : ByteArray := prog_12_method_42_code
def yX10_workOf : MethodName := ⟨RX10, "workOf", "(II)I"⟩
abbrev cX10_wallOf : ByteArray := prog_12_method_43_code
def yX10_wallOf : MethodName := ⟨RX10, "wallOf", "(II)I"⟩
abbrev cX10_canTake : ByteArray := prog_12_method_44_code
def yX10_canTake : MethodName := ⟨RX10, "canTake", "(II)Z"⟩
abbrev cX10_wallFor : ByteArray := prog_12_method_45_code
def yX10_wallFor : MethodName := ⟨RX10, "wallFor", "(II)I"⟩
abbrev cX10_wallForBySearch : ByteArray := prog_12_method_46_code
def yX10_wallForBySearch : MethodName := ⟨RX10, "wallForBySearch", "(II)I"⟩
abbrev cX10_layLoads : ByteArray := prog_12_method_47_code
def yX10_layLoads : MethodName := ⟨RX10, "layLoads", "(II)I"⟩
abbrev cX10_loadOf : ByteArray := prog_12_method_48_code
def yX10_loadOf : MethodName := ⟨RX10, "loadOf", "(I)I"⟩
abbrev cX10_leastTrips : ByteArray := prog_12_method_49_code
def yX10_leastTrips : MethodName := ⟨RX10, "leastTrips", "(II)I"⟩
abbrev cX10_trips : ByteArray := prog_12_method_50_code
def yX10_trips : MethodName := ⟨RX10, "trips", "(II)I"⟩
abbrev cX10_tripsByTrying : ByteArray := prog_12_method_51_code
def yX10_tripsByTrying : MethodName := ⟨RX10, "tripsByTrying", "(II)I"⟩
abbrev cX10_isOff : ByteArray := prog_12_method_52_code
def yX10_isOff : MethodName := ⟨RX10, "isOff", "(II)Z"⟩
abbrev cX10_taken : ByteArray := prog_12_method_53_code
def yX10_taken : MethodName := ⟨RX10, "taken", "(II)I"⟩
abbrev cX10_hanging : ByteArray := prog_12_method_54_code
def yX10_hanging : MethodName := ⟨RX10, "hanging", "(II)I"⟩
abbrev cX10_awayFor : ByteArray := prog_12_method_55_code
def yX10_awayFor : MethodName := ⟨RX10, "awayFor", "(II)I"⟩
abbrev cX10_planned : ByteArray := prog_12_method_56_code
def yX10_planned : MethodName := ⟨RX10, "planned", "()I"⟩
abbrev cX10_insured : ByteArray := prog_12_method_57_code
def yX10_insured : MethodName := ⟨RX10, "insured", "()J"⟩
abbrev cX10_meanWorks : ByteArray := prog_12_method_58_code
def yX10_meanWorks : MethodName := ⟨RX10, "meanWorks", "()D"⟩
abbrev cX10_share : ByteArray := prog_12_method_59_code
def yX10_share : MethodName := ⟨RX10, "share", "(II)F"⟩
abbrev cX10_isRight : ByteArray := prog_12_method_60_code
def yX10_isRight : MethodName := ⟨RX10, "isRight", "(I)Z"⟩
abbrev cX10_isSafe : ByteArray := prog_12_method_61_code
def yX10_isSafe : MethodName := ⟨RX10, "isSafe", "()Z"⟩
def RJx145de : String := "java/io/Serializable"
def TJx145de : u_T := fun k => match k with
  | _ => ("", "", "", false)
def tyJx145de : Nat → FieldType := fun k => match k with
  | _ => .int
abbrev wsJx145de0 : List Cond := u_ws RJx145de TJx145de 0
theorem nmJx145de : ∀ a, a < 0 → ∀ b, b < 0 → a ≠ b → (TJx145de a).2.1 ≠ (TJx145de b).2.1 := by decide +kernel
theorem tyJx145de_ok : ∀ k, k < 0 → parseFieldDescriptor (TJx145de k).2.2.1 = some (tyJx145de k) := by decide +kernel
def RJx00060 : String := "java/lang/ArrayIndexOutOfBoundsException"
def TJx00060 : u_T := fun k => match k with
  | 0 => ("java/lang/Throwable", "backtrace", "Ljava/lang/Object;", false)
  | 1 => ("java/lang/Throwable", "detailMessage", "Ljava/lang/String;", false)
  | 2 => ("java/lang/Throwable", "cause", "Ljava/lang/Throwable;", false)
  | 3 => ("java/lang/Throwable", "stackTrace", "[Ljava/lang/StackTraceElement;", false)
  | 4 => ("java/lang/Throwable", "depth", "I", false)
  | _ => ("java/lang/Throwable", "suppressedExceptions", "Ljava/util/List;", false)
def tyJx00060 : Nat → FieldType := fun k => match k with
  | 0 => .object "java/lang/Object"
  | 1 => .object "java/lang/String"
  | 2 => .object "java/lang/Throwable"
  | 3 => .array (.object "java/lang/StackTraceElement")
  | 4 => .int
  | _ => .object "java/util/List"
abbrev wsJx000600 : List Cond := u_ws RJx00060 TJx00060 6
theorem nmJx00060 : ∀ a, a < 6 → ∀ b, b < 6 → a ≠ b → (TJx00060 a).2.1 ≠ (TJx00060 b).2.1 := by decide +kernel
theorem tyJx00060_ok : ∀ k, k < 6 → parseFieldDescriptor (TJx00060 k).2.2.1 = some (tyJx00060 k) := by decide +kernel
abbrev cJx00060_init_a7421 : ByteArray := prog_15_method_2_code
def yJx00060_init_a7421 : MethodName := ⟨RJx00060, "<init>", "(Ljava/lang/String;)V"⟩
def RJx8e188 : String := "java/lang/Cloneable"
def TJx8e188 : u_T := fun k => match k with
  | _ => ("", "", "", false)
def tyJx8e188 : Nat → FieldType := fun k => match k with
  | _ => .int
abbrev wsJx8e1880 : List Cond := u_ws RJx8e188 TJx8e188 0
theorem nmJx8e188 : ∀ a, a < 0 → ∀ b, b < 0 → a ≠ b → (TJx8e188 a).2.1 ≠ (TJx8e188 b).2.1 := by decide +kernel
theorem tyJx8e188_ok : ∀ k, k < 0 → parseFieldDescriptor (TJx8e188 k).2.2.1 = some (tyJx8e188 k) := by decide +kernel
def RJxab1ab : String := "java/lang/Iterable"
def TJxab1ab : u_T := fun k => match k with
  | _ => ("", "", "", false)
def tyJxab1ab : Nat → FieldType := fun k => match k with
  | _ => .int
abbrev wsJxab1ab0 : List Cond := u_ws RJxab1ab TJxab1ab 0
theorem nmJxab1ab : ∀ a, a < 0 → ∀ b, b < 0 → a ≠ b → (TJxab1ab a).2.1 ≠ (TJxab1ab b).2.1 := by decide +kernel
theorem tyJxab1ab_ok : ∀ k, k < 0 → parseFieldDescriptor (TJxab1ab k).2.2.1 = some (tyJxab1ab k) := by decide +kernel
def RJ9 : String := "java/lang/Math"
def TJ9 : u_T := fun k => match k with
  | _ => ("", "", "", false)
def tyJ9 : Nat → FieldType := fun k => match k with
  | _ => .int
abbrev wsJ90 : List Cond := u_ws RJ9 TJ9 0
theorem nmJ9 : ∀ a, a < 0 → ∀ b, b < 0 → a ≠ b → (TJ9 a).2.1 ≠ (TJ9 b).2.1 := by decide +kernel
theorem tyJ9_ok : ∀ k, k < 0 → parseFieldDescriptor (TJ9 k).2.2.1 = some (tyJ9 k) := by decide +kernel
abbrev cJ9_max_7cf53 : ByteArray := prog_22_method_65_code
def yJ9_max_7cf53 : MethodName := ⟨RJ9, "max", "(II)I"⟩
abbrev cJ9_min_7cf53 : ByteArray := prog_22_method_69_code
def yJ9_min_7cf53 : MethodName := ⟨RJ9, "min", "(II)I"⟩
def RJ0 : String := "java/lang/String"
def TJ0 : u_T := fun k => match k with
  | 0 => ("java/lang/String", "value", "[B", true)
  | _ => ("java/lang/String", "coder", "B", true)
def tyJ0 : Nat → FieldType := fun k => match k with
  | 0 => .array .byte
  | _ => .byte
abbrev wsJ00 : List Cond := u_ws RJ0 TJ0 2
theorem nmJ0 : ∀ a, a < 2 → ∀ b, b < 2 → a ≠ b → (TJ0 a).2.1 ≠ (TJ0 b).2.1 := by decide +kernel
theorem tyJ0_ok : ∀ k, k < 2 → parseFieldDescriptor (TJ0 k).2.2.1 = some (tyJ0 k) := by decide +kernel
def RJ10 : String := "java/lang/System"
def TJ10 : u_T := fun k => match k with
  | _ => ("", "", "", false)
def tyJ10 : Nat → FieldType := fun k => match k with
  | _ => .int
abbrev wsJ100 : List Cond := u_ws RJ10 TJ10 0
theorem nmJ10 : ∀ a, a < 0 → ∀ b, b < 0 → a ≠ b → (TJ10 a).2.1 ≠ (TJ10 b).2.1 := by decide +kernel
theorem tyJ10_ok : ∀ k, k < 0 → parseFieldDescriptor (TJ10 k).2.2.1 = some (tyJ10 k) := by decide +kernel
def RJxa1e45 : String := "java/util/AbstractCollection"
def TJxa1e45 : u_T := fun k => match k with
  | _ => ("", "", "", false)
def tyJxa1e45 : Nat → FieldType := fun k => match k with
  | _ => .int
abbrev wsJxa1e450 : List Cond := u_ws RJxa1e45 TJxa1e45 0
theorem nmJxa1e45 : ∀ a, a < 0 → ∀ b, b < 0 → a ≠ b → (TJxa1e45 a).2.1 ≠ (TJxa1e45 b).2.1 := by decide +kernel
theorem tyJxa1e45_ok : ∀ k, k < 0 → parseFieldDescriptor (TJxa1e45 k).2.2.1 = some (tyJxa1e45 k) := by decide +kernel
abbrev cJxa1e45_init_da8c8 : ByteArray := prog_28_method_1_code
def yJxa1e45_init_da8c8 : MethodName := ⟨RJxa1e45, "<init>", "()V"⟩
def RJxc12de : String := "java/util/AbstractList"
def TJxc12de : u_T := fun k => match k with
  | _ => ("", "", "", false)
def tyJxc12de : Nat → FieldType := fun k => match k with
  | _ => .int
abbrev wsJxc12de0 : List Cond := u_ws RJxc12de TJxc12de 0
theorem nmJxc12de : ∀ a, a < 0 → ∀ b, b < 0 → a ≠ b → (TJxc12de a).2.1 ≠ (TJxc12de b).2.1 := by decide +kernel
theorem tyJxc12de_ok : ∀ k, k < 0 → parseFieldDescriptor (TJxc12de k).2.2.1 = some (tyJxc12de k) := by decide +kernel
abbrev cJxc12de_init_da8c8 : ByteArray := prog_29_method_1_code
def yJxc12de_init_da8c8 : MethodName := ⟨RJxc12de, "<init>", "()V"⟩
def RJx4a65c : String := "java/util/ArrayList"
def TJx4a65c : u_T := fun k => match k with
  | 0 => ("java/util/AbstractList", "modCount", "I", false)
  | 1 => ("java/util/ArrayList", "elementData", "[Ljava/lang/Object;", false)
  | _ => ("java/util/ArrayList", "size", "I", false)
def tyJx4a65c : Nat → FieldType := fun k => match k with
  | 0 => .int
  | 1 => .array (.object "java/lang/Object")
  | _ => .int
abbrev wsJx4a65c0 : List Cond := u_ws RJx4a65c TJx4a65c 3
theorem nmJx4a65c : ∀ a, a < 3 → ∀ b, b < 3 → a ≠ b → (TJx4a65c a).2.1 ≠ (TJx4a65c b).2.1 := by decide +kernel
theorem tyJx4a65c_ok : ∀ k, k < 3 → parseFieldDescriptor (TJx4a65c k).2.2.1 = some (tyJx4a65c k) := by decide +kernel
abbrev cJx4a65c_init_da8c8 : ByteArray := prog_30_method_2_code
def yJx4a65c_init_da8c8 : MethodName := ⟨RJx4a65c, "<init>", "()V"⟩
abbrev cJx4a65c_grow_92f84 : ByteArray := prog_30_method_6_code
def yJx4a65c_grow_92f84 : MethodName := ⟨RJx4a65c, "grow", "(I)[Ljava/lang/Object;"⟩
abbrev cJx4a65c_grow_d5877 : ByteArray := prog_30_method_7_code
def yJx4a65c_grow_d5877 : MethodName := ⟨RJx4a65c, "grow", "()[Ljava/lang/Object;"⟩
abbrev cJx4a65c_size_8abf5 : ByteArray := prog_30_method_8_code
def yJx4a65c_size_8abf5 : MethodName := ⟨RJx4a65c, "size", "()I"⟩
abbrev cJx4a65c_isEmpty_aae02 : ByteArray := prog_30_method_9_code
def yJx4a65c_isEmpty_aae02 : MethodName := ⟨RJx4a65c, "isEmpty", "()Z"⟩
abbrev cJx4a65c_elementData_915e3 : ByteArray := prog_30_method_18_code
def yJx4a65c_elementData_915e3 : MethodName := ⟨RJx4a65c, "elementData", "(I)Ljava/lang/Object;"⟩
abbrev cJx4a65c_get_915e3 : ByteArray := prog_30_method_20_code
def yJx4a65c_get_915e3 : MethodName := ⟨RJx4a65c, "get", "(I)Ljava/lang/Object;"⟩
abbrev cJx4a65c_add_72be8 : ByteArray := prog_30_method_24_code
def yJx4a65c_add_72be8 : MethodName := ⟨RJx4a65c, "add", "(Ljava/lang/Object;[Ljava/lang/Object;I)V"⟩
abbrev cJx4a65c_add_9ea2d : ByteArray := prog_30_method_25_code
def yJx4a65c_add_9ea2d : MethodName := ⟨RJx4a65c, "add", "(Ljava/lang/Object;)Z"⟩
def RJ7 : String := "java/util/Arrays"
def TJ7 : u_T := fun k => match k with
  | _ => ("", "", "", false)
def tyJ7 : Nat → FieldType := fun k => match k with
  | _ => .int
abbrev wsJ70 : List Cond := u_ws RJ7 TJ7 0
theorem nmJ7 : ∀ a, a < 0 → ∀ b, b < 0 → a ≠ b → (TJ7 a).2.1 ≠ (TJ7 b).2.1 := by decide +kernel
theorem tyJ7_ok : ∀ k, k < 0 → parseFieldDescriptor (TJ7 k).2.2.1 = some (tyJ7 k) := by decide +kernel
abbrev cJ7_copyOf_1904c : ByteArray := prog_31_method_119_code
def yJ7_copyOf_1904c : MethodName := ⟨RJ7, "copyOf", "([Ljava/lang/Object;I)[Ljava/lang/Object;"⟩
abbrev cJ7_copyOf_6403c : ByteArray := prog_31_method_120_code
def yJ7_copyOf_6403c : MethodName := ⟨RJ7, "copyOf", "([Ljava/lang/Object;ILjava/lang/Class;)[Ljava/lang/Object;"⟩
def RJx5ef63 : String := "java/util/Collection"
def TJx5ef63 : u_T := fun k => match k with
  | _ => ("", "", "", false)
def tyJx5ef63 : Nat → FieldType := fun k => match k with
  | _ => .int
abbrev wsJx5ef630 : List Cond := u_ws RJx5ef63 TJx5ef63 0
theorem nmJx5ef63 : ∀ a, a < 0 → ∀ b, b < 0 → a ≠ b → (TJx5ef63 a).2.1 ≠ (TJx5ef63 b).2.1 := by decide +kernel
theorem tyJx5ef63_ok : ∀ k, k < 0 → parseFieldDescriptor (TJx5ef63 k).2.2.1 = some (tyJx5ef63 k) := by decide +kernel
def RJxbd725 : String := "java/util/List"
def TJxbd725 : u_T := fun k => match k with
  | _ => ("", "", "", false)
def tyJxbd725 : Nat → FieldType := fun k => match k with
  | _ => .int
abbrev wsJxbd7250 : List Cond := u_ws RJxbd725 TJxbd725 0
theorem nmJxbd725 : ∀ a, a < 0 → ∀ b, b < 0 → a ≠ b → (TJxbd725 a).2.1 ≠ (TJxbd725 b).2.1 := by decide +kernel
theorem tyJxbd725_ok : ∀ k, k < 0 → parseFieldDescriptor (TJxbd725 k).2.2.1 = some (tyJxbd725 k) := by decide +kernel
def RJ15 : String := "java/util/Objects"
def TJ15 : u_T := fun k => match k with
  | _ => ("", "", "", false)
def tyJ15 : Nat → FieldType := fun k => match k with
  | _ => .int
abbrev wsJ150 : List Cond := u_ws RJ15 TJ15 0
theorem nmJ15 : ∀ a, a < 0 → ∀ b, b < 0 → a ≠ b → (TJ15 a).2.1 ≠ (TJ15 b).2.1 := by decide +kernel
theorem tyJ15_ok : ∀ k, k < 0 → parseFieldDescriptor (TJ15 k).2.2.1 = some (tyJ15 k) := by decide +kernel
abbrev cJ15_checkIndex_7cf53 : ByteArray := prog_35_method_17_code
def yJ15_checkIndex_7cf53 : MethodName := ⟨RJ15, "checkIndex", "(II)I"⟩
def RJxf0a74 : String := "java/util/RandomAccess"
def TJxf0a74 : u_T := fun k => match k with
  | _ => ("", "", "", false)
def tyJxf0a74 : Nat → FieldType := fun k => match k with
  | _ => .int
abbrev wsJxf0a740 : List Cond := u_ws RJxf0a74 TJxf0a74 0
theorem nmJxf0a74 : ∀ a, a < 0 → ∀ b, b < 0 → a ≠ b → (TJxf0a74 a).2.1 ≠ (TJxf0a74 b).2.1 := by decide +kernel
theorem tyJxf0a74_ok : ∀ k, k < 0 → parseFieldDescriptor (TJxf0a74 k).2.2.1 = some (tyJxf0a74 k) := by decide +kernel
def RJxa66e6 : String := "java/util/SequencedCollection"
def TJxa66e6 : u_T := fun k => match k with
  | _ => ("", "", "", false)
def tyJxa66e6 : Nat → FieldType := fun k => match k with
  | _ => .int
abbrev wsJxa66e60 : List Cond := u_ws RJxa66e6 TJxa66e6 0
theorem nmJxa66e6 : ∀ a, a < 0 → ∀ b, b < 0 → a ≠ b → (TJxa66e6 a).2.1 ≠ (TJxa66e6 b).2.1 := by decide +kernel
theorem tyJxa66e6_ok : ∀ k, k < 0 → parseFieldDescriptor (TJxa66e6 k).2.2.1 = some (tyJxa66e6 k) := by decide +kernel
def RJ8 : String := "jdk/internal/util/ArraysSupport"
def TJ8 : u_T := fun k => match k with
  | _ => ("", "", "", false)
def tyJ8 : Nat → FieldType := fun k => match k with
  | _ => .int
abbrev wsJ80 : List Cond := u_ws RJ8 TJ8 0
theorem nmJ8 : ∀ a, a < 0 → ∀ b, b < 0 → a ≠ b → (TJ8 a).2.1 ≠ (TJ8 b).2.1 := by decide +kernel
theorem tyJ8_ok : ∀ k, k < 0 → parseFieldDescriptor (TJ8 k).2.2.1 = some (tyJ8 k) := by decide +kernel
abbrev cJ8_newLength_cabcc : ByteArray := prog_38_method_27_code
def yJ8_newLength_cabcc : MethodName := ⟨RJ8, "newLength", "(III)I"⟩
abbrev cJ8_hugeLength_7cf53 : ByteArray := prog_38_method_28_code
def yJ8_hugeLength_7cf53 : MethodName := ⟨RJ8, "hugeLength", "(II)I"⟩
def RJ3 : String := "jdk/internal/util/Preconditions"
def TJ3 : u_T := fun k => match k with
  | _ => ("", "", "", false)
def tyJ3 : Nat → FieldType := fun k => match k with
  | _ => .int
abbrev wsJ30 : List Cond := u_ws RJ3 TJ3 0
theorem nmJ3 : ∀ a, a < 0 → ∀ b, b < 0 → a ≠ b → (TJ3 a).2.1 ≠ (TJ3 b).2.1 := by decide +kernel
theorem tyJ3_ok : ∀ k, k < 0 → parseFieldDescriptor (TJ3 k).2.2.1 = some (tyJ3 k) := by decide +kernel
abbrev cJ3_checkIndex_8e157 : ByteArray := prog_39_method_11_code
def yJ3_checkIndex_8e157 : MethodName := ⟨RJ3, "checkIndex", "(IILjava/util/function/BiFunction;)I"⟩
def RL : String := "LoggiaPlannerLaw"
abbrev cL_addRoom : ByteArray := method_3_code
def yL_addRoom : MethodName := ⟨RL, "addRoom", "(LLoggiaPlanner;IIII[J)I"⟩
abbrev cL_setClimate : ByteArray := method_4_code
def yL_setClimate : MethodName := ⟨RL, "setClimate", "(LLoggiaPlanner;III[J)I"⟩
abbrev cL_addLender : ByteArray := method_5_code
def yL_addLender : MethodName := ⟨RL, "addLender", "(LLoggiaPlanner;III[J)I"⟩
abbrev cL_addWork : ByteArray := method_6_code
def yL_addWork : MethodName := ⟨RL, "addWork", "(LLoggiaPlanner;IIIIII[J)I"⟩
abbrev cL_separate : ByteArray := method_7_code
def yL_separate : MethodName := ⟨RL, "separate", "(LLoggiaPlanner;IIC[J)I"⟩
abbrev cL_separation : ByteArray := method_8_code
def yL_separation : MethodName := ⟨RL, "separation", "(LLoggiaPlanner;II[J)I"⟩
abbrev cL_canHang : ByteArray := method_9_code
def yL_canHang : MethodName := ⟨RL, "canHang", "(LLoggiaPlanner;II[J)I"⟩
abbrev cL_addExhibition : ByteArray := method_10_code
def yL_addExhibition : MethodName := ⟨RL, "addExhibition", "(LLoggiaPlanner;III[J)I"⟩
abbrev cL_include : ByteArray := method_11_code
def yL_include : MethodName := ⟨RL, "include", "(LLoggiaPlanner;II[J)I"⟩
abbrev cL_request : ByteArray := method_12_code
def yL_request : MethodName := ⟨RL, "request", "(LLoggiaPlanner;I[J)I"⟩
abbrev cL_cancel : ByteArray := method_13_code
def yL_cancel : MethodName := ⟨RL, "cancel", "(LLoggiaPlanner;I[J)I"⟩
abbrev cL_stateOf : ByteArray := method_14_code
def yL_stateOf : MethodName := ⟨RL, "stateOf", "(LLoggiaPlanner;I[J)I"⟩
abbrev cL_worksOf : ByteArray := method_15_code
def yL_worksOf : MethodName := ⟨RL, "worksOf", "(LLoggiaPlanner;I[J)I"⟩
abbrev cL_workOf : ByteArray := method_16_code
def yL_workOf : MethodName := ⟨RL, "workOf", "(LLoggiaPlanner;II[J)I"⟩
abbrev cL_wallOf : ByteArray := method_17_code
def yL_wallOf : MethodName := ⟨RL, "wallOf", "(LLoggiaPlanner;II[J)I"⟩
abbrev cL_canTake : ByteArray := method_18_code
def yL_canTake : MethodName := ⟨RL, "canTake", "(LLoggiaPlanner;II[J)I"⟩
abbrev cL_wallFor : ByteArray := method_19_code
def yL_wallFor : MethodName := ⟨RL, "wallFor", "(LLoggiaPlanner;II[J)I"⟩
abbrev cL_wallForBySearch : ByteArray := method_20_code
def yL_wallForBySearch : MethodName := ⟨RL, "wallForBySearch", "(LLoggiaPlanner;II[J)I"⟩
abbrev cL_trips : ByteArray := method_21_code
def yL_trips : MethodName := ⟨RL, "trips", "(LLoggiaPlanner;II[J)I"⟩
abbrev cL_tripsByTrying : ByteArray := method_22_code
def yL_tripsByTrying : MethodName := ⟨RL, "tripsByTrying", "(LLoggiaPlanner;II[J)I"⟩
abbrev cL_taken : ByteArray := method_23_code
def yL_taken : MethodName := ⟨RL, "taken", "(LLoggiaPlanner;II[J)I"⟩
abbrev cL_hanging : ByteArray := method_24_code
def yL_hanging : MethodName := ⟨RL, "hanging", "(LLoggiaPlanner;II[J)I"⟩
abbrev cL_awayFor : ByteArray := method_25_code
def yL_awayFor : MethodName := ⟨RL, "awayFor", "(LLoggiaPlanner;II[J)I"⟩
abbrev cL_meanWorks : ByteArray := method_26_code
def yL_meanWorks : MethodName := ⟨RL, "meanWorks", "(LLoggiaPlanner;[D)I"⟩
abbrev cL_share : ByteArray := method_27_code
def yL_share : MethodName := ⟨RL, "share", "(LLoggiaPlanner;II[D)I"⟩
abbrev cL_law : ByteArray := code
def yL_law : MethodName := ⟨RL, "law", "([I)Z"⟩
abbrev vwCl : List vw_C := [(RJ0, TJ0, 2), (RJx00060, TJx00060, 6), (RJx4a65c, TJx4a65c, 3), (RX0, TX0, 7), (RX1, TX1, 1), (RX2, TX2, 7), (RX3, TX3, 1), (RX4, TX4, 4), (RX5, TX5, 5), (RX6, TX6, 4), (RX7, TX7, 1), (RX8, TX8, 7), (RX9, TX9, 8), (RX10, TX10, 29)]
