/-! ===== BEGIN printed: names, fields, word lists, decode rows ===== -/
def RX0 : String := "StandingsHall$Entrant"
def TX0 : u_T := fun k => match k with
  | 0 => ("StandingsHall$Entrant", "number", "I", false)
  | 1 => ("StandingsHall$Entrant", "group", "I", true)
  | 2 => ("StandingsHall$Entrant", "isThere", "Z", false)
  | 3 => ("StandingsHall$Entrant", "scores", "[I", true)
  | 4 => ("StandingsHall$Entrant", "merits", "[I", true)
  | 5 => ("StandingsHall$Entrant", "place", "I", false)
  | 6 => ("StandingsHall$Entrant", "gained", "I", false)
  | 7 => ("StandingsHall$Entrant", "gains", "[I", true)
  | 8 => ("StandingsHall$Entrant", "places", "[I", true)
  | 9 => ("StandingsHall$Entrant", "entered", "I", false)
  | _ => ("StandingsHall$Entrant", "played", "I", false)
def tyX0 : Nat → FieldType := fun k => match k with
  | 0 => .int
  | 1 => .int
  | 2 => .boolean
  | 3 => .array .int
  | 4 => .array .int
  | 5 => .int
  | 6 => .int
  | 7 => .array .int
  | 8 => .array .int
  | 9 => .int
  | _ => .int
abbrev wsX00 : List Cond := u_ws RX0 TX0 11
theorem nmX0 : ∀ a, a < 11 → ∀ b, b < 11 → a ≠ b → (TX0 a).2.1 ≠ (TX0 b).2.1 := by decide +kernel
theorem tyX0_ok : ∀ k, k < 11 → parseFieldDescriptor (TX0 k).2.2.1 = some (tyX0 k) := by decide +kernel
abbrev cX0_init : ByteArray := prog_2_method_1_code
def yX0_init : MethodName := ⟨RX0, "<init>", "(II)V"⟩
abbrev cX0_points : ByteArray := prog_2_method_2_code
def yX0_points : MethodName := ⟨RX0, "points", "()I"⟩
abbrev cX0_scoreIn : ByteArray := prog_2_method_3_code
def yX0_scoreIn : MethodName := ⟨RX0, "scoreIn", "(I)I"⟩
abbrev cX0_putScore : ByteArray := prog_2_method_4_code
def yX0_putScore : MethodName := ⟨RX0, "putScore", "(II)V"⟩
abbrev cX0_isBetterThan : ByteArray := prog_2_method_5_code
def yX0_isBetterThan : MethodName := ⟨RX0, "isBetterThan", "(LStandingsHall$Entrant;)Z"⟩
abbrev cX0_isAlikeWith : ByteArray := prog_2_method_6_code
def yX0_isAlikeWith : MethodName := ⟨RX0, "isAlikeWith", "(LStandingsHall$Entrant;)Z"⟩
abbrev cX0_isAheadOf : ByteArray := prog_2_method_7_code
def yX0_isAheadOf : MethodName := ⟨RX0, "isAheadOf", "(LStandingsHall$Entrant;)Z"⟩
abbrev cX0_keepRound : ByteArray := prog_2_method_8_code
def yX0_keepRound : MethodName := ⟨RX0, "keepRound", "(I)V"⟩
abbrev cX0_gainIn : ByteArray := prog_2_method_9_code
def yX0_gainIn : MethodName := ⟨RX0, "gainIn", "(I)I"⟩
abbrev cX0_placeIn : ByteArray := prog_2_method_10_code
def yX0_placeIn : MethodName := ⟨RX0, "placeIn", "(I)I"⟩
def RX1 : String := "StandingsHall$Ladder"
def TX1 : u_T := fun k => match k with
  | 0 => ("StandingsHall$Ladder", "row", "Ljava/util/ArrayList;", true)
  | 1 => ("StandingsHall$Ladder", "reach", "I", false)
  | _ => ("StandingsHall$Ladder", "patience", "I", false)
def tyX1 : Nat → FieldType := fun k => match k with
  | 0 => .object "java/util/ArrayList"
  | 1 => .int
  | _ => .int
abbrev wsX10 : List Cond := u_ws RX1 TX1 3
theorem nmX1 : ∀ a, a < 3 → ∀ b, b < 3 → a ≠ b → (TX1 a).2.1 ≠ (TX1 b).2.1 := by decide +kernel
theorem tyX1_ok : ∀ k, k < 3 → parseFieldDescriptor (TX1 k).2.2.1 = some (tyX1 k) := by decide +kernel
abbrev cX1_init : ByteArray := prog_3_method_1_code
def yX1_init : MethodName := ⟨RX1, "<init>", "()V"⟩
abbrev cX1_put : ByteArray := prog_3_method_2_code
def yX1_put : MethodName := ⟨RX1, "put", "(LStandingsHall$Entrant;I)V"⟩
abbrev cX1_take : ByteArray := prog_3_method_3_code
def yX1_take : MethodName := ⟨RX1, "take", "(LStandingsHall$Entrant;)V"⟩
abbrev cX1_placeIn : ByteArray := prog_3_method_4_code
def yX1_placeIn : MethodName := ⟨RX1, "placeIn", "(LStandingsHall$Entrant;)I"⟩
abbrev cX1_raise : ByteArray := prog_3_method_5_code
def yX1_raise : MethodName := ⟨RX1, "raise", "(II)V"⟩
abbrev cX1_letFall : ByteArray := prog_3_method_6_code
def yX1_letFall : MethodName := ⟨RX1, "letFall", "(I)V"⟩
def RX2 : String := "StandingsHall$Order"
def TX2 : u_T := fun k => match k with
  | 0 => ("StandingsHall$Order", "factors", "[I", true)
  | 1 => ("StandingsHall$Order", "signs", "[I", true)
  | _ => ("StandingsHall$Order", "count", "I", false)
def tyX2 : Nat → FieldType := fun k => match k with
  | 0 => .array .int
  | 1 => .array .int
  | _ => .int
abbrev wsX20 : List Cond := u_ws RX2 TX2 3
theorem nmX2 : ∀ a, a < 3 → ∀ b, b < 3 → a ≠ b → (TX2 a).2.1 ≠ (TX2 b).2.1 := by decide +kernel
theorem tyX2_ok : ∀ k, k < 3 → parseFieldDescriptor (TX2 k).2.2.1 = some (tyX2 k) := by decide +kernel
abbrev cX2_init : ByteArray := prog_4_method_1_code
def yX2_init : MethodName := ⟨RX2, "<init>", "()V"⟩
abbrev cX2_empty : ByteArray := prog_4_method_2_code
def yX2_empty : MethodName := ⟨RX2, "empty", "()V"⟩
abbrev cX2_begin : ByteArray := prog_4_method_3_code
def yX2_begin : MethodName := ⟨RX2, "begin", "(II)V"⟩
abbrev cX2_addTerm : ByteArray := prog_4_method_4_code
def yX2_addTerm : MethodName := ⟨RX2, "addTerm", "(III)V"⟩
abbrev cX2_isCriterion : ByteArray := prog_4_method_5_code
def yX2_isCriterion : MethodName := ⟨RX2, "isCriterion", "(I)Z"⟩
abbrev cX2_valueFor : ByteArray := prog_4_method_6_code
def yX2_valueFor : MethodName := ⟨RX2, "valueFor", "(LStandingsHall$Entrant;I)I"⟩
abbrev cX2_judge : ByteArray := prog_4_method_7_code
def yX2_judge : MethodName := ⟨RX2, "judge", "(LStandingsHall$Entrant;)V"⟩
def RX3 : String := "StandingsHall$OrderReader"
def TX3 : u_T := fun k => match k with
  | 0 => ("StandingsHall$OrderReader", "tape", "LStandingsHall$Tape;", true)
  | 1 => ("StandingsHall$OrderReader", "token", "I", false)
  | 2 => ("StandingsHall$OrderReader", "start", "I", false)
  | 3 => ("StandingsHall$OrderReader", "after", "I", false)
  | 4 => ("StandingsHall$OrderReader", "number", "I", false)
  | _ => ("StandingsHall$OrderReader", "kind", "I", false)
def tyX3 : Nat → FieldType := fun k => match k with
  | 0 => .object "StandingsHall$Tape"
  | 1 => .int
  | 2 => .int
  | 3 => .int
  | 4 => .int
  | _ => .int
abbrev wsX30 : List Cond := u_ws RX3 TX3 6
theorem nmX3 : ∀ a, a < 6 → ∀ b, b < 6 → a ≠ b → (TX3 a).2.1 ≠ (TX3 b).2.1 := by decide +kernel
theorem tyX3_ok : ∀ k, k < 6 → parseFieldDescriptor (TX3 k).2.2.1 = some (tyX3 k) := by decide +kernel
abbrev cX3_init : ByteArray := prog_5_method_1_code
def yX3_init : MethodName := ⟨RX3, "<init>", "(LStandingsHall$Tape;)V"⟩
abbrev cX3_readOrder : ByteArray := prog_5_method_2_code
def yX3_readOrder : MethodName := ⟨RX3, "readOrder", "(LStandingsHall$Order;)Z"⟩
abbrev cX3_readCriterion : ByteArray := prog_5_method_3_code
def yX3_readCriterion : MethodName := ⟨RX3, "readCriterion", "(LStandingsHall$Order;I)Z"⟩
abbrev cX3_readTerm : ByteArray := prog_5_method_4_code
def yX3_readTerm : MethodName := ⟨RX3, "readTerm", "(LStandingsHall$Order;II)Z"⟩
abbrev cX3_readToken : ByteArray := prog_5_method_5_code
def yX3_readToken : MethodName := ⟨RX3, "readToken", "()V"⟩
abbrev cX3_readSign : ByteArray := prog_5_method_6_code
def yX3_readSign : MethodName := ⟨RX3, "readSign", "(I)V"⟩
abbrev cX3_readDigits : ByteArray := prog_5_method_7_code
def yX3_readDigits : MethodName := ⟨RX3, "readDigits", "()V"⟩
abbrev cX3_isSign : ByteArray := prog_5_method_8_code
def yX3_isSign : MethodName := ⟨RX3, "isSign", "(I)Z"⟩
abbrev cX3_isBlank : ByteArray := prog_5_method_9_code
def yX3_isBlank : MethodName := ⟨RX3, "isBlank", "(I)Z"⟩
abbrev cX3_isDigit : ByteArray := prog_5_method_10_code
def yX3_isDigit : MethodName := ⟨RX3, "isDigit", "(I)Z"⟩
def RX4 : String := "StandingsHall$PointsRow"
def TX4 : u_T := fun k => match k with
  | _ => ("StandingsHall$PointsRow", "row", "Ljava/util/ArrayList;", true)
def tyX4 : Nat → FieldType := fun k => match k with
  | _ => .object "java/util/ArrayList"
abbrev wsX40 : List Cond := u_ws RX4 TX4 1
theorem nmX4 : ∀ a, a < 1 → ∀ b, b < 1 → a ≠ b → (TX4 a).2.1 ≠ (TX4 b).2.1 := by decide +kernel
theorem tyX4_ok : ∀ k, k < 1 → parseFieldDescriptor (TX4 k).2.2.1 = some (tyX4 k) := by decide +kernel
abbrev cX4_init : ByteArray := prog_6_method_1_code
def yX4_init : MethodName := ⟨RX4, "<init>", "()V"⟩
abbrev cX4_put : ByteArray := prog_6_method_2_code
def yX4_put : MethodName := ⟨RX4, "put", "(LStandingsHall$Entrant;)V"⟩
abbrev cX4_take : ByteArray := prog_6_method_3_code
def yX4_take : MethodName := ⟨RX4, "take", "(LStandingsHall$Entrant;)V"⟩
abbrev cX4_countBelow : ByteArray := prog_6_method_4_code
def yX4_countBelow : MethodName := ⟨RX4, "countBelow", "(I)I"⟩
abbrev cX4_countUpTo : ByteArray := prog_6_method_5_code
def yX4_countUpTo : MethodName := ⟨RX4, "countUpTo", "(I)I"⟩
abbrev cX4_pointsAt : ByteArray := prog_6_method_6_code
def yX4_pointsAt : MethodName := ⟨RX4, "pointsAt", "(I)I"⟩
def RX5 : String := "StandingsHall$Standing"
def TX5 : u_T := fun k => match k with
  | _ => ("StandingsHall$Standing", "row", "Ljava/util/ArrayList;", true)
def tyX5 : Nat → FieldType := fun k => match k with
  | _ => .object "java/util/ArrayList"
abbrev wsX50 : List Cond := u_ws RX5 TX5 1
theorem nmX5 : ∀ a, a < 1 → ∀ b, b < 1 → a ≠ b → (TX5 a).2.1 ≠ (TX5 b).2.1 := by decide +kernel
theorem tyX5_ok : ∀ k, k < 1 → parseFieldDescriptor (TX5 k).2.2.1 = some (tyX5 k) := by decide +kernel
abbrev cX5_init : ByteArray := prog_7_method_1_code
def yX5_init : MethodName := ⟨RX5, "<init>", "()V"⟩
abbrev cX5_put : ByteArray := prog_7_method_2_code
def yX5_put : MethodName := ⟨RX5, "put", "(LStandingsHall$Entrant;)V"⟩
abbrev cX5_take : ByteArray := prog_7_method_3_code
def yX5_take : MethodName := ⟨RX5, "take", "(LStandingsHall$Entrant;)V"⟩
abbrev cX5_numberPlaces : ByteArray := prog_7_method_4_code
def yX5_numberPlaces : MethodName := ⟨RX5, "numberPlaces", "()V"⟩
abbrev cX5_sharedRank : ByteArray := prog_7_method_5_code
def yX5_sharedRank : MethodName := ⟨RX5, "sharedRank", "(LStandingsHall$Entrant;)I"⟩
abbrev cX5_countAhead : ByteArray := prog_7_method_6_code
def yX5_countAhead : MethodName := ⟨RX5, "countAhead", "(LStandingsHall$Entrant;)I"⟩
abbrev cX5_denseRank : ByteArray := prog_7_method_7_code
def yX5_denseRank : MethodName := ⟨RX5, "denseRank", "(LStandingsHall$Entrant;)I"⟩
abbrev cX5_twiceMeanRank : ByteArray := prog_7_method_8_code
def yX5_twiceMeanRank : MethodName := ⟨RX5, "twiceMeanRank", "(LStandingsHall$Entrant;)I"⟩
abbrev cX5_countAlike : ByteArray := prog_7_method_9_code
def yX5_countAlike : MethodName := ⟨RX5, "countAlike", "(LStandingsHall$Entrant;)I"⟩
abbrev cX5_countResults : ByteArray := prog_7_method_11_code
def yX5_countResults : MethodName := ⟨RX5, "countResults", "()I"⟩
abbrev cX5_beginsResult : ByteArray := prog_7_method_12_code
def yX5_beginsResult : MethodName := ⟨RX5, "beginsResult", "(I)Z"⟩
abbrev cX5_firstPlaceOf : ByteArray := prog_7_method_13_code
def yX5_firstPlaceOf : MethodName := ⟨RX5, "firstPlaceOf", "(I)I"⟩
abbrev cX5_countOf : ByteArray := prog_7_method_14_code
def yX5_countOf : MethodName := ⟨RX5, "countOf", "(I)I"⟩
abbrev cX5_teamSum : ByteArray := prog_7_method_15_code
def yX5_teamSum : MethodName := ⟨RX5, "teamSum", "(I)I"⟩
def RX6 : String := "StandingsHall$Tape"
def TX6 : u_T := fun k => match k with
  | 0 => ("StandingsHall$Tape", "bytes", "[I", true)
  | _ => ("StandingsHall$Tape", "length", "I", false)
def tyX6 : Nat → FieldType := fun k => match k with
  | 0 => .array .int
  | _ => .int
abbrev wsX60 : List Cond := u_ws RX6 TX6 2
theorem nmX6 : ∀ a, a < 2 → ∀ b, b < 2 → a ≠ b → (TX6 a).2.1 ≠ (TX6 b).2.1 := by decide +kernel
theorem tyX6_ok : ∀ k, k < 2 → parseFieldDescriptor (TX6 k).2.2.1 = some (tyX6 k) := by decide +kernel
abbrev cX6_init : ByteArray := prog_8_method_1_code
def yX6_init : MethodName := ⟨RX6, "<init>", "()V"⟩
abbrev cX6_bytesIn : ByteArray := prog_8_method_2_code
def yX6_bytesIn : MethodName := ⟨RX6, "bytesIn", "(I)I"⟩
abbrev cX6_addWord : ByteArray := prog_8_method_3_code
def yX6_addWord : MethodName := ⟨RX6, "addWord", "(I)V"⟩
abbrev cX6_byteAt : ByteArray := prog_8_method_4_code
def yX6_byteAt : MethodName := ⟨RX6, "byteAt", "(I)I"⟩
def RX7 : String := "StandingsHall"
def TX7 : u_T := fun k => match k with
  | 0 => ("StandingsHall", "tape", "LStandingsHall$Tape;", true)
  | 1 => ("StandingsHall", "reader", "LStandingsHall$OrderReader;", true)
  | 2 => ("StandingsHall", "order", "LStandingsHall$Order;", false)
  | 3 => ("StandingsHall", "draft", "LStandingsHall$Order;", false)
  | 4 => ("StandingsHall", "errorPosition", "I", false)
  | 5 => ("StandingsHall", "come", "Ljava/util/ArrayList;", true)
  | 6 => ("StandingsHall", "standing", "LStandingsHall$Standing;", true)
  | 7 => ("StandingsHall", "pointsRow", "LStandingsHall$PointsRow;", true)
  | 8 => ("StandingsHall", "ladder", "LStandingsHall$Ladder;", true)
  | 9 => ("StandingsHall", "over", "I", false)
  | 10 => ("StandingsHall", "trial", "LStandingsHall$Entrant;", true)
  | 11 => ("StandingsHall", "latest", "[I", true)
  | _ => ("StandingsHall", "slots", "[I", true)
def tyX7 : Nat → FieldType := fun k => match k with
  | 0 => .object "StandingsHall$Tape"
  | 1 => .object "StandingsHall$OrderReader"
  | 2 => .object "StandingsHall$Order"
  | 3 => .object "StandingsHall$Order"
  | 4 => .int
  | 5 => .object "java/util/ArrayList"
  | 6 => .object "StandingsHall$Standing"
  | 7 => .object "StandingsHall$PointsRow"
  | 8 => .object "StandingsHall$Ladder"
  | 9 => .int
  | 10 => .object "StandingsHall$Entrant"
  | 11 => .array .int
  | _ => .array .int
abbrev wsX70 : List Cond := u_ws RX7 TX7 13
theorem nmX7 : ∀ a, a < 13 → ∀ b, b < 13 → a ≠ b → (TX7 a).2.1 ≠ (TX7 b).2.1 := by decide +kernel
theorem tyX7_ok : ∀ k, k < 13 → parseFieldDescriptor (TX7 k).2.2.1 = some (tyX7 k) := by decide +kernel
abbrev cX7_init : ByteArray := prog_1_method_1_code
def yX7_init : MethodName := ⟨RX7, "<init>", "()V"⟩
abbrev cX7_append : ByteArray := prog_1_method_2_code
def yX7_append : MethodName := ⟨RX7, "append", "(IIIII)I"⟩
abbrev cX7_setOrder : ByteArray := prog_1_method_4_code
def yX7_setOrder : MethodName := ⟨RX7, "setOrder", "()I"⟩
abbrev cX7_errorPosition : ByteArray := prog_1_method_5_code
def yX7_errorPosition : MethodName := ⟨RX7, "errorPosition", "()I"⟩
abbrev cX7_criterion : ByteArray := prog_1_method_6_code
def yX7_criterion : MethodName := ⟨RX7, "criterion", "(II)I"⟩
abbrev cX7_come : ByteArray := prog_1_method_7_code
def yX7_come : MethodName := ⟨RX7, "come", "(I)I"⟩
abbrev cX7_leave : ByteArray := prog_1_method_8_code
def yX7_leave : MethodName := ⟨RX7, "leave", "(I)I"⟩
abbrev cX7_score : ByteArray := prog_1_method_9_code
def yX7_score : MethodName := ⟨RX7, "score", "(III)I"⟩
abbrev cX7_setScore : ByteArray := prog_1_method_10_code
def yX7_setScore : MethodName := ⟨RX7, "setScore", "(III)I"⟩
abbrev cX7_scoreOf : ByteArray := prog_1_method_11_code
def yX7_scoreOf : MethodName := ⟨RX7, "scoreOf", "(II)I"⟩
abbrev cX7_groupOf : ByteArray := prog_1_method_12_code
def yX7_groupOf : MethodName := ⟨RX7, "groupOf", "(I)I"⟩
abbrev cX7_entrants : ByteArray := prog_1_method_13_code
def yX7_entrants : MethodName := ⟨RX7, "entrants", "()I"⟩
abbrev cX7_at : ByteArray := prog_1_method_14_code
def yX7_at : MethodName := ⟨RX7, "at", "(I)I"⟩
abbrev cX7_place : ByteArray := prog_1_method_15_code
def yX7_place : MethodName := ⟨RX7, "place", "(I)I"⟩
abbrev cX7_rank : ByteArray := prog_1_method_16_code
def yX7_rank : MethodName := ⟨RX7, "rank", "(II)I"⟩
abbrev cX7_alike : ByteArray := prog_1_method_17_code
def yX7_alike : MethodName := ⟨RX7, "alike", "(I)I"⟩
abbrev cX7_results : ByteArray := prog_1_method_18_code
def yX7_results : MethodName := ⟨RX7, "results", "()I"⟩
abbrev cX7_rankSum : ByteArray := prog_1_method_19_code
def yX7_rankSum : MethodName := ⟨RX7, "rankSum", "()I"⟩
abbrev cX7_wouldGain : ByteArray := prog_1_method_20_code
def yX7_wouldGain : MethodName := ⟨RX7, "wouldGain", "(III)I"⟩
abbrev cX7_needed : ByteArray := prog_1_method_21_code
def yX7_needed : MethodName := ⟨RX7, "needed", "(II)I"⟩
abbrev cX7_above : ByteArray := prog_1_method_22_code
def yX7_above : MethodName := ⟨RX7, "above", "(I)I"⟩
abbrev cX7_with : ByteArray := prog_1_method_23_code
def yX7_with : MethodName := ⟨RX7, "with", "(I)I"⟩
abbrev cX7_withAt : ByteArray := prog_1_method_24_code
def yX7_withAt : MethodName := ⟨RX7, "withAt", "(II)I"⟩
abbrev cX7_next : ByteArray := prog_1_method_25_code
def yX7_next : MethodName := ⟨RX7, "next", "(I)I"⟩
abbrev cX7_between : ByteArray := prog_1_method_26_code
def yX7_between : MethodName := ⟨RX7, "between", "(II)I"⟩
abbrev cX7_median : ByteArray := prog_1_method_27_code
def yX7_median : MethodName := ⟨RX7, "median", "(Z)I"⟩
abbrev cX7_quantile : ByteArray := prog_1_method_28_code
def yX7_quantile : MethodName := ⟨RX7, "quantile", "(II)I"⟩
abbrev cX7_enter : ByteArray := prog_1_method_29_code
def yX7_enter : MethodName := ⟨RX7, "enter", "(I)I"⟩
abbrev cX7_challenge : ByteArray := prog_1_method_30_code
def yX7_challenge : MethodName := ⟨RX7, "challenge", "(IIZ)I"⟩
abbrev cX7_mayChallenge : ByteArray := prog_1_method_31_code
def yX7_mayChallenge : MethodName := ⟨RX7, "mayChallenge", "(I)I"⟩
abbrev cX7_setReach : ByteArray := prog_1_method_32_code
def yX7_setReach : MethodName := ⟨RX7, "setReach", "(I)I"⟩
abbrev cX7_setPatience : ByteArray := prog_1_method_33_code
def yX7_setPatience : MethodName := ⟨RX7, "setPatience", "(I)I"⟩
abbrev cX7_ladderAt : ByteArray := prog_1_method_34_code
def yX7_ladderAt : MethodName := ⟨RX7, "ladderAt", "(I)I"⟩
abbrev cX7_ladderPlace : ByteArray := prog_1_method_35_code
def yX7_ladderPlace : MethodName := ⟨RX7, "ladderPlace", "(I)I"⟩
abbrev cX7_endRound : ByteArray := prog_1_method_36_code
def yX7_endRound : MethodName := ⟨RX7, "endRound", "()I"⟩
abbrev cX7_round : ByteArray := prog_1_method_37_code
def yX7_round : MethodName := ⟨RX7, "round", "()I"⟩
abbrev cX7_gain : ByteArray := prog_1_method_38_code
def yX7_gain : MethodName := ⟨RX7, "gain", "(I)I"⟩
abbrev cX7_form : ByteArray := prog_1_method_39_code
def yX7_form : MethodName := ⟨RX7, "form", "(III)I"⟩
abbrev cX7_inForm : ByteArray := prog_1_method_40_code
def yX7_inForm : MethodName := ⟨RX7, "inForm", "(II)I"⟩
abbrev cX7_placeThen : ByteArray := prog_1_method_41_code
def yX7_placeThen : MethodName := ⟨RX7, "placeThen", "(II)I"⟩
abbrev cX7_climb : ByteArray := prog_1_method_42_code
def yX7_climb : MethodName := ⟨RX7, "climb", "(I)I"⟩
abbrev cX7_best : ByteArray := prog_1_method_43_code
def yX7_best : MethodName := ⟨RX7, "best", "(I)I"⟩
abbrev cX7_members : ByteArray := prog_1_method_44_code
def yX7_members : MethodName := ⟨RX7, "members", "(I)I"⟩
abbrev cX7_teamScore : ByteArray := prog_1_method_45_code
def yX7_teamScore : MethodName := ⟨RX7, "teamScore", "(I)I"⟩
abbrev cX7_groupAt : ByteArray := prog_1_method_46_code
def yX7_groupAt : MethodName := ⟨RX7, "groupAt", "(I)I"⟩
abbrev cX7_inversions : ByteArray := prog_1_method_47_code
def yX7_inversions : MethodName := ⟨RX7, "inversions", "(II)I"⟩
abbrev cX7_swaps : ByteArray := prog_1_method_48_code
def yX7_swaps : MethodName := ⟨RX7, "swaps", "(II)I"⟩
abbrev cX7_meanPoints : ByteArray := prog_1_method_49_code
def yX7_meanPoints : MethodName := ⟨RX7, "meanPoints", "()D"⟩
abbrev cX7_errors : ByteArray := prog_1_method_51_code
def yX7_errors : MethodName := ⟨RX7, "errors", "()I"⟩
abbrev cX7_presentOne : ByteArray := prog_1_method_52_code
def yX7_presentOne : MethodName := ⟨RX7, "presentOne", "(I)LStandingsHall$Entrant;"⟩
abbrev cX7_checkGroup : ByteArray := prog_1_method_53_code
def yX7_checkGroup : MethodName := ⟨RX7, "checkGroup", "(I)V"⟩
abbrev cX7_checkKind : ByteArray := prog_1_method_54_code
def yX7_checkKind : MethodName := ⟨RX7, "checkKind", "(I)V"⟩
abbrev cX7_checkScore : ByteArray := prog_1_method_55_code
def yX7_checkScore : MethodName := ⟨RX7, "checkScore", "(J)V"⟩
abbrev cX7_checkSomebodyIsThere : ByteArray := prog_1_method_56_code
def yX7_checkSomebodyIsThere : MethodName := ⟨RX7, "checkSomebodyIsThere", "()V"⟩
abbrev cX7_checkForm : ByteArray := prog_1_method_57_code
def yX7_checkForm : MethodName := ⟨RX7, "checkForm", "(II)V"⟩
abbrev cX7_checkKept : ByteArray := prog_1_method_58_code
def yX7_checkKept : MethodName := ⟨RX7, "checkKept", "(I)V"⟩
abbrev cX7_checkTold : ByteArray := prog_1_method_59_code
def yX7_checkTold : MethodName := ⟨RX7, "checkTold", "(I)V"⟩
abbrev cX7_raisedScore : ByteArray := prog_1_method_60_code
def yX7_raisedScore : MethodName := ⟨RX7, "raisedScore", "(LStandingsHall$Entrant;II)I"⟩
abbrev cX7_changeScore : ByteArray := prog_1_method_61_code
def yX7_changeScore : MethodName := ⟨RX7, "changeScore", "(LStandingsHall$Entrant;II)V"⟩
abbrev cX7_makeStandingAnew : ByteArray := prog_1_method_62_code
def yX7_makeStandingAnew : MethodName := ⟨RX7, "makeStandingAnew", "()V"⟩
abbrev cX7_tryWith : ByteArray := prog_1_method_63_code
def yX7_tryWith : MethodName := ⟨RX7, "tryWith", "(LStandingsHall$Entrant;II)V"⟩
abbrev cX7_rankWith : ByteArray := prog_1_method_64_code
def yX7_rankWith : MethodName := ⟨RX7, "rankWith", "(LStandingsHall$Entrant;I)I"⟩
abbrev cX7_leastNeeded : ByteArray := prog_1_method_65_code
def yX7_leastNeeded : MethodName := ⟨RX7, "leastNeeded", "(LStandingsHall$Entrant;II)I"⟩
abbrev cX7_medianPlace : ByteArray := prog_1_method_66_code
def yX7_medianPlace : MethodName := ⟨RX7, "medianPlace", "(Z)I"⟩
abbrev cX7_formBy : ByteArray := prog_1_method_67_code
def yX7_formBy : MethodName := ⟨RX7, "formBy", "(LStandingsHall$Entrant;II)I"⟩
abbrev cX7_groupRankedAt : ByteArray := prog_1_method_68_code
def yX7_groupRankedAt : MethodName := ⟨RX7, "groupRankedAt", "(I)I"⟩
abbrev cX7_countGroupsAhead : ByteArray := prog_1_method_69_code
def yX7_countGroupsAhead : MethodName := ⟨RX7, "countGroupsAhead", "(I)I"⟩
abbrev cX7_lineUp : ByteArray := prog_1_method_70_code
def yX7_lineUp : MethodName := ⟨RX7, "lineUp", "(II)I"⟩
abbrev cX7_placeAt : ByteArray := prog_1_method_71_code
def yX7_placeAt : MethodName := ⟨RX7, "placeAt", "(LStandingsHall$Entrant;I)I"⟩
abbrev cX7_swapNeighbours : ByteArray := prog_1_method_72_code
def yX7_swapNeighbours : MethodName := ⟨RX7, "swapNeighbours", "(I)I"⟩
abbrev cX7_wrongPlaces : ByteArray := prog_1_method_73_code
def yX7_wrongPlaces : MethodName := ⟨RX7, "wrongPlaces", "()I"⟩
abbrev cX7_wrongPoints : ByteArray := prog_1_method_74_code
def yX7_wrongPoints : MethodName := ⟨RX7, "wrongPoints", "()I"⟩
abbrev cX7_isFirstWithItsPoints : ByteArray := prog_1_method_75_code
def yX7_isFirstWithItsPoints : MethodName := ⟨RX7, "isFirstWithItsPoints", "(LStandingsHall$Entrant;)Z"⟩
abbrev cX7_countPresentUpTo : ByteArray := prog_1_method_76_code
def yX7_countPresentUpTo : MethodName := ⟨RX7, "countPresentUpTo", "(I)I"⟩
abbrev cX7_wrongMedian : ByteArray := prog_1_method_77_code
def yX7_wrongMedian : MethodName := ⟨RX7, "wrongMedian", "(Z)I"⟩
def RX8 : String := "StandingsHallModel"
def TX8 : u_T := fun k => match k with
  | _ => ("", "", "", false)
def tyX8 : Nat → FieldType := fun k => match k with
  | _ => .int
abbrev wsX80 : List Cond := u_ws RX8 TX8 0
theorem nmX8 : ∀ a, a < 0 → ∀ b, b < 0 → a ≠ b → (TX8 a).2.1 ≠ (TX8 b).2.1 := by decide +kernel
theorem tyX8_ok : ∀ k, k < 0 → parseFieldDescriptor (TX8 k).2.2.1 = some (tyX8 k) := by decide +kernel
def RJx145de : String := "java/io/Serializable"
def TJx145de : u_T := fun k => match k with
  | _ => ("", "", "", false)
def tyJx145de : Nat → FieldType := fun k => match k with
  | _ => .int
abbrev wsJx145de0 : List Cond := u_ws RJx145de TJx145de 0
theorem nmJx145de : ∀ a, a < 0 → ∀ b, b < 0 → a ≠ b → (TJx145de a).2.1 ≠ (TJx145de b).2.1 := by decide +kernel
theorem tyJx145de_ok : ∀ k, k < 0 → parseFieldDescriptor (TJx145de k).2.2.1 = some (tyJx145de k) := by decide +kernel
def RJ5 : String := "java/lang/AbstractStringBuilder"
def TJ5 : u_T := fun k => match k with
  | _ => ("", "", "", false)
def tyJ5 : Nat → FieldType := fun k => match k with
  | _ => .int
abbrev wsJ50 : List Cond := u_ws RJ5 TJ5 0
theorem nmJ5 : ∀ a, a < 0 → ∀ b, b < 0 → a ≠ b → (TJ5 a).2.1 ≠ (TJ5 b).2.1 := by decide +kernel
theorem tyJ5_ok : ∀ k, k < 0 → parseFieldDescriptor (TJ5 k).2.2.1 = some (tyJ5 k) := by decide +kernel
abbrev cJ5_init_d00df : ByteArray := prog_12_method_2_code
def yJ5_init_d00df : MethodName := ⟨RJ5, "<init>", "(I)V"⟩
abbrev cJ5_length_8abf5 : ByteArray := prog_12_method_6_code
def yJ5_length_8abf5 : MethodName := ⟨RJ5, "length", "()I"⟩
abbrev cJ5_ensureCapacityInternal_d00df : ByteArray := prog_12_method_9_code
def yJ5_ensureCapacityInternal_d00df : MethodName := ⟨RJ5, "ensureCapacityInternal", "(I)V"⟩
abbrev cJ5_newCapacity_0f7a4 : ByteArray := prog_12_method_10_code
def yJ5_newCapacity_0f7a4 : MethodName := ⟨RJ5, "newCapacity", "(I)I"⟩
abbrev cJ5_inflate_da8c8 : ByteArray := prog_12_method_11_code
def yJ5_inflate_da8c8 : MethodName := ⟨RJ5, "inflate", "()V"⟩
abbrev cJ5_charAt_5068e : ByteArray := prog_12_method_14_code
def yJ5_charAt_5068e : MethodName := ⟨RJ5, "charAt", "(I)C"⟩
abbrev cJ5_append_cf1ce : ByteArray := prog_12_method_22_code
def yJ5_append_cf1ce : MethodName := ⟨RJ5, "append", "(Ljava/lang/String;)Ljava/lang/AbstractStringBuilder;"⟩
abbrev cJ5_appendNull_278bc : ByteArray := prog_12_method_26_code
def yJ5_appendNull_278bc : MethodName := ⟨RJ5, "appendNull", "()Ljava/lang/AbstractStringBuilder;"⟩
abbrev cJ5_append_3fe6f : ByteArray := prog_12_method_31_code
def yJ5_append_3fe6f : MethodName := ⟨RJ5, "append", "(C)Ljava/lang/AbstractStringBuilder;"⟩
abbrev cJ5_append_c97b9 : ByteArray := prog_12_method_32_code
def yJ5_append_c97b9 : MethodName := ⟨RJ5, "append", "(I)Ljava/lang/AbstractStringBuilder;"⟩
abbrev cJ5_getValue_6d5f1 : ByteArray := prog_12_method_64_code
def yJ5_getValue_6d5f1 : MethodName := ⟨RJ5, "getValue", "()[B"⟩
abbrev cJ5_isLatin1_aae02 : ByteArray := prog_12_method_68_code
def yJ5_isLatin1_aae02 : MethodName := ⟨RJ5, "isLatin1", "()Z"⟩
abbrev cJ5_inflateIfNeededFor_a7421 : ByteArray := prog_12_method_71_code
def yJ5_inflateIfNeededFor_a7421 : MethodName := ⟨RJ5, "inflateIfNeededFor", "(Ljava/lang/String;)V"⟩
abbrev cJ5_putStringAt_47b60 : ByteArray := prog_12_method_73_code
def yJ5_putStringAt_47b60 : MethodName := ⟨RJ5, "putStringAt", "(ILjava/lang/String;)V"⟩
def RJx2cfe8 : String := "java/lang/Appendable"
def TJx2cfe8 : u_T := fun k => match k with
  | _ => ("", "", "", false)
def tyJx2cfe8 : Nat → FieldType := fun k => match k with
  | _ => .int
abbrev wsJx2cfe80 : List Cond := u_ws RJx2cfe8 TJx2cfe8 0
theorem nmJx2cfe8 : ∀ a, a < 0 → ∀ b, b < 0 → a ≠ b → (TJx2cfe8 a).2.1 ≠ (TJx2cfe8 b).2.1 := by decide +kernel
theorem tyJx2cfe8_ok : ∀ k, k < 0 → parseFieldDescriptor (TJx2cfe8 k).2.2.1 = some (tyJx2cfe8 k) := by decide +kernel
def RJx9f9b0 : String := "java/lang/CharSequence"
def TJx9f9b0 : u_T := fun k => match k with
  | _ => ("", "", "", false)
def tyJx9f9b0 : Nat → FieldType := fun k => match k with
  | _ => .int
abbrev wsJx9f9b00 : List Cond := u_ws RJx9f9b0 TJx9f9b0 0
theorem nmJx9f9b0 : ∀ a, a < 0 → ∀ b, b < 0 → a ≠ b → (TJx9f9b0 a).2.1 ≠ (TJx9f9b0 b).2.1 := by decide +kernel
theorem tyJx9f9b0_ok : ∀ k, k < 0 → parseFieldDescriptor (TJx9f9b0 k).2.2.1 = some (tyJx9f9b0 k) := by decide +kernel
def RJx8e188 : String := "java/lang/Cloneable"
def TJx8e188 : u_T := fun k => match k with
  | _ => ("", "", "", false)
def tyJx8e188 : Nat → FieldType := fun k => match k with
  | _ => .int
abbrev wsJx8e1880 : List Cond := u_ws RJx8e188 TJx8e188 0
theorem nmJx8e188 : ∀ a, a < 0 → ∀ b, b < 0 → a ≠ b → (TJx8e188 a).2.1 ≠ (TJx8e188 b).2.1 := by decide +kernel
theorem tyJx8e188_ok : ∀ k, k < 0 → parseFieldDescriptor (TJx8e188 k).2.2.1 = some (tyJx8e188 k) := by decide +kernel
def RJxb160c : String := "java/lang/Comparable"
def TJxb160c : u_T := fun k => match k with
  | _ => ("", "", "", false)
def tyJxb160c : Nat → FieldType := fun k => match k with
  | _ => .int
abbrev wsJxb160c0 : List Cond := u_ws RJxb160c TJxb160c 0
theorem nmJxb160c : ∀ a, a < 0 → ∀ b, b < 0 → a ≠ b → (TJxb160c a).2.1 ≠ (TJxb160c b).2.1 := by decide +kernel
theorem tyJxb160c_ok : ∀ k, k < 0 → parseFieldDescriptor (TJxb160c k).2.2.1 = some (tyJxb160c k) := by decide +kernel
def RJ6 : String := "java/lang/Integer"
def TJ6 : u_T := fun k => match k with
  | _ => ("", "", "", false)
def tyJ6 : Nat → FieldType := fun k => match k with
  | _ => .int
abbrev wsJ60 : List Cond := u_ws RJ6 TJ6 0
theorem nmJ6 : ∀ a, a < 0 → ∀ b, b < 0 → a ≠ b → (TJ6 a).2.1 ≠ (TJ6 b).2.1 := by decide +kernel
theorem tyJ6_ok : ∀ k, k < 0 → parseFieldDescriptor (TJ6 k).2.2.1 = some (tyJ6 k) := by decide +kernel
abbrev cJ6_getChars_ba4f3 : ByteArray := prog_21_method_12_code
def yJ6_getChars_ba4f3 : MethodName := ⟨RJ6, "getChars", "(II[B)I"⟩
abbrev cJ6_stringSize_0f7a4 : ByteArray := prog_21_method_13_code
def yJ6_stringSize_0f7a4 : MethodName := ⟨RJ6, "stringSize", "(I)I"⟩
def RJxab1ab : String := "java/lang/Iterable"
def TJxab1ab : u_T := fun k => match k with
  | _ => ("", "", "", false)
def tyJxab1ab : Nat → FieldType := fun k => match k with
  | _ => .int
abbrev wsJxab1ab0 : List Cond := u_ws RJxab1ab TJxab1ab 0
theorem nmJxab1ab : ∀ a, a < 0 → ∀ b, b < 0 → a ≠ b → (TJxab1ab a).2.1 ≠ (TJxab1ab b).2.1 := by decide +kernel
theorem tyJxab1ab_ok : ∀ k, k < 0 → parseFieldDescriptor (TJxab1ab k).2.2.1 = some (tyJxab1ab k) := by decide +kernel
def RJ9 : String := "java/lang/Math"
def TJ9 : u_T := fun k => match k with
  | _ => ("", "", "", false)
def tyJ9 : Nat → FieldType := fun k => match k with
  | _ => .int
abbrev wsJ90 : List Cond := u_ws RJ9 TJ9 0
theorem nmJ9 : ∀ a, a < 0 → ∀ b, b < 0 → a ≠ b → (TJ9 a).2.1 ≠ (TJ9 b).2.1 := by decide +kernel
theorem tyJ9_ok : ∀ k, k < 0 → parseFieldDescriptor (TJ9 k).2.2.1 = some (tyJ9 k) := by decide +kernel
abbrev cJ9_floorMod_7cf53 : ByteArray := prog_23_method_50_code
def yJ9_floorMod_7cf53 : MethodName := ⟨RJ9, "floorMod", "(II)I"⟩
abbrev cJ9_max_7cf53 : ByteArray := prog_23_method_65_code
def yJ9_max_7cf53 : MethodName := ⟨RJ9, "max", "(II)I"⟩
abbrev cJ9_min_7cf53 : ByteArray := prog_23_method_69_code
def yJ9_min_7cf53 : MethodName := ⟨RJ9, "min", "(II)I"⟩
def RJxd2413 : String := "java/lang/Number"
def TJxd2413 : u_T := fun k => match k with
  | _ => ("", "", "", false)
def tyJxd2413 : Nat → FieldType := fun k => match k with
  | _ => .int
abbrev wsJxd24130 : List Cond := u_ws RJxd2413 TJxd2413 0
theorem nmJxd2413 : ∀ a, a < 0 → ∀ b, b < 0 → a ≠ b → (TJxd2413 a).2.1 ≠ (TJxd2413 b).2.1 := by decide +kernel
theorem tyJxd2413_ok : ∀ k, k < 0 → parseFieldDescriptor (TJxd2413 k).2.2.1 = some (tyJxd2413 k) := by decide +kernel
def RJ0 : String := "java/lang/String"
def TJ0 : u_T := fun k => match k with
  | 0 => ("java/lang/String", "value", "[B", true)
  | 1 => ("java/lang/String", "coder", "B", true)
  | 2 => ("java/lang/String", "hash", "I", false)
  | _ => ("java/lang/String", "hashIsZero", "Z", false)
def tyJ0 : Nat → FieldType := fun k => match k with
  | 0 => .array .byte
  | 1 => .byte
  | 2 => .int
  | _ => .boolean
abbrev wsJ00 : List Cond := u_ws RJ0 TJ0 4
theorem nmJ0 : ∀ a, a < 4 → ∀ b, b < 4 → a ≠ b → (TJ0 a).2.1 ≠ (TJ0 b).2.1 := by decide +kernel
theorem tyJ0_ok : ∀ k, k < 4 → parseFieldDescriptor (TJ0 k).2.2.1 = some (tyJ0 k) := by decide +kernel
abbrev cJ0_init_81219 : ByteArray := prog_26_method_53_code
def yJ0_init_81219 : MethodName := ⟨RJ0, "<init>", "(Ljava/lang/StringBuilder;)V"⟩
abbrev cJ0_length_8abf5 : ByteArray := prog_26_method_54_code
def yJ0_length_8abf5 : MethodName := ⟨RJ0, "length", "()I"⟩
abbrev cJ0_getBytes_840e7 : ByteArray := prog_26_method_147_code
def yJ0_getBytes_840e7 : MethodName := ⟨RJ0, "getBytes", "([BIB)V"⟩
abbrev cJ0_init_db425 : ByteArray := prog_26_method_150_code
def yJ0_init_db425 : MethodName := ⟨RJ0, "<init>", "(Ljava/lang/AbstractStringBuilder;Ljava/lang/Void;)V"⟩
abbrev cJ0_coder_7d493 : ByteArray := prog_26_method_152_code
def yJ0_coder_7d493 : MethodName := ⟨RJ0, "coder", "()B"⟩
abbrev cJ0_checkIndex_df160 : ByteArray := prog_26_method_155_code
def yJ0_checkIndex_df160 : MethodName := ⟨RJ0, "checkIndex", "(II)V"⟩
abbrev cJ0_checkBoundsOffCount_cabcc : ByteArray := prog_26_method_157_code
def yJ0_checkBoundsOffCount_cabcc : MethodName := ⟨RJ0, "checkBoundsOffCount", "(III)I"⟩
abbrev cJ0_checkBoundsBeginEnd_23922 : ByteArray := prog_26_method_158_code
def yJ0_checkBoundsBeginEnd_23922 : MethodName := ⟨RJ0, "checkBoundsBeginEnd", "(III)V"⟩
def RJ4 : String := "java/lang/StringBuilder"
def TJ4 : u_T := fun k => match k with
  | 0 => ("java/lang/AbstractStringBuilder", "value", "[B", false)
  | 1 => ("java/lang/AbstractStringBuilder", "coder", "B", false)
  | 2 => ("java/lang/AbstractStringBuilder", "maybeLatin1", "Z", false)
  | _ => ("java/lang/AbstractStringBuilder", "count", "I", false)
def tyJ4 : Nat → FieldType := fun k => match k with
  | 0 => .array .byte
  | 1 => .byte
  | 2 => .boolean
  | _ => .int
abbrev wsJ40 : List Cond := u_ws RJ4 TJ4 4
theorem nmJ4 : ∀ a, a < 4 → ∀ b, b < 4 → a ≠ b → (TJ4 a).2.1 ≠ (TJ4 b).2.1 := by decide +kernel
theorem tyJ4_ok : ∀ k, k < 4 → parseFieldDescriptor (TJ4 k).2.2.1 = some (tyJ4 k) := by decide +kernel
abbrev cJ4_init_da8c8 : ByteArray := prog_27_method_1_code
def yJ4_init_da8c8 : MethodName := ⟨RJ4, "<init>", "()V"⟩
abbrev cJ4_append_15ec4 : ByteArray := prog_27_method_7_code
def yJ4_append_15ec4 : MethodName := ⟨RJ4, "append", "(Ljava/lang/String;)Ljava/lang/StringBuilder;"⟩
abbrev cJ4_append_cf468 : ByteArray := prog_27_method_14_code
def yJ4_append_cf468 : MethodName := ⟨RJ4, "append", "(C)Ljava/lang/StringBuilder;"⟩
abbrev cJ4_append_bf812 : ByteArray := prog_27_method_15_code
def yJ4_append_bf812 : MethodName := ⟨RJ4, "append", "(I)Ljava/lang/StringBuilder;"⟩
abbrev cJ4_toString_0e30d : ByteArray := prog_27_method_42_code
def yJ4_toString_0e30d : MethodName := ⟨RJ4, "toString", "()Ljava/lang/String;"⟩
abbrev cJ4_charAt_5068e : ByteArray := prog_27_method_88_code
def yJ4_charAt_5068e : MethodName := ⟨RJ4, "charAt", "(I)C"⟩
abbrev cJ4_length_8abf5 : ByteArray := prog_27_method_93_code
def yJ4_length_8abf5 : MethodName := ⟨RJ4, "length", "()I"⟩
def RJ1 : String := "java/lang/StringLatin1"
def TJ1 : u_T := fun k => match k with
  | _ => ("", "", "", false)
def tyJ1 : Nat → FieldType := fun k => match k with
  | _ => .int
abbrev wsJ10 : List Cond := u_ws RJ1 TJ1 0
theorem nmJ1 : ∀ a, a < 0 → ∀ b, b < 0 → a ≠ b → (TJ1 a).2.1 ≠ (TJ1 b).2.1 := by decide +kernel
theorem tyJ1_ok : ∀ k, k < 0 → parseFieldDescriptor (TJ1 k).2.2.1 = some (tyJ1 k) := by decide +kernel
abbrev cJ1_canEncode_fc78d : ByteArray := prog_28_method_3_code
def yJ1_canEncode_fc78d : MethodName := ⟨RJ1, "canEncode", "(C)Z"⟩
abbrev cJ1_inflate_0e8fd : ByteArray := prog_28_method_50_code
def yJ1_inflate_0e8fd : MethodName := ⟨RJ1, "inflate", "([BI[BII)V"⟩
def RJ2 : String := "java/lang/StringUTF16"
def TJ2 : u_T := fun k => match k with
  | _ => ("", "", "", false)
def tyJ2 : Nat → FieldType := fun k => match k with
  | _ => .int
abbrev wsJ20 : List Cond := u_ws RJ2 TJ2 0
theorem nmJ2 : ∀ a, a < 0 → ∀ b, b < 0 → a ≠ b → (TJ2 a).2.1 ≠ (TJ2 b).2.1 := by decide +kernel
theorem tyJ2_ok : ∀ k, k < 0 → parseFieldDescriptor (TJ2 k).2.2.1 = some (tyJ2 k) := by decide +kernel
abbrev cJ2_newBytesFor_77867 : ByteArray := prog_29_method_2_code
def yJ2_newBytesFor_77867 : MethodName := ⟨RJ2, "newBytesFor", "(I)[B"⟩
abbrev cJ2_newBytesLength_0f7a4 : ByteArray := prog_29_method_3_code
def yJ2_newBytesLength_0f7a4 : MethodName := ⟨RJ2, "newBytesLength", "(I)I"⟩
abbrev cJ2_putChar_b72d1 : ByteArray := prog_29_method_4_code
def yJ2_putChar_b72d1 : MethodName := ⟨RJ2, "putChar", "([BII)V"⟩
abbrev cJ2_getChar_3b067 : ByteArray := prog_29_method_5_code
def yJ2_getChar_3b067 : MethodName := ⟨RJ2, "getChar", "([BI)C"⟩
abbrev cJ2_length_9d52b : ByteArray := prog_29_method_6_code
def yJ2_length_9d52b : MethodName := ⟨RJ2, "length", "([B)I"⟩
abbrev cJ2_coderFromArrayLen_85cad : ByteArray := prog_29_method_15_code
def yJ2_coderFromArrayLen_85cad : MethodName := ⟨RJ2, "coderFromArrayLen", "([BI)B"⟩
abbrev cJ2_compress_39247 : ByteArray := prog_29_method_17_code
def yJ2_compress_39247 : MethodName := ⟨RJ2, "compress", "([BII)[B"⟩
abbrev cJ2_compress_5af95 : ByteArray := prog_29_method_22_code
def yJ2_compress_5af95 : MethodName := ⟨RJ2, "compress", "([BI[BII)I"⟩
abbrev cJ2_putCharSB_b72d1 : ByteArray := prog_29_method_71_code
def yJ2_putCharSB_b72d1 : MethodName := ⟨RJ2, "putCharSB", "([BII)V"⟩
abbrev cJ2_getChars_46870 : ByteArray := prog_29_method_77_code
def yJ2_getChars_46870 : MethodName := ⟨RJ2, "getChars", "(III[B)I"⟩
abbrev cJ2_putCharsAt_cd4e5 : ByteArray := prog_29_method_81_code
def yJ2_putCharsAt_cd4e5 : MethodName := ⟨RJ2, "putCharsAt", "([BICCCC)I"⟩
abbrev cJ2_inflate_0e8fd : ByteArray := prog_29_method_86_code
def yJ2_inflate_0e8fd : MethodName := ⟨RJ2, "inflate", "([BI[BII)V"⟩
abbrev cJ2_getChars_ba4f3 : ByteArray := prog_29_method_89_code
def yJ2_getChars_ba4f3 : MethodName := ⟨RJ2, "getChars", "(II[B)I"⟩
abbrev cJ2_checkIndex_2214a : ByteArray := prog_29_method_91_code
def yJ2_checkIndex_2214a : MethodName := ⟨RJ2, "checkIndex", "(I[B)V"⟩
abbrev cJ2_checkBoundsBeginEnd_d044e : ByteArray := prog_29_method_93_code
def yJ2_checkBoundsBeginEnd_d044e : MethodName := ⟨RJ2, "checkBoundsBeginEnd", "(II[B)V"⟩
abbrev cJ2_checkBoundsOffCount_d044e : ByteArray := prog_29_method_94_code
def yJ2_checkBoundsOffCount_d044e : MethodName := ⟨RJ2, "checkBoundsOffCount", "(II[B)V"⟩
def RJ10 : String := "java/lang/System"
def TJ10 : u_T := fun k => match k with
  | _ => ("", "", "", false)
def tyJ10 : Nat → FieldType := fun k => match k with
  | _ => .int
abbrev wsJ100 : List Cond := u_ws RJ10 TJ10 0
theorem nmJ10 : ∀ a, a < 0 → ∀ b, b < 0 → a ≠ b → (TJ10 a).2.1 ≠ (TJ10 b).2.1 := by decide +kernel
theorem tyJ10_ok : ∀ k, k < 0 → parseFieldDescriptor (TJ10 k).2.2.1 = some (tyJ10 k) := by decide +kernel
def RJxfd54e : String := "java/lang/constant/Constable"
def TJxfd54e : u_T := fun k => match k with
  | _ => ("", "", "", false)
def tyJxfd54e : Nat → FieldType := fun k => match k with
  | _ => .int
abbrev wsJxfd54e0 : List Cond := u_ws RJxfd54e TJxfd54e 0
theorem nmJxfd54e : ∀ a, a < 0 → ∀ b, b < 0 → a ≠ b → (TJxfd54e a).2.1 ≠ (TJxfd54e b).2.1 := by decide +kernel
theorem tyJxfd54e_ok : ∀ k, k < 0 → parseFieldDescriptor (TJxfd54e k).2.2.1 = some (tyJxfd54e k) := by decide +kernel
def RJx3cf43 : String := "java/lang/constant/ConstantDesc"
def TJx3cf43 : u_T := fun k => match k with
  | _ => ("", "", "", false)
def tyJx3cf43 : Nat → FieldType := fun k => match k with
  | _ => .int
abbrev wsJx3cf430 : List Cond := u_ws RJx3cf43 TJx3cf43 0
theorem nmJx3cf43 : ∀ a, a < 0 → ∀ b, b < 0 → a ≠ b → (TJx3cf43 a).2.1 ≠ (TJx3cf43 b).2.1 := by decide +kernel
theorem tyJx3cf43_ok : ∀ k, k < 0 → parseFieldDescriptor (TJx3cf43 k).2.2.1 = some (tyJx3cf43 k) := by decide +kernel
def RJxa1e45 : String := "java/util/AbstractCollection"
def TJxa1e45 : u_T := fun k => match k with
  | _ => ("", "", "", false)
def tyJxa1e45 : Nat → FieldType := fun k => match k with
  | _ => .int
abbrev wsJxa1e450 : List Cond := u_ws RJxa1e45 TJxa1e45 0
theorem nmJxa1e45 : ∀ a, a < 0 → ∀ b, b < 0 → a ≠ b → (TJxa1e45 a).2.1 ≠ (TJxa1e45 b).2.1 := by decide +kernel
theorem tyJxa1e45_ok : ∀ k, k < 0 → parseFieldDescriptor (TJxa1e45 k).2.2.1 = some (tyJxa1e45 k) := by decide +kernel
abbrev cJxa1e45_init_da8c8 : ByteArray := prog_34_method_1_code
def yJxa1e45_init_da8c8 : MethodName := ⟨RJxa1e45, "<init>", "()V"⟩
def RJxc12de : String := "java/util/AbstractList"
def TJxc12de : u_T := fun k => match k with
  | _ => ("", "", "", false)
def tyJxc12de : Nat → FieldType := fun k => match k with
  | _ => .int
abbrev wsJxc12de0 : List Cond := u_ws RJxc12de TJxc12de 0
theorem nmJxc12de : ∀ a, a < 0 → ∀ b, b < 0 → a ≠ b → (TJxc12de a).2.1 ≠ (TJxc12de b).2.1 := by decide +kernel
theorem tyJxc12de_ok : ∀ k, k < 0 → parseFieldDescriptor (TJxc12de k).2.2.1 = some (tyJxc12de k) := by decide +kernel
abbrev cJxc12de_init_da8c8 : ByteArray := prog_35_method_1_code
def yJxc12de_init_da8c8 : MethodName := ⟨RJxc12de, "<init>", "()V"⟩
def RJx4a65c : String := "java/util/ArrayList"
def TJx4a65c : u_T := fun k => match k with
  | 0 => ("java/util/AbstractList", "modCount", "I", false)
  | 1 => ("java/util/ArrayList", "elementData", "[Ljava/lang/Object;", false)
  | _ => ("java/util/ArrayList", "size", "I", false)
def tyJx4a65c : Nat → FieldType := fun k => match k with
  | 0 => .int
  | 1 => .array (.object "java/lang/Object")
  | _ => .int
abbrev wsJx4a65c0 : List Cond := u_ws RJx4a65c TJx4a65c 3
theorem nmJx4a65c : ∀ a, a < 3 → ∀ b, b < 3 → a ≠ b → (TJx4a65c a).2.1 ≠ (TJx4a65c b).2.1 := by decide +kernel
theorem tyJx4a65c_ok : ∀ k, k < 3 → parseFieldDescriptor (TJx4a65c k).2.2.1 = some (tyJx4a65c k) := by decide +kernel
abbrev cJx4a65c_init_da8c8 : ByteArray := prog_36_method_2_code
def yJx4a65c_init_da8c8 : MethodName := ⟨RJx4a65c, "<init>", "()V"⟩
abbrev cJx4a65c_grow_92f84 : ByteArray := prog_36_method_6_code
def yJx4a65c_grow_92f84 : MethodName := ⟨RJx4a65c, "grow", "(I)[Ljava/lang/Object;"⟩
abbrev cJx4a65c_grow_d5877 : ByteArray := prog_36_method_7_code
def yJx4a65c_grow_d5877 : MethodName := ⟨RJx4a65c, "grow", "()[Ljava/lang/Object;"⟩
abbrev cJx4a65c_size_8abf5 : ByteArray := prog_36_method_8_code
def yJx4a65c_size_8abf5 : MethodName := ⟨RJx4a65c, "size", "()I"⟩
abbrev cJx4a65c_isEmpty_aae02 : ByteArray := prog_36_method_9_code
def yJx4a65c_isEmpty_aae02 : MethodName := ⟨RJx4a65c, "isEmpty", "()Z"⟩
abbrev cJx4a65c_elementData_915e3 : ByteArray := prog_36_method_18_code
def yJx4a65c_elementData_915e3 : MethodName := ⟨RJx4a65c, "elementData", "(I)Ljava/lang/Object;"⟩
abbrev cJx4a65c_get_915e3 : ByteArray := prog_36_method_20_code
def yJx4a65c_get_915e3 : MethodName := ⟨RJx4a65c, "get", "(I)Ljava/lang/Object;"⟩
abbrev cJx4a65c_set_bcc79 : ByteArray := prog_36_method_23_code
def yJx4a65c_set_bcc79 : MethodName := ⟨RJx4a65c, "set", "(ILjava/lang/Object;)Ljava/lang/Object;"⟩
abbrev cJx4a65c_add_72be8 : ByteArray := prog_36_method_24_code
def yJx4a65c_add_72be8 : MethodName := ⟨RJx4a65c, "add", "(Ljava/lang/Object;[Ljava/lang/Object;I)V"⟩
abbrev cJx4a65c_add_9ea2d : ByteArray := prog_36_method_25_code
def yJx4a65c_add_9ea2d : MethodName := ⟨RJx4a65c, "add", "(Ljava/lang/Object;)Z"⟩
abbrev cJx4a65c_add_7a177 : ByteArray := prog_36_method_26_code
def yJx4a65c_add_7a177 : MethodName := ⟨RJx4a65c, "add", "(ILjava/lang/Object;)V"⟩
abbrev cJx4a65c_remove_915e3 : ByteArray := prog_36_method_29_code
def yJx4a65c_remove_915e3 : MethodName := ⟨RJx4a65c, "remove", "(I)Ljava/lang/Object;"⟩
abbrev cJx4a65c_fastRemove_b59b0 : ByteArray := prog_36_method_39_code
def yJx4a65c_fastRemove_b59b0 : MethodName := ⟨RJx4a65c, "fastRemove", "([Ljava/lang/Object;I)V"⟩
abbrev cJx4a65c_clear_da8c8 : ByteArray := prog_36_method_40_code
def yJx4a65c_clear_da8c8 : MethodName := ⟨RJx4a65c, "clear", "()V"⟩
abbrev cJx4a65c_rangeCheckForAdd_d00df : ByteArray := prog_36_method_45_code
def yJx4a65c_rangeCheckForAdd_d00df : MethodName := ⟨RJx4a65c, "rangeCheckForAdd", "(I)V"⟩
abbrev cJx4a65c_outOfBoundsMsg_b52d3 : ByteArray := prog_36_method_46_code
def yJx4a65c_outOfBoundsMsg_b52d3 : MethodName := ⟨RJx4a65c, "outOfBoundsMsg", "(I)Ljava/lang/String;"⟩
def RJ7 : String := "java/util/Arrays"
def TJ7 : u_T := fun k => match k with
  | _ => ("", "", "", false)
def tyJ7 : Nat → FieldType := fun k => match k with
  | _ => .int
abbrev wsJ70 : List Cond := u_ws RJ7 TJ7 0
theorem nmJ7 : ∀ a, a < 0 → ∀ b, b < 0 → a ≠ b → (TJ7 a).2.1 ≠ (TJ7 b).2.1 := by decide +kernel
theorem tyJ7_ok : ∀ k, k < 0 → parseFieldDescriptor (TJ7 k).2.2.1 = some (tyJ7 k) := by decide +kernel
abbrev cJ7_fill_53178 : ByteArray := prog_37_method_103_code
def yJ7_fill_53178 : MethodName := ⟨RJ7, "fill", "([II)V"⟩
abbrev cJ7_copyOf_1904c : ByteArray := prog_37_method_119_code
def yJ7_copyOf_1904c : MethodName := ⟨RJ7, "copyOf", "([Ljava/lang/Object;I)[Ljava/lang/Object;"⟩
abbrev cJ7_copyOf_6403c : ByteArray := prog_37_method_120_code
def yJ7_copyOf_6403c : MethodName := ⟨RJ7, "copyOf", "([Ljava/lang/Object;ILjava/lang/Class;)[Ljava/lang/Object;"⟩
abbrev cJ7_copyOf_9075b : ByteArray := prog_37_method_121_code
def yJ7_copyOf_9075b : MethodName := ⟨RJ7, "copyOf", "([BI)[B"⟩
abbrev cJ7_checkLength_df160 : ByteArray := prog_37_method_131_code
def yJ7_checkLength_df160 : MethodName := ⟨RJ7, "checkLength", "(II)V"⟩
abbrev cJ7_copyOfRange_39247 : ByteArray := prog_37_method_132_code
def yJ7_copyOfRange_39247 : MethodName := ⟨RJ7, "copyOfRange", "([BII)[B"⟩
abbrev cJ7_copyOfRangeByte_39247 : ByteArray := prog_37_method_133_code
def yJ7_copyOfRangeByte_39247 : MethodName := ⟨RJ7, "copyOfRangeByte", "([BII)[B"⟩
def RJx5ef63 : String := "java/util/Collection"
def TJx5ef63 : u_T := fun k => match k with
  | _ => ("", "", "", false)
def tyJx5ef63 : Nat → FieldType := fun k => match k with
  | _ => .int
abbrev wsJx5ef630 : List Cond := u_ws RJx5ef63 TJx5ef63 0
theorem nmJx5ef63 : ∀ a, a < 0 → ∀ b, b < 0 → a ≠ b → (TJx5ef63 a).2.1 ≠ (TJx5ef63 b).2.1 := by decide +kernel
theorem tyJx5ef63_ok : ∀ k, k < 0 → parseFieldDescriptor (TJx5ef63 k).2.2.1 = some (tyJx5ef63 k) := by decide +kernel
def RJxbd725 : String := "java/util/List"
def TJxbd725 : u_T := fun k => match k with
  | _ => ("", "", "", false)
def tyJxbd725 : Nat → FieldType := fun k => match k with
  | _ => .int
abbrev wsJxbd7250 : List Cond := u_ws RJxbd725 TJxbd725 0
theorem nmJxbd725 : ∀ a, a < 0 → ∀ b, b < 0 → a ≠ b → (TJxbd725 a).2.1 ≠ (TJxbd725 b).2.1 := by decide +kernel
theorem tyJxbd725_ok : ∀ k, k < 0 → parseFieldDescriptor (TJxbd725 k).2.2.1 = some (tyJxbd725 k) := by decide +kernel
def RJ15 : String := "java/util/Objects"
def TJ15 : u_T := fun k => match k with
  | _ => ("", "", "", false)
def tyJ15 : Nat → FieldType := fun k => match k with
  | _ => .int
abbrev wsJ150 : List Cond := u_ws RJ15 TJ15 0
theorem nmJ15 : ∀ a, a < 0 → ∀ b, b < 0 → a ≠ b → (TJ15 a).2.1 ≠ (TJ15 b).2.1 := by decide +kernel
theorem tyJ15_ok : ∀ k, k < 0 → parseFieldDescriptor (TJ15 k).2.2.1 = some (tyJ15 k) := by decide +kernel
abbrev cJ15_checkIndex_7cf53 : ByteArray := prog_41_method_17_code
def yJ15_checkIndex_7cf53 : MethodName := ⟨RJ15, "checkIndex", "(II)I"⟩
def RJxf0a74 : String := "java/util/RandomAccess"
def TJxf0a74 : u_T := fun k => match k with
  | _ => ("", "", "", false)
def tyJxf0a74 : Nat → FieldType := fun k => match k with
  | _ => .int
abbrev wsJxf0a740 : List Cond := u_ws RJxf0a74 TJxf0a74 0
theorem nmJxf0a74 : ∀ a, a < 0 → ∀ b, b < 0 → a ≠ b → (TJxf0a74 a).2.1 ≠ (TJxf0a74 b).2.1 := by decide +kernel
theorem tyJxf0a74_ok : ∀ k, k < 0 → parseFieldDescriptor (TJxf0a74 k).2.2.1 = some (tyJxf0a74 k) := by decide +kernel
def RJxa66e6 : String := "java/util/SequencedCollection"
def TJxa66e6 : u_T := fun k => match k with
  | _ => ("", "", "", false)
def tyJxa66e6 : Nat → FieldType := fun k => match k with
  | _ => .int
abbrev wsJxa66e60 : List Cond := u_ws RJxa66e6 TJxa66e6 0
theorem nmJxa66e6 : ∀ a, a < 0 → ∀ b, b < 0 → a ≠ b → (TJxa66e6 a).2.1 ≠ (TJxa66e6 b).2.1 := by decide +kernel
theorem tyJxa66e6_ok : ∀ k, k < 0 → parseFieldDescriptor (TJxa66e6 k).2.2.1 = some (tyJxa66e6 k) := by decide +kernel
def RJ8 : String := "jdk/internal/util/ArraysSupport"
def TJ8 : u_T := fun k => match k with
  | _ => ("", "", "", false)
def tyJ8 : Nat → FieldType := fun k => match k with
  | _ => .int
abbrev wsJ80 : List Cond := u_ws RJ8 TJ8 0
theorem nmJ8 : ∀ a, a < 0 → ∀ b, b < 0 → a ≠ b → (TJ8 a).2.1 ≠ (TJ8 b).2.1 := by decide +kernel
theorem tyJ8_ok : ∀ k, k < 0 → parseFieldDescriptor (TJ8 k).2.2.1 = some (tyJ8 k) := by decide +kernel
abbrev cJ8_newLength_cabcc : ByteArray := prog_44_method_27_code
def yJ8_newLength_cabcc : MethodName := ⟨RJ8, "newLength", "(III)I"⟩
abbrev cJ8_hugeLength_7cf53 : ByteArray := prog_44_method_28_code
def yJ8_hugeLength_7cf53 : MethodName := ⟨RJ8, "hugeLength", "(II)I"⟩
def RJ3 : String := "jdk/internal/util/Preconditions"
def TJ3 : u_T := fun k => match k with
  | _ => ("", "", "", false)
def tyJ3 : Nat → FieldType := fun k => match k with
  | _ => .int
abbrev wsJ30 : List Cond := u_ws RJ3 TJ3 0
theorem nmJ3 : ∀ a, a < 0 → ∀ b, b < 0 → a ≠ b → (TJ3 a).2.1 ≠ (TJ3 b).2.1 := by decide +kernel
theorem tyJ3_ok : ∀ k, k < 0 → parseFieldDescriptor (TJ3 k).2.2.1 = some (tyJ3 k) := by decide +kernel
abbrev cJ3_checkIndex_8e157 : ByteArray := prog_45_method_11_code
def yJ3_checkIndex_8e157 : MethodName := ⟨RJ3, "checkIndex", "(IILjava/util/function/BiFunction;)I"⟩
abbrev cJ3_checkFromToIndex_8c36e : ByteArray := prog_45_method_12_code
def yJ3_checkFromToIndex_8c36e : MethodName := ⟨RJ3, "checkFromToIndex", "(IIILjava/util/function/BiFunction;)I"⟩
abbrev cJ3_checkFromIndexSize_8c36e : ByteArray := prog_45_method_13_code
def yJ3_checkFromIndexSize_8c36e : MethodName := ⟨RJ3, "checkFromIndexSize", "(IIILjava/util/function/BiFunction;)I"⟩
def RL : String := "StandingsHallLaw"
def TL : u_T := fun k => match k with
  | 0 => ("StandingsHallLaw", "x", "I", false)
  | 1 => ("StandingsHallLaw", "o", "LStandingsHall;", true)
  | 2 => ("StandingsHallLaw", "score", "[I", true)
  | 3 => ("StandingsHallLaw", "group", "[I", true)
  | 4 => ("StandingsHallLaw", "factor", "[I", true)
  | 5 => ("StandingsHallLaw", "begun", "[I", true)
  | 6 => ("StandingsHallLaw", "row", "[I", true)
  | 7 => ("StandingsHallLaw", "isThere", "[Z", true)
  | 8 => ("StandingsHallLaw", "isGreater", "[Z", true)
  | 9 => ("StandingsHallLaw", "ladder", "[I", true)
  | 10 => ("StandingsHallLaw", "entered", "[I", true)
  | 11 => ("StandingsHallLaw", "played", "[I", true)
  | 12 => ("StandingsHallLaw", "gains", "[I", true)
  | 13 => ("StandingsHallLaw", "then", "[I", true)
  | 14 => ("StandingsHallLaw", "came", "I", false)
  | 15 => ("StandingsHallLaw", "criteria", "I", false)
  | 16 => ("StandingsHallLaw", "ladderMany", "I", false)
  | 17 => ("StandingsHallLaw", "reach", "I", false)
  | 18 => ("StandingsHallLaw", "patience", "I", false)
  | 19 => ("StandingsHallLaw", "rounds", "I", false)
  | _ => ("StandingsHallLaw", "looked", "[I", true)
def tyL : Nat → FieldType := fun k => match k with
  | 0 => .int
  | 1 => .object "StandingsHall"
  | 2 => .array .int
  | 3 => .array .int
  | 4 => .array .int
  | 5 => .array .int
  | 6 => .array .int
  | 7 => .array .boolean
  | 8 => .array .boolean
  | 9 => .array .int
  | 10 => .array .int
  | 11 => .array .int
  | 12 => .array .int
  | 13 => .array .int
  | 14 => .int
  | 15 => .int
  | 16 => .int
  | 17 => .int
  | 18 => .int
  | 19 => .int
  | _ => .array .int
abbrev wsL0 : List Cond := u_ws RL TL 21
theorem nmL : ∀ a, a < 21 → ∀ b, b < 21 → a ≠ b → (TL a).2.1 ≠ (TL b).2.1 := by decide +kernel
theorem tyL_ok : ∀ k, k < 21 → parseFieldDescriptor (TL k).2.2.1 = some (tyL k) := by decide +kernel
abbrev cL_init : ByteArray := method_1_code
def yL_init : MethodName := ⟨RL, "<init>", "()V"⟩
abbrev cL_next : ByteArray := method_2_code
def yL_next : MethodName := ⟨RL, "next", "(I)I"⟩
abbrev cL_anyone : ByteArray := method_3_code
def yL_anyone : MethodName := ⟨RL, "anyone", "()I"⟩
abbrev cL_amount : ByteArray := method_4_code
def yL_amount : MethodName := ⟨RL, "amount", "()I"⟩
abbrev cL_isOrdered : ByteArray := method_5_code
def yL_isOrdered : MethodName := ⟨RL, "isOrdered", "()Z"⟩
abbrev cL_valueOf : ByteArray := method_6_code
def yL_valueOf : MethodName := ⟨RL, "valueOf", "(II)I"⟩
abbrev cL_compares : ByteArray := method_7_code
def yL_compares : MethodName := ⟨RL, "compares", "(II)I"⟩
abbrev cL_sorts : ByteArray := method_8_code
def yL_sorts : MethodName := ⟨RL, "sorts", "()I"⟩
abbrev cL_isStanding : ByteArray := method_9_code
def yL_isStanding : MethodName := ⟨RL, "isStanding", "()Z"⟩
abbrev cL_isScored : ByteArray := method_10_code
def yL_isScored : MethodName := ⟨RL, "isScored", "(I)Z"⟩
abbrev cL_isNeeded : ByteArray := method_11_code
def yL_isNeeded : MethodName := ⟨RL, "isNeeded", "(I)Z"⟩
abbrev cL_hasLeft : ByteArray := method_12_code
def yL_hasLeft : MethodName := ⟨RL, "hasLeft", "(I)Z"⟩
abbrev cL_hasCome : ByteArray := method_13_code
def yL_hasCome : MethodName := ⟨RL, "hasCome", "()Z"⟩
abbrev cL_arePoints : ByteArray := method_14_code
def yL_arePoints : MethodName := ⟨RL, "arePoints", "()Z"⟩
abbrev cL_placeIn : ByteArray := method_15_code
def yL_placeIn : MethodName := ⟨RL, "placeIn", "(I)I"⟩
abbrev cL_isPlayed : ByteArray := method_16_code
def yL_isPlayed : MethodName := ⟨RL, "isPlayed", "()Z"⟩
abbrev cL_isLadder : ByteArray := method_17_code
def yL_isLadder : MethodName := ⟨RL, "isLadder", "()Z"⟩
abbrev cL_isEnded : ByteArray := method_18_code
def yL_isEnded : MethodName := ⟨RL, "isEnded", "()Z"⟩
abbrev cL_form : ByteArray := method_19_code
def yL_form : MethodName := ⟨RL, "form", "(III)I"⟩
abbrev cL_areForms : ByteArray := method_20_code
def yL_areForms : MethodName := ⟨RL, "areForms", "()Z"⟩
abbrev cL_placeThen : ByteArray := method_21_code
def yL_placeThen : MethodName := ⟨RL, "placeThen", "(II)I"⟩
abbrev cL_areApart : ByteArray := method_22_code
def yL_areApart : MethodName := ⟨RL, "areApart", "()Z"⟩
abbrev cL_areGroups : ByteArray := method_23_code
def yL_areGroups : MethodName := ⟨RL, "areGroups", "()Z"⟩
abbrev cL_stirred : ByteArray := method_24_code
def yL_stirred : MethodName := ⟨RL, "stirred", "([I)I"⟩
abbrev cL_law : ByteArray := code
def yL_law : MethodName := ⟨RL, "law", "([I)Z"⟩
