/-! the names, the fields and the code, as printed -/
def RX0 : String := "MuleTrain$History"
def TX0 : u_T := fun k => match k with
  | 0 => ("MuleTrain$History", "before", "[LMuleTrain$Train;", true)
  | 1 => ("MuleTrain$History", "next", "I", false)
  | _ => ("MuleTrain$History", "size", "I", false)
def tyX0 : Nat → FieldType := fun k => match k with
  | 0 => .array (.object "MuleTrain$Train")
  | 1 => .int
  | _ => .int
abbrev wsX00 : List Cond := u_ws RX0 TX0 3
theorem nmX0 : ∀ a, a < 3 → ∀ b, b < 3 → a ≠ b → (TX0 a).2.1 ≠ (TX0 b).2.1 := by decide +kernel
theorem tyX0_ok : ∀ k, k < 3 → parseFieldDescriptor (TX0 k).2.2.1 = some (tyX0 k) := by decide +kernel
abbrev cX0_init : ByteArray := prog_2_method_1_code
def yX0_init : MethodName := ⟨RX0, "<init>", "()V"⟩
abbrev cX0_forget : ByteArray := prog_2_method_2_code
def yX0_forget : MethodName := ⟨RX0, "forget", "()V"⟩
abbrev cX0_remember : ByteArray := prog_2_method_3_code
def yX0_remember : MethodName := ⟨RX0, "remember", "(LMuleTrain$Train;)V"⟩
abbrev cX0_bringBack : ByteArray := prog_2_method_4_code
def yX0_bringBack : MethodName := ⟨RX0, "bringBack", "(LMuleTrain$Train;)V"⟩
def RX1 : String := "MuleTrain$Parser"
def TX1 : u_T := fun k => match k with
  | 0 => ("MuleTrain$Parser", "bytes", "[B", true)
  | 1 => ("MuleTrain$Parser", "train", "LMuleTrain$Train;", true)
  | 2 => ("MuleTrain$Parser", "fed", "I", false)
  | 3 => ("MuleTrain$Parser", "length", "I", false)
  | 4 => ("MuleTrain$Parser", "position", "I", false)
  | 5 => ("MuleTrain$Parser", "start", "I", false)
  | 6 => ("MuleTrain$Parser", "token", "I", false)
  | 7 => ("MuleTrain$Parser", "number", "I", false)
  | 8 => ("MuleTrain$Parser", "latestRunEnd", "I", false)
  | 9 => ("MuleTrain$Parser", "code", "I", false)
  | _ => ("MuleTrain$Parser", "errorAt", "I", false)
def tyX1 : Nat → FieldType := fun k => match k with
  | 0 => .array .byte
  | 1 => .object "MuleTrain$Train"
  | 2 => .int
  | 3 => .int
  | 4 => .int
  | 5 => .int
  | 6 => .int
  | 7 => .int
  | 8 => .int
  | 9 => .int
  | _ => .int
abbrev wsX10 : List Cond := u_ws RX1 TX1 11
theorem nmX1 : ∀ a, a < 11 → ∀ b, b < 11 → a ≠ b → (TX1 a).2.1 ≠ (TX1 b).2.1 := by decide +kernel
theorem tyX1_ok : ∀ k, k < 11 → parseFieldDescriptor (TX1 k).2.2.1 = some (tyX1 k) := by decide +kernel
abbrev cX1_init : ByteArray := prog_3_method_1_code
def yX1_init : MethodName := ⟨RX1, "<init>", "()V"⟩
abbrev cX1_writeFour : ByteArray := prog_3_method_2_code
def yX1_writeFour : MethodName := ⟨RX1, "writeFour", "(I)V"⟩
abbrev cX1_writeText : ByteArray := prog_3_method_3_code
def yX1_writeText : MethodName := ⟨RX1, "writeText", "(Ljava/lang/String;)V"⟩
abbrev cX1_writeByte : ByteArray := prog_3_method_4_code
def yX1_writeByte : MethodName := ⟨RX1, "writeByte", "(I)V"⟩
abbrev cX1_emptyText : ByteArray := prog_3_method_5_code
def yX1_emptyText : MethodName := ⟨RX1, "emptyText", "()V"⟩
abbrev cX1_parseText : ByteArray := prog_3_method_6_code
def yX1_parseText : MethodName := ⟨RX1, "parseText", "(I)V"⟩
abbrev cX1_beginText : ByteArray := prog_3_method_7_code
def yX1_beginText : MethodName := ⟨RX1, "beginText", "(I)V"⟩
abbrev cX1_noteError : ByteArray := prog_3_method_8_code
def yX1_noteError : MethodName := ⟨RX1, "noteError", "(I)V"⟩
abbrev cX1_parseHead : ByteArray := prog_3_method_9_code
def yX1_parseHead : MethodName := ⟨RX1, "parseHead", "()V"⟩
abbrev cX1_endLine : ByteArray := prog_3_method_10_code
def yX1_endLine : MethodName := ⟨RX1, "endLine", "()V"⟩
abbrev cX1_parseMule : ByteArray := prog_3_method_11_code
def yX1_parseMule : MethodName := ⟨RX1, "parseMule", "()V"⟩
abbrev cX1_parseSack : ByteArray := prog_3_method_12_code
def yX1_parseSack : MethodName := ⟨RX1, "parseSack", "()V"⟩
abbrev cX1_parseStage : ByteArray := prog_3_method_13_code
def yX1_parseStage : MethodName := ⟨RX1, "parseStage", "(I)V"⟩
abbrev cX1_parsePack : ByteArray := prog_3_method_14_code
def yX1_parsePack : MethodName := ⟨RX1, "parsePack", "()V"⟩
abbrev cX1_parseRest : ByteArray := prog_3_method_15_code
def yX1_parseRest : MethodName := ⟨RX1, "parseRest", "()V"⟩
abbrev cX1_parseNumber : ByteArray := prog_3_method_16_code
def yX1_parseNumber : MethodName := ⟨RX1, "parseNumber", "(II)I"⟩
abbrev cX1_parseName : ByteArray := prog_3_method_17_code
def yX1_parseName : MethodName := ⟨RX1, "parseName", "()V"⟩
abbrev cX1_parseKind : ByteArray := prog_3_method_18_code
def yX1_parseKind : MethodName := ⟨RX1, "parseKind", "()I"⟩
abbrev cX1_parseSide : ByteArray := prog_3_method_19_code
def yX1_parseSide : MethodName := ⟨RX1, "parseSide", "()I"⟩
abbrev cX1_muleOfName : ByteArray := prog_3_method_20_code
def yX1_muleOfName : MethodName := ⟨RX1, "muleOfName", "()I"⟩
abbrev cX1_isNameOf : ByteArray := prog_3_method_21_code
def yX1_isNameOf : MethodName := ⟨RX1, "isNameOf", "(I)Z"⟩
abbrev cX1_isWord : ByteArray := prog_3_method_22_code
def yX1_isWord : MethodName := ⟨RX1, "isWord", "(Ljava/lang/String;)Z"⟩
abbrev cX1_nextToken : ByteArray := prog_3_method_23_code
def yX1_nextToken : MethodName := ⟨RX1, "nextToken", "()V"⟩
abbrev cX1_skipBlanks : ByteArray := prog_3_method_24_code
def yX1_skipBlanks : MethodName := ⟨RX1, "skipBlanks", "()V"⟩
abbrev cX1_passRun : ByteArray := prog_3_method_25_code
def yX1_passRun : MethodName := ⟨RX1, "passRun", "()V"⟩
abbrev cX1_byteAt : ByteArray := prog_3_method_26_code
def yX1_byteAt : MethodName := ⟨RX1, "byteAt", "(I)I"⟩
abbrev cX1_sortOf : ByteArray := prog_3_method_27_code
def yX1_sortOf : MethodName := ⟨RX1, "sortOf", "(I)I"⟩
def RX2 : String := "MuleTrain$Rows"
def TX2 : u_T := fun k => match k with
  | 0 => ("MuleTrain$Rows", "width", "I", true)
  | 1 => ("MuleTrain$Rows", "cells", "[I", true)
  | _ => ("MuleTrain$Rows", "used", "I", false)
def tyX2 : Nat → FieldType := fun k => match k with
  | 0 => .int
  | 1 => .array .int
  | _ => .int
abbrev wsX20 : List Cond := u_ws RX2 TX2 3
theorem nmX2 : ∀ a, a < 3 → ∀ b, b < 3 → a ≠ b → (TX2 a).2.1 ≠ (TX2 b).2.1 := by decide +kernel
theorem tyX2_ok : ∀ k, k < 3 → parseFieldDescriptor (TX2 k).2.2.1 = some (tyX2 k) := by decide +kernel
abbrev cX2_init : ByteArray := prog_4_method_1_code
def yX2_init : MethodName := ⟨RX2, "<init>", "(II)V"⟩
abbrev cX2_isFull : ByteArray := prog_4_method_2_code
def yX2_isFull : MethodName := ⟨RX2, "isFull", "()Z"⟩
abbrev cX2_at : ByteArray := prog_4_method_3_code
def yX2_at : MethodName := ⟨RX2, "at", "(II)I"⟩
abbrev cX2_put : ByteArray := prog_4_method_4_code
def yX2_put : MethodName := ⟨RX2, "put", "(III)V"⟩
abbrev cX2_newRow : ByteArray := prog_4_method_5_code
def yX2_newRow : MethodName := ⟨RX2, "newRow", "()I"⟩
abbrev cX2_dropRow : ByteArray := prog_4_method_6_code
def yX2_dropRow : MethodName := ⟨RX2, "dropRow", "(I)V"⟩
abbrev cX2_emptyRows : ByteArray := prog_4_method_7_code
def yX2_emptyRows : MethodName := ⟨RX2, "emptyRows", "()V"⟩
abbrev cX2_copyRows : ByteArray := prog_4_method_8_code
def yX2_copyRows : MethodName := ⟨RX2, "copyRows", "(LMuleTrain$Rows;)V"⟩
def RX3 : String := "MuleTrain$Train"
def TX3 : u_T := fun k => match k with
  | 0 => ("MuleTrain$Train", "sacks", "LMuleTrain$Rows;", true)
  | 1 => ("MuleTrain$Train", "mules", "LMuleTrain$Rows;", true)
  | 2 => ("MuleTrain$Train", "stages", "LMuleTrain$Rows;", true)
  | 3 => ("MuleTrain$Train", "settings", "[I", true)
  | 4 => ("MuleTrain$Train", "counts", "[I", true)
  | 5 => ("MuleTrain$Train", "day", "I", false)
  | _ => ("MuleTrain$Train", "money", "I", false)
def tyX3 : Nat → FieldType := fun k => match k with
  | 0 => .object "MuleTrain$Rows"
  | 1 => .object "MuleTrain$Rows"
  | 2 => .object "MuleTrain$Rows"
  | 3 => .array .int
  | 4 => .array .int
  | 5 => .int
  | _ => .int
abbrev wsX30 : List Cond := u_ws RX3 TX3 7
theorem nmX3 : ∀ a, a < 7 → ∀ b, b < 7 → a ≠ b → (TX3 a).2.1 ≠ (TX3 b).2.1 := by decide +kernel
theorem tyX3_ok : ∀ k, k < 7 → parseFieldDescriptor (TX3 k).2.2.1 = some (tyX3 k) := by decide +kernel
abbrev cX3_init : ByteArray := prog_5_method_1_code
def yX3_init : MethodName := ⟨RX3, "<init>", "()V"⟩
abbrev cX3_become : ByteArray := prog_5_method_2_code
def yX3_become : MethodName := ⟨RX3, "become", "(LMuleTrain$Train;)V"⟩
abbrev cX3_beginAnew : ByteArray := prog_5_method_3_code
def yX3_beginAnew : MethodName := ⟨RX3, "beginAnew", "()V"⟩
abbrev cX3_newSack : ByteArray := prog_5_method_4_code
def yX3_newSack : MethodName := ⟨RX3, "newSack", "(III)I"⟩
abbrev cX3_newStage : ByteArray := prog_5_method_5_code
def yX3_newStage : MethodName := ⟨RX3, "newStage", "(II)I"⟩
abbrev cX3_letterOf : ByteArray := prog_5_method_6_code
def yX3_letterOf : MethodName := ⟨RX3, "letterOf", "(II)I"⟩
abbrev cX3_sacksIn : ByteArray := prog_5_method_7_code
def yX3_sacksIn : MethodName := ⟨RX3, "sacksIn", "(I)I"⟩
abbrev cX3_miles : ByteArray := prog_5_method_8_code
def yX3_miles : MethodName := ⟨RX3, "miles", "()I"⟩
abbrev cX3_tiredTogether : ByteArray := prog_5_method_9_code
def yX3_tiredTogether : MethodName := ⟨RX3, "tiredTogether", "()I"⟩
abbrev cX3_bearing : ByteArray := prog_5_method_10_code
def yX3_bearing : MethodName := ⟨RX3, "bearing", "(I)I"⟩
abbrev cX3_fordLimit : ByteArray := prog_5_method_11_code
def yX3_fordLimit : MethodName := ⟨RX3, "fordLimit", "(II)I"⟩
abbrev cX3_weightOn : ByteArray := prog_5_method_12_code
def yX3_weightOn : MethodName := ⟨RX3, "weightOn", "(II)I"⟩
abbrev cX3_loadOn : ByteArray := prog_5_method_13_code
def yX3_loadOn : MethodName := ⟨RX3, "loadOn", "(I)I"⟩
abbrev cX3_worthOn : ByteArray := prog_5_method_14_code
def yX3_worthOn : MethodName := ⟨RX3, "worthOn", "(I)I"⟩
abbrev cX3_sacksOn : ByteArray := prog_5_method_15_code
def yX3_sacksOn : MethodName := ⟨RX3, "sacksOn", "(I)I"⟩
abbrev cX3_leftward : ByteArray := prog_5_method_16_code
def yX3_leftward : MethodName := ⟨RX3, "leftward", "(I)I"⟩
abbrev cX3_isLevel : ByteArray := prog_5_method_17_code
def yX3_isLevel : MethodName := ⟨RX3, "isLevel", "(I)Z"⟩
abbrev cX3_lighterSide : ByteArray := prog_5_method_18_code
def yX3_lighterSide : MethodName := ⟨RX3, "lighterSide", "(I)I"⟩
abbrev cX3_worthGap : ByteArray := prog_5_method_19_code
def yX3_worthGap : MethodName := ⟨RX3, "worthGap", "()I"⟩
abbrev cX3_moneyGap : ByteArray := prog_5_method_20_code
def yX3_moneyGap : MethodName := ⟨RX3, "moneyGap", "()I"⟩
abbrev cX3_overload : ByteArray := prog_5_method_21_code
def yX3_overload : MethodName := ⟨RX3, "overload", "()I"⟩
abbrev cX3_reasonNotToPack : ByteArray := prog_5_method_22_code
def yX3_reasonNotToPack : MethodName := ⟨RX3, "reasonNotToPack", "(II)I"⟩
abbrev cX3_reasonNotToGo : ByteArray := prog_5_method_23_code
def yX3_reasonNotToGo : MethodName := ⟨RX3, "reasonNotToGo", "()I"⟩
abbrev cX3_mayTravel : ByteArray := prog_5_method_24_code
def yX3_mayTravel : MethodName := ⟨RX3, "mayTravel", "()Z"⟩
abbrev cX3_firstUnlevel : ByteArray := prog_5_method_25_code
def yX3_firstUnlevel : MethodName := ⟨RX3, "firstUnlevel", "()I"⟩
abbrev cX3_mulesWithSacks : ByteArray := prog_5_method_26_code
def yX3_mulesWithSacks : MethodName := ⟨RX3, "mulesWithSacks", "()I"⟩
abbrev cX3_bestFor : ByteArray := prog_5_method_27_code
def yX3_bestFor : MethodName := ⟨RX3, "bestFor", "(I)I"⟩
abbrev cX3_isBetter : ByteArray := prog_5_method_28_code
def yX3_isBetter : MethodName := ⟨RX3, "isBetter", "(II)Z"⟩
abbrev cX3_putOn : ByteArray := prog_5_method_29_code
def yX3_putOn : MethodName := ⟨RX3, "putOn", "(III)V"⟩
abbrev cX3_takeOff : ByteArray := prog_5_method_30_code
def yX3_takeOff : MethodName := ⟨RX3, "takeOff", "(II)V"⟩
abbrev cX3_packBest : ByteArray := prog_5_method_31_code
def yX3_packBest : MethodName := ⟨RX3, "packBest", "(I)I"⟩
abbrev cX3_stayFor : ByteArray := prog_5_method_32_code
def yX3_stayFor : MethodName := ⟨RX3, "stayFor", "(I)V"⟩
abbrev cX3_easeBy : ByteArray := prog_5_method_33_code
def yX3_easeBy : MethodName := ⟨RX3, "easeBy", "(II)V"⟩
abbrev cX3_travel : ByteArray := prog_5_method_34_code
def yX3_travel : MethodName := ⟨RX3, "travel", "()I"⟩
abbrev cX3_goRoad : ByteArray := prog_5_method_35_code
def yX3_goRoad : MethodName := ⟨RX3, "goRoad", "(II)V"⟩
abbrev cX3_crossFord : ByteArray := prog_5_method_36_code
def yX3_crossFord : MethodName := ⟨RX3, "crossFord", "(II)V"⟩
abbrev cX3_wetSack : ByteArray := prog_5_method_37_code
def yX3_wetSack : MethodName := ⟨RX3, "wetSack", "(I)V"⟩
abbrev cX3_shedTo : ByteArray := prog_5_method_38_code
def yX3_shedTo : MethodName := ⟨RX3, "shedTo", "(II)Z"⟩
abbrev cX3_leastOn : ByteArray := prog_5_method_39_code
def yX3_leastOn : MethodName := ⟨RX3, "leastOn", "(I)I"⟩
abbrev cX3_deliverLoads : ByteArray := prog_5_method_40_code
def yX3_deliverLoads : MethodName := ⟨RX3, "deliverLoads", "()V"⟩
abbrev cX3_payWages : ByteArray := prog_5_method_41_code
def yX3_payWages : MethodName := ⟨RX3, "payWages", "(I)V"⟩
def RX4 : String := "MuleTrain"
def TX4 : u_T := fun k => match k with
  | 0 => ("MuleTrain", "now", "LMuleTrain$Train;", true)
  | 1 => ("MuleTrain", "whatIf", "LMuleTrain$Train;", true)
  | 2 => ("MuleTrain", "history", "LMuleTrain$History;", true)
  | 3 => ("MuleTrain", "saved", "[LMuleTrain$Train;", true)
  | 4 => ("MuleTrain", "isSaved", "[Z", true)
  | 5 => ("MuleTrain", "parser", "LMuleTrain$Parser;", true)
  | 6 => ("MuleTrain", "output", "Ljava/lang/StringBuilder;", true)
  | _ => ("MuleTrain", "bestWithin", "[I", true)
def tyX4 : Nat → FieldType := fun k => match k with
  | 0 => .object "MuleTrain$Train"
  | 1 => .object "MuleTrain$Train"
  | 2 => .object "MuleTrain$History"
  | 3 => .array (.object "MuleTrain$Train")
  | 4 => .array .boolean
  | 5 => .object "MuleTrain$Parser"
  | 6 => .object "java/lang/StringBuilder"
  | _ => .array .int
abbrev wsX40 : List Cond := u_ws RX4 TX4 8
theorem nmX4 : ∀ a, a < 8 → ∀ b, b < 8 → a ≠ b → (TX4 a).2.1 ≠ (TX4 b).2.1 := by decide +kernel
theorem tyX4_ok : ∀ k, k < 8 → parseFieldDescriptor (TX4 k).2.2.1 = some (tyX4 k) := by decide +kernel
abbrev cX4_init : ByteArray := prog_1_method_1_code
def yX4_init : MethodName := ⟨RX4, "<init>", "()V"⟩
abbrev cX4_feed : ByteArray := prog_1_method_2_code
def yX4_feed : MethodName := ⟨RX4, "feed", "(IIIII)I"⟩
abbrev cX4_load : ByteArray := prog_1_method_3_code
def yX4_load : MethodName := ⟨RX4, "load", "(I)I"⟩
abbrev cX4_value : ByteArray := prog_1_method_6_code
def yX4_value : MethodName := ⟨RX4, "value", "(I)I"⟩
abbrev cX4_setting : ByteArray := prog_1_method_7_code
def yX4_setting : MethodName := ⟨RX4, "setting", "(I)I"⟩
abbrev cX4_count : ByteArray := prog_1_method_8_code
def yX4_count : MethodName := ⟨RX4, "count", "(I)I"⟩
abbrev cX4_mule : ByteArray := prog_1_method_9_code
def yX4_mule : MethodName := ⟨RX4, "mule", "(II)I"⟩
abbrev cX4_muleFact : ByteArray := prog_1_method_10_code
def yX4_muleFact : MethodName := ⟨RX4, "muleFact", "(II)I"⟩
abbrev cX4_sack : ByteArray := prog_1_method_12_code
def yX4_sack : MethodName := ⟨RX4, "sack", "(II)I"⟩
abbrev cX4_stage : ByteArray := prog_1_method_13_code
def yX4_stage : MethodName := ⟨RX4, "stage", "(II)I"⟩
abbrev cX4_gap : ByteArray := prog_1_method_14_code
def yX4_gap : MethodName := ⟨RX4, "gap", "()I"⟩
abbrev cX4_whyNot : ByteArray := prog_1_method_15_code
def yX4_whyNot : MethodName := ⟨RX4, "whyNot", "(II)I"⟩
abbrev cX4_whyNoTrip : ByteArray := prog_1_method_16_code
def yX4_whyNoTrip : MethodName := ⟨RX4, "whyNoTrip", "(I)I"⟩
abbrev cX4_tripBrings : ByteArray := prog_1_method_17_code
def yX4_tripBrings : MethodName := ⟨RX4, "tripBrings", "()I"⟩
abbrev cX4_fate : ByteArray := prog_1_method_18_code
def yX4_fate : MethodName := ⟨RX4, "fate", "(I)I"⟩
abbrev cX4_tiredBy : ByteArray := prog_1_method_19_code
def yX4_tiredBy : MethodName := ⟨RX4, "tiredBy", "(I)I"⟩
abbrev cX4_bestWorth : ByteArray := prog_1_method_20_code
def yX4_bestWorth : MethodName := ⟨RX4, "bestWorth", "(I)I"⟩
abbrev cX4_offerSack : ByteArray := prog_1_method_21_code
def yX4_offerSack : MethodName := ⟨RX4, "offerSack", "(III)V"⟩
abbrev cX4_bestSack : ByteArray := prog_1_method_22_code
def yX4_bestSack : MethodName := ⟨RX4, "bestSack", "(I)I"⟩
abbrev cX4_lighter : ByteArray := prog_1_method_23_code
def yX4_lighter : MethodName := ⟨RX4, "lighter", "(I)I"⟩
abbrev cX4_freshIn : ByteArray := prog_1_method_24_code
def yX4_freshIn : MethodName := ⟨RX4, "freshIn", "(I)I"⟩
abbrev cX4_deepest : ByteArray := prog_1_method_25_code
def yX4_deepest : MethodName := ⟨RX4, "deepest", "(I)I"⟩
abbrev cX4_worthOfLoads : ByteArray := prog_1_method_26_code
def yX4_worthOfLoads : MethodName := ⟨RX4, "worthOfLoads", "()D"⟩
abbrev cX4_filled : ByteArray := prog_1_method_27_code
def yX4_filled : MethodName := ⟨RX4, "filled", "(I)F"⟩
abbrev cX4_pack : ByteArray := prog_1_method_28_code
def yX4_pack : MethodName := ⟨RX4, "pack", "(III)I"⟩
abbrev cX4_unpack : ByteArray := prog_1_method_29_code
def yX4_unpack : MethodName := ⟨RX4, "unpack", "(I)I"⟩
abbrev cX4_fill : ByteArray := prog_1_method_30_code
def yX4_fill : MethodName := ⟨RX4, "fill", "(I)I"⟩
abbrev cX4_shift : ByteArray := prog_1_method_31_code
def yX4_shift : MethodName := ⟨RX4, "shift", "(I)I"⟩
abbrev cX4_trip : ByteArray := prog_1_method_32_code
def yX4_trip : MethodName := ⟨RX4, "trip", "()I"⟩
abbrev cX4_rest : ByteArray := prog_1_method_33_code
def yX4_rest : MethodName := ⟨RX4, "rest", "(I)I"⟩
abbrev cX4_addSack : ByteArray := prog_1_method_34_code
def yX4_addSack : MethodName := ⟨RX4, "addSack", "(III)I"⟩
abbrev cX4_addStage : ByteArray := prog_1_method_35_code
def yX4_addStage : MethodName := ⟨RX4, "addStage", "(II)I"⟩
abbrev cX4_dropStage : ByteArray := prog_1_method_36_code
def yX4_dropStage : MethodName := ⟨RX4, "dropStage", "(I)I"⟩
abbrev cX4_set : ByteArray := prog_1_method_37_code
def yX4_set : MethodName := ⟨RX4, "set", "(II)I"⟩
abbrev cX4_restore : ByteArray := prog_1_method_38_code
def yX4_restore : MethodName := ⟨RX4, "restore", "(I)I"⟩
abbrev cX4_undo : ByteArray := prog_1_method_39_code
def yX4_undo : MethodName := ⟨RX4, "undo", "()I"⟩
abbrev cX4_save : ByteArray := prog_1_method_40_code
def yX4_save : MethodName := ⟨RX4, "save", "(I)I"⟩
abbrev cX4_requireMule : ByteArray := prog_1_method_45_code
def yX4_requireMule : MethodName := ⟨RX4, "requireMule", "(I)V"⟩
abbrev cX4_requireSack : ByteArray := prog_1_method_46_code
def yX4_requireSack : MethodName := ⟨RX4, "requireSack", "(I)V"⟩
abbrev cX4_requireStage : ByteArray := prog_1_method_47_code
def yX4_requireStage : MethodName := ⟨RX4, "requireStage", "(I)V"⟩
abbrev cX4_requireSetting : ByteArray := prog_1_method_48_code
def yX4_requireSetting : MethodName := ⟨RX4, "requireSetting", "(I)V"⟩
abbrev cX4_requireSlot : ByteArray := prog_1_method_49_code
def yX4_requireSlot : MethodName := ⟨RX4, "requireSlot", "(I)V"⟩
abbrev cX4_requireOnMule : ByteArray := prog_1_method_50_code
def yX4_requireOnMule : MethodName := ⟨RX4, "requireOnMule", "(I)V"⟩
abbrev cX4_mostOfSetting : ByteArray := prog_1_method_51_code
def yX4_mostOfSetting : MethodName := ⟨RX4, "mostOfSetting", "(I)I"⟩
abbrev cX4_mostOfStage : ByteArray := prog_1_method_52_code
def yX4_mostOfStage : MethodName := ⟨RX4, "mostOfStage", "(I)I"⟩
def RX5 : String := "MuleTrainModel"
def TX5 : u_T := fun k => match k with
  | _ => ("", "", "", false)
def tyX5 : Nat → FieldType := fun k => match k with
  | _ => .int
abbrev wsX50 : List Cond := u_ws RX5 TX5 0
theorem nmX5 : ∀ a, a < 0 → ∀ b, b < 0 → a ≠ b → (TX5 a).2.1 ≠ (TX5 b).2.1 := by decide +kernel
theorem tyX5_ok : ∀ k, k < 0 → parseFieldDescriptor (TX5 k).2.2.1 = some (tyX5 k) := by decide +kernel
def RJx145de : String := "java/io/Serializable"
def TJx145de : u_T := fun k => match k with
  | _ => ("", "", "", false)
def tyJx145de : Nat → FieldType := fun k => match k with
  | _ => .int
abbrev wsJx145de0 : List Cond := u_ws RJx145de TJx145de 0
theorem nmJx145de : ∀ a, a < 0 → ∀ b, b < 0 → a ≠ b → (TJx145de a).2.1 ≠ (TJx145de b).2.1 := by decide +kernel
theorem tyJx145de_ok : ∀ k, k < 0 → parseFieldDescriptor (TJx145de k).2.2.1 = some (tyJx145de k) := by decide +kernel
def RJ5 : String := "java/lang/AbstractStringBuilder"
def TJ5 : u_T := fun k => match k with
  | _ => ("", "", "", false)
def tyJ5 : Nat → FieldType := fun k => match k with
  | _ => .int
abbrev wsJ50 : List Cond := u_ws RJ5 TJ5 0
theorem nmJ5 : ∀ a, a < 0 → ∀ b, b < 0 → a ≠ b → (TJ5 a).2.1 ≠ (TJ5 b).2.1 := by decide +kernel
theorem tyJ5_ok : ∀ k, k < 0 → parseFieldDescriptor (TJ5 k).2.2.1 = some (tyJ5 k) := by decide +kernel
abbrev cJ5_init_d00df : ByteArray := prog_9_method_2_code
def yJ5_init_d00df : MethodName := ⟨RJ5, "<init>", "(I)V"⟩
abbrev cJ5_init_a7421 : ByteArray := prog_9_method_3_code
def yJ5_init_a7421 : MethodName := ⟨RJ5, "<init>", "(Ljava/lang/String;)V"⟩
abbrev cJ5_length_8abf5 : ByteArray := prog_9_method_6_code
def yJ5_length_8abf5 : MethodName := ⟨RJ5, "length", "()I"⟩
abbrev cJ5_ensureCapacityInternal_d00df : ByteArray := prog_9_method_9_code
def yJ5_ensureCapacityInternal_d00df : MethodName := ⟨RJ5, "ensureCapacityInternal", "(I)V"⟩
abbrev cJ5_newCapacity_0f7a4 : ByteArray := prog_9_method_10_code
def yJ5_newCapacity_0f7a4 : MethodName := ⟨RJ5, "newCapacity", "(I)I"⟩
abbrev cJ5_inflate_da8c8 : ByteArray := prog_9_method_11_code
def yJ5_inflate_da8c8 : MethodName := ⟨RJ5, "inflate", "()V"⟩
abbrev cJ5_append_cf1ce : ByteArray := prog_9_method_22_code
def yJ5_append_cf1ce : MethodName := ⟨RJ5, "append", "(Ljava/lang/String;)Ljava/lang/AbstractStringBuilder;"⟩
abbrev cJ5_appendNull_278bc : ByteArray := prog_9_method_26_code
def yJ5_appendNull_278bc : MethodName := ⟨RJ5, "appendNull", "()Ljava/lang/AbstractStringBuilder;"⟩
abbrev cJ5_append_3fe6f : ByteArray := prog_9_method_31_code
def yJ5_append_3fe6f : MethodName := ⟨RJ5, "append", "(C)Ljava/lang/AbstractStringBuilder;"⟩
abbrev cJ5_append_c97b9 : ByteArray := prog_9_method_32_code
def yJ5_append_c97b9 : MethodName := ⟨RJ5, "append", "(I)Ljava/lang/AbstractStringBuilder;"⟩
abbrev cJ5_getValue_6d5f1 : ByteArray := prog_9_method_64_code
def yJ5_getValue_6d5f1 : MethodName := ⟨RJ5, "getValue", "()[B"⟩
abbrev cJ5_isLatin1_aae02 : ByteArray := prog_9_method_68_code
def yJ5_isLatin1_aae02 : MethodName := ⟨RJ5, "isLatin1", "()Z"⟩
abbrev cJ5_inflateIfNeededFor_a7421 : ByteArray := prog_9_method_71_code
def yJ5_inflateIfNeededFor_a7421 : MethodName := ⟨RJ5, "inflateIfNeededFor", "(Ljava/lang/String;)V"⟩
abbrev cJ5_putStringAt_47b60 : ByteArray := prog_9_method_73_code
def yJ5_putStringAt_47b60 : MethodName := ⟨RJ5, "putStringAt", "(ILjava/lang/String;)V"⟩
def RJx2cfe8 : String := "java/lang/Appendable"
def TJx2cfe8 : u_T := fun k => match k with
  | _ => ("", "", "", false)
def tyJx2cfe8 : Nat → FieldType := fun k => match k with
  | _ => .int
abbrev wsJx2cfe80 : List Cond := u_ws RJx2cfe8 TJx2cfe8 0
theorem nmJx2cfe8 : ∀ a, a < 0 → ∀ b, b < 0 → a ≠ b → (TJx2cfe8 a).2.1 ≠ (TJx2cfe8 b).2.1 := by decide +kernel
theorem tyJx2cfe8_ok : ∀ k, k < 0 → parseFieldDescriptor (TJx2cfe8 k).2.2.1 = some (tyJx2cfe8 k) := by decide +kernel
def RJx9f9b0 : String := "java/lang/CharSequence"
def TJx9f9b0 : u_T := fun k => match k with
  | _ => ("", "", "", false)
def tyJx9f9b0 : Nat → FieldType := fun k => match k with
  | _ => .int
abbrev wsJx9f9b00 : List Cond := u_ws RJx9f9b0 TJx9f9b0 0
theorem nmJx9f9b0 : ∀ a, a < 0 → ∀ b, b < 0 → a ≠ b → (TJx9f9b0 a).2.1 ≠ (TJx9f9b0 b).2.1 := by decide +kernel
theorem tyJx9f9b0_ok : ∀ k, k < 0 → parseFieldDescriptor (TJx9f9b0 k).2.2.1 = some (tyJx9f9b0 k) := by decide +kernel
def RJx8e188 : String := "java/lang/Cloneable"
def TJx8e188 : u_T := fun k => match k with
  | _ => ("", "", "", false)
def tyJx8e188 : Nat → FieldType := fun k => match k with
  | _ => .int
abbrev wsJx8e1880 : List Cond := u_ws RJx8e188 TJx8e188 0
theorem nmJx8e188 : ∀ a, a < 0 → ∀ b, b < 0 → a ≠ b → (TJx8e188 a).2.1 ≠ (TJx8e188 b).2.1 := by decide +kernel
theorem tyJx8e188_ok : ∀ k, k < 0 → parseFieldDescriptor (TJx8e188 k).2.2.1 = some (tyJx8e188 k) := by decide +kernel
def RJxb160c : String := "java/lang/Comparable"
def TJxb160c : u_T := fun k => match k with
  | _ => ("", "", "", false)
def tyJxb160c : Nat → FieldType := fun k => match k with
  | _ => .int
abbrev wsJxb160c0 : List Cond := u_ws RJxb160c TJxb160c 0
theorem nmJxb160c : ∀ a, a < 0 → ∀ b, b < 0 → a ≠ b → (TJxb160c a).2.1 ≠ (TJxb160c b).2.1 := by decide +kernel
theorem tyJxb160c_ok : ∀ k, k < 0 → parseFieldDescriptor (TJxb160c k).2.2.1 = some (tyJxb160c k) := by decide +kernel
def RJ6 : String := "java/lang/Integer"
def TJ6 : u_T := fun k => match k with
  | _ => ("", "", "", false)
def tyJ6 : Nat → FieldType := fun k => match k with
  | _ => .int
abbrev wsJ60 : List Cond := u_ws RJ6 TJ6 0
theorem nmJ6 : ∀ a, a < 0 → ∀ b, b < 0 → a ≠ b → (TJ6 a).2.1 ≠ (TJ6 b).2.1 := by decide +kernel
theorem tyJ6_ok : ∀ k, k < 0 → parseFieldDescriptor (TJ6 k).2.2.1 = some (tyJ6 k) := by decide +kernel
abbrev cJ6_getChars_ba4f3 : ByteArray := prog_17_method_12_code
def yJ6_getChars_ba4f3 : MethodName := ⟨RJ6, "getChars", "(II[B)I"⟩
abbrev cJ6_stringSize_0f7a4 : ByteArray := prog_17_method_13_code
def yJ6_stringSize_0f7a4 : MethodName := ⟨RJ6, "stringSize", "(I)I"⟩
abbrev cJ6_bitCount_0f7a4 : ByteArray := prog_17_method_49_code
def yJ6_bitCount_0f7a4 : MethodName := ⟨RJ6, "bitCount", "(I)I"⟩
def RJ9 : String := "java/lang/Math"
def TJ9 : u_T := fun k => match k with
  | _ => ("", "", "", false)
def tyJ9 : Nat → FieldType := fun k => match k with
  | _ => .int
abbrev wsJ90 : List Cond := u_ws RJ9 TJ9 0
theorem nmJ9 : ∀ a, a < 0 → ∀ b, b < 0 → a ≠ b → (TJ9 a).2.1 ≠ (TJ9 b).2.1 := by decide +kernel
theorem tyJ9_ok : ∀ k, k < 0 → parseFieldDescriptor (TJ9 k).2.2.1 = some (tyJ9 k) := by decide +kernel
abbrev cJ9_abs_0f7a4 : ByteArray := prog_18_method_59_code
def yJ9_abs_0f7a4 : MethodName := ⟨RJ9, "abs", "(I)I"⟩
abbrev cJ9_max_7cf53 : ByteArray := prog_18_method_65_code
def yJ9_max_7cf53 : MethodName := ⟨RJ9, "max", "(II)I"⟩
abbrev cJ9_min_7cf53 : ByteArray := prog_18_method_69_code
def yJ9_min_7cf53 : MethodName := ⟨RJ9, "min", "(II)I"⟩
def RJxd2413 : String := "java/lang/Number"
def TJxd2413 : u_T := fun k => match k with
  | _ => ("", "", "", false)
def tyJxd2413 : Nat → FieldType := fun k => match k with
  | _ => .int
abbrev wsJxd24130 : List Cond := u_ws RJxd2413 TJxd2413 0
theorem nmJxd2413 : ∀ a, a < 0 → ∀ b, b < 0 → a ≠ b → (TJxd2413 a).2.1 ≠ (TJxd2413 b).2.1 := by decide +kernel
theorem tyJxd2413_ok : ∀ k, k < 0 → parseFieldDescriptor (TJxd2413 k).2.2.1 = some (tyJxd2413 k) := by decide +kernel
def RJ0 : String := "java/lang/String"
def TJ0 : u_T := fun k => match k with
  | 0 => ("java/lang/String", "value", "[B", true)
  | 1 => ("java/lang/String", "coder", "B", true)
  | 2 => ("java/lang/String", "hash", "I", false)
  | _ => ("java/lang/String", "hashIsZero", "Z", false)
def tyJ0 : Nat → FieldType := fun k => match k with
  | 0 => .array .byte
  | 1 => .byte
  | 2 => .int
  | _ => .boolean
abbrev wsJ00 : List Cond := u_ws RJ0 TJ0 4
theorem nmJ0 : ∀ a, a < 4 → ∀ b, b < 4 → a ≠ b → (TJ0 a).2.1 ≠ (TJ0 b).2.1 := by decide +kernel
theorem tyJ0_ok : ∀ k, k < 4 → parseFieldDescriptor (TJ0 k).2.2.1 = some (tyJ0 k) := by decide +kernel
abbrev cJ0_init_81219 : ByteArray := prog_21_method_53_code
def yJ0_init_81219 : MethodName := ⟨RJ0, "<init>", "(Ljava/lang/StringBuilder;)V"⟩
abbrev cJ0_length_8abf5 : ByteArray := prog_21_method_54_code
def yJ0_length_8abf5 : MethodName := ⟨RJ0, "length", "()I"⟩
abbrev cJ0_charAt_5068e : ByteArray := prog_21_method_56_code
def yJ0_charAt_5068e : MethodName := ⟨RJ0, "charAt", "(I)C"⟩
abbrev cJ0_getBytes_840e7 : ByteArray := prog_21_method_147_code
def yJ0_getBytes_840e7 : MethodName := ⟨RJ0, "getBytes", "([BIB)V"⟩
abbrev cJ0_init_db425 : ByteArray := prog_21_method_150_code
def yJ0_init_db425 : MethodName := ⟨RJ0, "<init>", "(Ljava/lang/AbstractStringBuilder;Ljava/lang/Void;)V"⟩
abbrev cJ0_coder_7d493 : ByteArray := prog_21_method_152_code
def yJ0_coder_7d493 : MethodName := ⟨RJ0, "coder", "()B"⟩
abbrev cJ0_isLatin1_aae02 : ByteArray := prog_21_method_154_code
def yJ0_isLatin1_aae02 : MethodName := ⟨RJ0, "isLatin1", "()Z"⟩
abbrev cJ0_checkIndex_df160 : ByteArray := prog_21_method_155_code
def yJ0_checkIndex_df160 : MethodName := ⟨RJ0, "checkIndex", "(II)V"⟩
abbrev cJ0_checkBoundsOffCount_cabcc : ByteArray := prog_21_method_157_code
def yJ0_checkBoundsOffCount_cabcc : MethodName := ⟨RJ0, "checkBoundsOffCount", "(III)I"⟩
abbrev cJ0_checkBoundsBeginEnd_23922 : ByteArray := prog_21_method_158_code
def yJ0_checkBoundsBeginEnd_23922 : MethodName := ⟨RJ0, "checkBoundsBeginEnd", "(III)V"⟩
def RJ4 : String := "java/lang/StringBuilder"
def TJ4 : u_T := fun k => match k with
  | 0 => ("java/lang/AbstractStringBuilder", "value", "[B", false)
  | 1 => ("java/lang/AbstractStringBuilder", "coder", "B", false)
  | 2 => ("java/lang/AbstractStringBuilder", "maybeLatin1", "Z", false)
  | _ => ("java/lang/AbstractStringBuilder", "count", "I", false)
def tyJ4 : Nat → FieldType := fun k => match k with
  | 0 => .array .byte
  | 1 => .byte
  | 2 => .boolean
  | _ => .int
abbrev wsJ40 : List Cond := u_ws RJ4 TJ4 4
theorem nmJ4 : ∀ a, a < 4 → ∀ b, b < 4 → a ≠ b → (TJ4 a).2.1 ≠ (TJ4 b).2.1 := by decide +kernel
theorem tyJ4_ok : ∀ k, k < 4 → parseFieldDescriptor (TJ4 k).2.2.1 = some (tyJ4 k) := by decide +kernel
abbrev cJ4_init_da8c8 : ByteArray := prog_22_method_1_code
def yJ4_init_da8c8 : MethodName := ⟨RJ4, "<init>", "()V"⟩
abbrev cJ4_init_a7421 : ByteArray := prog_22_method_3_code
def yJ4_init_a7421 : MethodName := ⟨RJ4, "<init>", "(Ljava/lang/String;)V"⟩
abbrev cJ4_append_15ec4 : ByteArray := prog_22_method_7_code
def yJ4_append_15ec4 : MethodName := ⟨RJ4, "append", "(Ljava/lang/String;)Ljava/lang/StringBuilder;"⟩
abbrev cJ4_append_cf468 : ByteArray := prog_22_method_14_code
def yJ4_append_cf468 : MethodName := ⟨RJ4, "append", "(C)Ljava/lang/StringBuilder;"⟩
abbrev cJ4_append_bf812 : ByteArray := prog_22_method_15_code
def yJ4_append_bf812 : MethodName := ⟨RJ4, "append", "(I)Ljava/lang/StringBuilder;"⟩
abbrev cJ4_toString_0e30d : ByteArray := prog_22_method_42_code
def yJ4_toString_0e30d : MethodName := ⟨RJ4, "toString", "()Ljava/lang/String;"⟩
abbrev cJ4_append_cf1ce : ByteArray := prog_22_method_80_code
def yJ4_append_cf1ce : MethodName := ⟨RJ4, "append", "(Ljava/lang/String;)Ljava/lang/AbstractStringBuilder;"⟩
abbrev cJ4_length_8abf5 : ByteArray := prog_22_method_93_code
def yJ4_length_8abf5 : MethodName := ⟨RJ4, "length", "()I"⟩
def RJ1 : String := "java/lang/StringLatin1"
def TJ1 : u_T := fun k => match k with
  | _ => ("", "", "", false)
def tyJ1 : Nat → FieldType := fun k => match k with
  | _ => .int
abbrev wsJ10 : List Cond := u_ws RJ1 TJ1 0
theorem nmJ1 : ∀ a, a < 0 → ∀ b, b < 0 → a ≠ b → (TJ1 a).2.1 ≠ (TJ1 b).2.1 := by decide +kernel
theorem tyJ1_ok : ∀ k, k < 0 → parseFieldDescriptor (TJ1 k).2.2.1 = some (tyJ1 k) := by decide +kernel
abbrev cJ1_charAt_3b067 : ByteArray := prog_23_method_2_code
def yJ1_charAt_3b067 : MethodName := ⟨RJ1, "charAt", "([BI)C"⟩
abbrev cJ1_canEncode_fc78d : ByteArray := prog_23_method_3_code
def yJ1_canEncode_fc78d : MethodName := ⟨RJ1, "canEncode", "(C)Z"⟩
abbrev cJ1_inflate_0e8fd : ByteArray := prog_23_method_50_code
def yJ1_inflate_0e8fd : MethodName := ⟨RJ1, "inflate", "([BI[BII)V"⟩
def RJ2 : String := "java/lang/StringUTF16"
def TJ2 : u_T := fun k => match k with
  | _ => ("", "", "", false)
def tyJ2 : Nat → FieldType := fun k => match k with
  | _ => .int
abbrev wsJ20 : List Cond := u_ws RJ2 TJ2 0
theorem nmJ2 : ∀ a, a < 0 → ∀ b, b < 0 → a ≠ b → (TJ2 a).2.1 ≠ (TJ2 b).2.1 := by decide +kernel
theorem tyJ2_ok : ∀ k, k < 0 → parseFieldDescriptor (TJ2 k).2.2.1 = some (tyJ2 k) := by decide +kernel
abbrev cJ2_newBytesFor_77867 : ByteArray := prog_24_method_2_code
def yJ2_newBytesFor_77867 : MethodName := ⟨RJ2, "newBytesFor", "(I)[B"⟩
abbrev cJ2_newBytesLength_0f7a4 : ByteArray := prog_24_method_3_code
def yJ2_newBytesLength_0f7a4 : MethodName := ⟨RJ2, "newBytesLength", "(I)I"⟩
abbrev cJ2_putChar_b72d1 : ByteArray := prog_24_method_4_code
def yJ2_putChar_b72d1 : MethodName := ⟨RJ2, "putChar", "([BII)V"⟩
abbrev cJ2_getChar_3b067 : ByteArray := prog_24_method_5_code
def yJ2_getChar_3b067 : MethodName := ⟨RJ2, "getChar", "([BI)C"⟩
abbrev cJ2_length_9d52b : ByteArray := prog_24_method_6_code
def yJ2_length_9d52b : MethodName := ⟨RJ2, "length", "([B)I"⟩
abbrev cJ2_coderFromArrayLen_85cad : ByteArray := prog_24_method_15_code
def yJ2_coderFromArrayLen_85cad : MethodName := ⟨RJ2, "coderFromArrayLen", "([BI)B"⟩
abbrev cJ2_compress_39247 : ByteArray := prog_24_method_17_code
def yJ2_compress_39247 : MethodName := ⟨RJ2, "compress", "([BII)[B"⟩
abbrev cJ2_compress_5af95 : ByteArray := prog_24_method_22_code
def yJ2_compress_5af95 : MethodName := ⟨RJ2, "compress", "([BI[BII)I"⟩
abbrev cJ2_putCharSB_b72d1 : ByteArray := prog_24_method_71_code
def yJ2_putCharSB_b72d1 : MethodName := ⟨RJ2, "putCharSB", "([BII)V"⟩
abbrev cJ2_getChars_46870 : ByteArray := prog_24_method_77_code
def yJ2_getChars_46870 : MethodName := ⟨RJ2, "getChars", "(III[B)I"⟩
abbrev cJ2_putCharsAt_cd4e5 : ByteArray := prog_24_method_81_code
def yJ2_putCharsAt_cd4e5 : MethodName := ⟨RJ2, "putCharsAt", "([BICCCC)I"⟩
abbrev cJ2_charAt_3b067 : ByteArray := prog_24_method_83_code
def yJ2_charAt_3b067 : MethodName := ⟨RJ2, "charAt", "([BI)C"⟩
abbrev cJ2_inflate_0e8fd : ByteArray := prog_24_method_86_code
def yJ2_inflate_0e8fd : MethodName := ⟨RJ2, "inflate", "([BI[BII)V"⟩
abbrev cJ2_getChars_ba4f3 : ByteArray := prog_24_method_89_code
def yJ2_getChars_ba4f3 : MethodName := ⟨RJ2, "getChars", "(II[B)I"⟩
abbrev cJ2_checkIndex_2214a : ByteArray := prog_24_method_91_code
def yJ2_checkIndex_2214a : MethodName := ⟨RJ2, "checkIndex", "(I[B)V"⟩
abbrev cJ2_checkBoundsBeginEnd_d044e : ByteArray := prog_24_method_93_code
def yJ2_checkBoundsBeginEnd_d044e : MethodName := ⟨RJ2, "checkBoundsBeginEnd", "(II[B)V"⟩
abbrev cJ2_checkBoundsOffCount_d044e : ByteArray := prog_24_method_94_code
def yJ2_checkBoundsOffCount_d044e : MethodName := ⟨RJ2, "checkBoundsOffCount", "(II[B)V"⟩
def RJ10 : String := "java/lang/System"
def TJ10 : u_T := fun k => match k with
  | _ => ("", "", "", false)
def tyJ10 : Nat → FieldType := fun k => match k with
  | _ => .int
abbrev wsJ100 : List Cond := u_ws RJ10 TJ10 0
theorem nmJ10 : ∀ a, a < 0 → ∀ b, b < 0 → a ≠ b → (TJ10 a).2.1 ≠ (TJ10 b).2.1 := by decide +kernel
theorem tyJ10_ok : ∀ k, k < 0 → parseFieldDescriptor (TJ10 k).2.2.1 = some (tyJ10 k) := by decide +kernel
def RJxfd54e : String := "java/lang/constant/Constable"
def TJxfd54e : u_T := fun k => match k with
  | _ => ("", "", "", false)
def tyJxfd54e : Nat → FieldType := fun k => match k with
  | _ => .int
abbrev wsJxfd54e0 : List Cond := u_ws RJxfd54e TJxfd54e 0
theorem nmJxfd54e : ∀ a, a < 0 → ∀ b, b < 0 → a ≠ b → (TJxfd54e a).2.1 ≠ (TJxfd54e b).2.1 := by decide +kernel
theorem tyJxfd54e_ok : ∀ k, k < 0 → parseFieldDescriptor (TJxfd54e k).2.2.1 = some (tyJxfd54e k) := by decide +kernel
def RJx3cf43 : String := "java/lang/constant/ConstantDesc"
def TJx3cf43 : u_T := fun k => match k with
  | _ => ("", "", "", false)
def tyJx3cf43 : Nat → FieldType := fun k => match k with
  | _ => .int
abbrev wsJx3cf430 : List Cond := u_ws RJx3cf43 TJx3cf43 0
theorem nmJx3cf43 : ∀ a, a < 0 → ∀ b, b < 0 → a ≠ b → (TJx3cf43 a).2.1 ≠ (TJx3cf43 b).2.1 := by decide +kernel
theorem tyJx3cf43_ok : ∀ k, k < 0 → parseFieldDescriptor (TJx3cf43 k).2.2.1 = some (tyJx3cf43 k) := by decide +kernel
def RJ7 : String := "java/util/Arrays"
def TJ7 : u_T := fun k => match k with
  | _ => ("", "", "", false)
def tyJ7 : Nat → FieldType := fun k => match k with
  | _ => .int
abbrev wsJ70 : List Cond := u_ws RJ7 TJ7 0
theorem nmJ7 : ∀ a, a < 0 → ∀ b, b < 0 → a ≠ b → (TJ7 a).2.1 ≠ (TJ7 b).2.1 := by decide +kernel
theorem tyJ7_ok : ∀ k, k < 0 → parseFieldDescriptor (TJ7 k).2.2.1 = some (tyJ7 k) := by decide +kernel
abbrev cJ7_copyOf_9075b : ByteArray := prog_29_method_121_code
def yJ7_copyOf_9075b : MethodName := ⟨RJ7, "copyOf", "([BI)[B"⟩
abbrev cJ7_checkLength_df160 : ByteArray := prog_29_method_131_code
def yJ7_checkLength_df160 : MethodName := ⟨RJ7, "checkLength", "(II)V"⟩
abbrev cJ7_copyOfRange_39247 : ByteArray := prog_29_method_132_code
def yJ7_copyOfRange_39247 : MethodName := ⟨RJ7, "copyOfRange", "([BII)[B"⟩
abbrev cJ7_copyOfRangeByte_39247 : ByteArray := prog_29_method_133_code
def yJ7_copyOfRangeByte_39247 : MethodName := ⟨RJ7, "copyOfRangeByte", "([BII)[B"⟩
def RJ8 : String := "jdk/internal/util/ArraysSupport"
def TJ8 : u_T := fun k => match k with
  | _ => ("", "", "", false)
def tyJ8 : Nat → FieldType := fun k => match k with
  | _ => .int
abbrev wsJ80 : List Cond := u_ws RJ8 TJ8 0
theorem nmJ8 : ∀ a, a < 0 → ∀ b, b < 0 → a ≠ b → (TJ8 a).2.1 ≠ (TJ8 b).2.1 := by decide +kernel
theorem tyJ8_ok : ∀ k, k < 0 → parseFieldDescriptor (TJ8 k).2.2.1 = some (tyJ8 k) := by decide +kernel
abbrev cJ8_newLength_cabcc : ByteArray := prog_31_method_27_code
def yJ8_newLength_cabcc : MethodName := ⟨RJ8, "newLength", "(III)I"⟩
abbrev cJ8_hugeLength_7cf53 : ByteArray := prog_31_method_28_code
def yJ8_hugeLength_7cf53 : MethodName := ⟨RJ8, "hugeLength", "(II)I"⟩
def RJ3 : String := "jdk/internal/util/Preconditions"
def TJ3 : u_T := fun k => match k with
  | _ => ("", "", "", false)
def tyJ3 : Nat → FieldType := fun k => match k with
  | _ => .int
abbrev wsJ30 : List Cond := u_ws RJ3 TJ3 0
theorem nmJ3 : ∀ a, a < 0 → ∀ b, b < 0 → a ≠ b → (TJ3 a).2.1 ≠ (TJ3 b).2.1 := by decide +kernel
theorem tyJ3_ok : ∀ k, k < 0 → parseFieldDescriptor (TJ3 k).2.2.1 = some (tyJ3 k) := by decide +kernel
abbrev cJ3_checkIndex_8e157 : ByteArray := prog_32_method_11_code
def yJ3_checkIndex_8e157 : MethodName := ⟨RJ3, "checkIndex", "(IILjava/util/function/BiFunction;)I"⟩
abbrev cJ3_checkFromToIndex_8c36e : ByteArray := prog_32_method_12_code
def yJ3_checkFromToIndex_8c36e : MethodName := ⟨RJ3, "checkFromToIndex", "(IIILjava/util/function/BiFunction;)I"⟩
abbrev cJ3_checkFromIndexSize_8c36e : ByteArray := prog_32_method_13_code
def yJ3_checkFromIndexSize_8c36e : MethodName := ⟨RJ3, "checkFromIndexSize", "(IIILjava/util/function/BiFunction;)I"⟩
def RL : String := "MuleTrainLaw"
abbrev cL_next : ByteArray := method_2_code
def yL_next : MethodName := ⟨RL, "next", "([I)I"⟩
abbrev cL_type : ByteArray := method_3_code
def yL_type : MethodName := ⟨RL, "type", "(LMuleTrain;Ljava/lang/String;)I"⟩
abbrev cL_load : ByteArray := method_4_code
def yL_load : MethodName := ⟨RL, "load", "(LMuleTrain;Ljava/lang/String;)I"⟩
abbrev cL_undone : ByteArray := method_5_code
def yL_undone : MethodName := ⟨RL, "undone", "(LMuleTrain;)I"⟩
abbrev cL_packed : ByteArray := method_6_code
def yL_packed : MethodName := ⟨RL, "packed", "(LMuleTrain;III)I"⟩
abbrev cL_unpacked : ByteArray := method_7_code
def yL_unpacked : MethodName := ⟨RL, "unpacked", "(LMuleTrain;I)I"⟩
abbrev cL_filled : ByteArray := method_8_code
def yL_filled : MethodName := ⟨RL, "filled", "(LMuleTrain;I)I"⟩
abbrev cL_shifted : ByteArray := method_9_code
def yL_shifted : MethodName := ⟨RL, "shifted", "(LMuleTrain;I)I"⟩
abbrev cL_went : ByteArray := method_10_code
def yL_went : MethodName := ⟨RL, "went", "(LMuleTrain;)I"⟩
abbrev cL_rested : ByteArray := method_11_code
def yL_rested : MethodName := ⟨RL, "rested", "(LMuleTrain;I)I"⟩
abbrev cL_added : ByteArray := method_12_code
def yL_added : MethodName := ⟨RL, "added", "(LMuleTrain;III)I"⟩
abbrev cL_staged : ByteArray := method_13_code
def yL_staged : MethodName := ⟨RL, "staged", "(LMuleTrain;II)I"⟩
abbrev cL_dropped : ByteArray := method_14_code
def yL_dropped : MethodName := ⟨RL, "dropped", "(LMuleTrain;I)I"⟩
abbrev cL_setTo : ByteArray := method_15_code
def yL_setTo : MethodName := ⟨RL, "setTo", "(LMuleTrain;II)I"⟩
abbrev cL_train : ByteArray := method_16_code
def yL_train : MethodName := ⟨RL, "train", "(II[I)Ljava/lang/String;"⟩
abbrev cL_sum : ByteArray := method_17_code
def yL_sum : MethodName := ⟨RL, "sum", "(LMuleTrain;)J"⟩
abbrev cL_mules : ByteArray := method_18_code
def yL_mules : MethodName := ⟨RL, "mules", "(LMuleTrain;)Z"⟩
abbrev cL_sacks : ByteArray := method_19_code
def yL_sacks : MethodName := ⟨RL, "sacks", "(LMuleTrain;)Z"⟩
abbrev cL_act : ByteArray := method_20_code
def yL_act : MethodName := ⟨RL, "act", "(LMuleTrain;[I)Z"⟩
abbrev cL_law : ByteArray := code
def yL_law : MethodName := ⟨RL, "law", "([I)Z"⟩
abbrev vwCl : List vw_C := [(RJ0, TJ0, 4), (RJ4, TJ4, 4), (RX0, TX0, 3), (RX1, TX1, 11), (RX2, TX2, 3), (RX3, TX3, 7), (RX4, TX4, 8)]
