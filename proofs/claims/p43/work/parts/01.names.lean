def RX0 : String := "SlantGauges$History"
def TX0 : u_T := fun k => match k with
  | 0 => ("SlantGauges$History", "rows", "[LSlantGauges$Row;", true)
  | 1 => ("SlantGauges$History", "oldest", "I", false)
  | _ => ("SlantGauges$History", "count", "I", false)
def tyX0 : Nat → FieldType := fun k => match k with
  | 0 => .array (.object "SlantGauges$Row")
  | 1 => .int
  | _ => .int
abbrev wsX00 : List Cond := u_ws RX0 TX0 3
theorem nmX0 : ∀ a, a < 3 → ∀ b, b < 3 → a ≠ b → (TX0 a).2.1 ≠ (TX0 b).2.1 := by decide +kernel
theorem tyX0_ok : ∀ k, k < 3 → parseFieldDescriptor (TX0 k).2.2.1 = some (tyX0 k) := by decide +kernel
def RX1 : String := "SlantGauges$Leg"
def TX1 : u_T := fun k => match k with
  | 0 => ("SlantGauges$Leg", "density", "I", false)
  | 1 => ("SlantGauges$Leg", "area", "I", false)
  | 2 => ("SlantGauges$Leg", "curve", "I", false)
  | 3 => ("SlantGauges$Leg", "stock", "J", false)
  | 4 => ("SlantGauges$Leg", "lost", "J", false)
  | 5 => ("SlantGauges$Leg", "refilled", "J", false)
  | _ => ("SlantGauges$Leg", "level", "J", false)
def tyX1 : Nat → FieldType := fun k => match k with
  | 0 => .int
  | 1 => .int
  | 2 => .int
  | 3 => .long
  | 4 => .long
  | 5 => .long
  | _ => .long
abbrev wsX10 : List Cond := u_ws RX1 TX1 7
theorem nmX1 : ∀ a, a < 7 → ∀ b, b < 7 → a ≠ b → (TX1 a).2.1 ≠ (TX1 b).2.1 := by decide +kernel
theorem tyX1_ok : ∀ k, k < 7 → parseFieldDescriptor (TX1 k).2.2.1 = some (tyX1 k) := by decide +kernel
def RX3 : String := "SlantGauges$Row"
def TX3 : u_T := fun k => match k with
  | 0 => ("SlantGauges$Row", "points", "I", false)
  | 1 => ("SlantGauges$Row", "reference", "I", false)
  | 2 => ("SlantGauges$Row", "tubeCount", "I", false)
  | 3 => ("SlantGauges$Row", "pressures", "[I", true)
  | 4 => ("SlantGauges$Row", "left", "LSlantGauges$Leg;", true)
  | 5 => ("SlantGauges$Row", "right", "LSlantGauges$Leg;", true)
  | 6 => ("SlantGauges$Row", "tubes", "[LSlantGauges$Tube;", true)
  | _ => ("SlantGauges$Row", "spare", "LSlantGauges$Tube;", true)
def tyX3 : Nat → FieldType := fun k => match k with
  | 0 => .int
  | 1 => .int
  | 2 => .int
  | 3 => .array .int
  | 4 => .object "SlantGauges$Leg"
  | 5 => .object "SlantGauges$Leg"
  | 6 => .array (.object "SlantGauges$Tube")
  | _ => .object "SlantGauges$Tube"
abbrev wsX30 : List Cond := u_ws RX3 TX3 8
theorem nmX3 : ∀ a, a < 8 → ∀ b, b < 8 → a ≠ b → (TX3 a).2.1 ≠ (TX3 b).2.1 := by decide +kernel
theorem tyX3_ok : ∀ k, k < 8 → parseFieldDescriptor (TX3 k).2.2.1 = some (tyX3 k) := by decide +kernel
def RX4 : String := "SlantGauges$TextGrammar"
def TX4 : u_T := fun k => match k with
  | 0 => ("SlantGauges$TextGrammar", "tokens", "LSlantGauges$Tokens;", true)
  | _ => ("SlantGauges$TextGrammar", "row", "LSlantGauges$Row;", true)
def tyX4 : Nat → FieldType := fun k => match k with
  | 0 => .object "SlantGauges$Tokens"
  | _ => .object "SlantGauges$Row"
abbrev wsX40 : List Cond := u_ws RX4 TX4 2
theorem nmX4 : ∀ a, a < 2 → ∀ b, b < 2 → a ≠ b → (TX4 a).2.1 ≠ (TX4 b).2.1 := by decide +kernel
theorem tyX4_ok : ∀ k, k < 2 → parseFieldDescriptor (TX4 k).2.2.1 = some (tyX4 k) := by decide +kernel
def RX5 : String := "SlantGauges$Tokens"
def TX5 : u_T := fun k => match k with
  | 0 => ("SlantGauges$Tokens", "bytes", "[B", true)
  | 1 => ("SlantGauges$Tokens", "filled", "I", false)
  | 2 => ("SlantGauges$Tokens", "end", "I", false)
  | 3 => ("SlantGauges$Tokens", "next", "I", false)
  | 4 => ("SlantGauges$Tokens", "start", "I", false)
  | 5 => ("SlantGauges$Tokens", "kind", "I", false)
  | 6 => ("SlantGauges$Tokens", "number", "I", false)
  | 7 => ("SlantGauges$Tokens", "errorCode", "I", false)
  | _ => ("SlantGauges$Tokens", "errorAt", "I", false)
def tyX5 : Nat → FieldType := fun k => match k with
  | 0 => .array .byte
  | 1 => .int
  | 2 => .int
  | 3 => .int
  | 4 => .int
  | 5 => .int
  | 6 => .int
  | 7 => .int
  | _ => .int
abbrev wsX50 : List Cond := u_ws RX5 TX5 9
theorem nmX5 : ∀ a, a < 9 → ∀ b, b < 9 → a ≠ b → (TX5 a).2.1 ≠ (TX5 b).2.1 := by decide +kernel
theorem tyX5_ok : ∀ k, k < 9 → parseFieldDescriptor (TX5 k).2.2.1 = some (tyX5 k) := by decide +kernel
def RX6 : String := "SlantGauges$Tube"
def TX6 : u_T := fun k => match k with
  | 0 => ("SlantGauges$Tube", "leg", "I", false)
  | 1 => ("SlantGauges$Tube", "point", "I", false)
  | 2 => ("SlantGauges$Tube", "bore", "I", false)
  | 3 => ("SlantGauges$Tube", "slant", "I", false)
  | 4 => ("SlantGauges$Tube", "length", "I", false)
  | 5 => ("SlantGauges$Tube", "mark", "I", false)
  | 6 => ("SlantGauges$Tube", "state", "I", false)
  | 7 => ("SlantGauges$Tube", "pull", "I", false)
  | 8 => ("SlantGauges$Tube", "meniscus", "I", false)
  | _ => ("SlantGauges$Tube", "column", "I", false)
def tyX6 : Nat → FieldType := fun k => match k with
  | 0 => .int
  | 1 => .int
  | 2 => .int
  | 3 => .int
  | 4 => .int
  | 5 => .int
  | 6 => .int
  | 7 => .int
  | 8 => .int
  | _ => .int
abbrev wsX60 : List Cond := u_ws RX6 TX6 10
theorem nmX6 : ∀ a, a < 10 → ∀ b, b < 10 → a ≠ b → (TX6 a).2.1 ≠ (TX6 b).2.1 := by decide +kernel
theorem tyX6_ok : ∀ k, k < 10 → parseFieldDescriptor (TX6 k).2.2.1 = some (tyX6 k) := by decide +kernel
def RX7 : String := "SlantGauges"
def TX7 : u_T := fun k => match k with
  | 0 => ("SlantGauges", "current", "LSlantGauges$Row;", true)
  | 1 => ("SlantGauges", "trial", "LSlantGauges$Row;", true)
  | 2 => ("SlantGauges", "snapshot", "LSlantGauges$Row;", true)
  | 3 => ("SlantGauges", "history", "LSlantGauges$History;", true)
  | 4 => ("SlantGauges", "tokens", "LSlantGauges$Tokens;", true)
  | 5 => ("SlantGauges", "formatted", "Ljava/lang/StringBuilder;", true)
  | _ => ("SlantGauges", "snapshotTaken", "Z", false)
def tyX7 : Nat → FieldType := fun k => match k with
  | 0 => .object "SlantGauges$Row"
  | 1 => .object "SlantGauges$Row"
  | 2 => .object "SlantGauges$Row"
  | 3 => .object "SlantGauges$History"
  | 4 => .object "SlantGauges$Tokens"
  | 5 => .object "java/lang/StringBuilder"
  | _ => .boolean
abbrev wsX70 : List Cond := u_ws RX7 TX7 7
theorem nmX7 : ∀ a, a < 7 → ∀ b, b < 7 → a ≠ b → (TX7 a).2.1 ≠ (TX7 b).2.1 := by decide +kernel
theorem tyX7_ok : ∀ k, k < 7 → parseFieldDescriptor (TX7 k).2.2.1 = some (tyX7 k) := by decide +kernel
def RJ0 : String := "java/lang/String"
def TJ0 : u_T := fun k => match k with
  | _ => ("", "", "", false)
def tyJ0 : Nat → FieldType := fun k => match k with
  | _ => .int
abbrev wsJ00 : List Cond := u_ws RJ0 TJ0 0
theorem nmJ0 : ∀ a, a < 0 → ∀ b, b < 0 → a ≠ b → (TJ0 a).2.1 ≠ (TJ0 b).2.1 := by decide +kernel
theorem tyJ0_ok : ∀ k, k < 0 → parseFieldDescriptor (TJ0 k).2.2.1 = some (tyJ0 k) := by decide +kernel
def RJ4 : String := "java/lang/StringBuilder"
def TJ4 : u_T := fun k => match k with
  | 0 => ("java/lang/AbstractStringBuilder", "value", "[B", false)
  | 1 => ("java/lang/AbstractStringBuilder", "coder", "B", false)
  | 2 => ("java/lang/AbstractStringBuilder", "maybeLatin1", "Z", false)
  | _ => ("java/lang/AbstractStringBuilder", "count", "I", false)
def tyJ4 : Nat → FieldType := fun k => match k with
  | 0 => .array .byte
  | 1 => .byte
  | 2 => .boolean
  | _ => .int
abbrev wsJ40 : List Cond := u_ws RJ4 TJ4 4
theorem nmJ4 : ∀ a, a < 4 → ∀ b, b < 4 → a ≠ b → (TJ4 a).2.1 ≠ (TJ4 b).2.1 := by decide +kernel
theorem tyJ4_ok : ∀ k, k < 4 → parseFieldDescriptor (TJ4 k).2.2.1 = some (tyJ4 k) := by decide +kernel
def RJ5 : String := "java/lang/AbstractStringBuilder"
def TJ5 : u_T := fun k => match k with
  | _ => ("", "", "", false)
def tyJ5 : Nat → FieldType := fun k => match k with
  | _ => .int
abbrev wsJ50 : List Cond := u_ws RJ5 TJ5 0
theorem nmJ5 : ∀ a, a < 0 → ∀ b, b < 0 → a ≠ b → (TJ5 a).2.1 ≠ (TJ5 b).2.1 := by decide +kernel
theorem tyJ5_ok : ∀ k, k < 0 → parseFieldDescriptor (TJ5 k).2.2.1 = some (tyJ5 k) := by decide +kernel
def RJ1 : String := "java/lang/StringLatin1"
def TJ1 : u_T := fun k => match k with
  | _ => ("", "", "", false)
def tyJ1 : Nat → FieldType := fun k => match k with
  | _ => .int
abbrev wsJ10 : List Cond := u_ws RJ1 TJ1 0
theorem nmJ1 : ∀ a, a < 0 → ∀ b, b < 0 → a ≠ b → (TJ1 a).2.1 ≠ (TJ1 b).2.1 := by decide +kernel
theorem tyJ1_ok : ∀ k, k < 0 → parseFieldDescriptor (TJ1 k).2.2.1 = some (tyJ1 k) := by decide +kernel
def RJ3 : String := "jdk/internal/util/Preconditions"
def TJ3 : u_T := fun k => match k with
  | _ => ("", "", "", false)
def tyJ3 : Nat → FieldType := fun k => match k with
  | _ => .int
abbrev wsJ30 : List Cond := u_ws RJ3 TJ3 0
theorem nmJ3 : ∀ a, a < 0 → ∀ b, b < 0 → a ≠ b → (TJ3 a).2.1 ≠ (TJ3 b).2.1 := by decide +kernel
theorem tyJ3_ok : ∀ k, k < 0 → parseFieldDescriptor (TJ3 k).2.2.1 = some (tyJ3 k) := by decide +kernel
def RJ9 : String := "java/lang/Math"
def TJ9 : u_T := fun k => match k with
  | _ => ("", "", "", false)
def tyJ9 : Nat → FieldType := fun k => match k with
  | _ => .int
abbrev wsJ90 : List Cond := u_ws RJ9 TJ9 0
theorem nmJ9 : ∀ a, a < 0 → ∀ b, b < 0 → a ≠ b → (TJ9 a).2.1 ≠ (TJ9 b).2.1 := by decide +kernel
theorem tyJ9_ok : ∀ k, k < 0 → parseFieldDescriptor (TJ9 k).2.2.1 = some (tyJ9 k) := by decide +kernel
def RL : String := "SlantGaugesLaw"
def TL : u_T := fun k => match k with
  | 0 => ("SlantGaugesLaw", "text", "[I", true)
  | _ => ("SlantGaugesLaw", "size", "I", false)
def tyL : Nat → FieldType := fun k => match k with
  | 0 => .array .int
  | _ => .int
abbrev wsL0 : List Cond := u_ws RL TL 2
theorem nmL : ∀ a, a < 2 → ∀ b, b < 2 → a ≠ b → (TL a).2.1 ≠ (TL b).2.1 := by decide +kernel
theorem tyL_ok : ∀ k, k < 2 → parseFieldDescriptor (TL k).2.2.1 = some (tyL k) := by decide +kernel
abbrev vwCl : List vw_C := [(RJ4, TJ4, 4), (RJ4, TJ4, 4), (RX0, TX0, 3), (RX1, TX1, 7), (RX1, TX1, 7), (RX3, TX3, 8), (RX4, TX4, 2), (RX5, TX5, 9), (RX6, TX6, 10), (RX7, TX7, 7), (RL, TL, 2)]
abbrev cX0_init : ByteArray := prog_2_method_1_code
def yX0_init : MethodName := ⟨RX0, "<init>", "()V"⟩
abbrev cX0_clear : ByteArray := prog_2_method_2_code
def yX0_clear : MethodName := ⟨RX0, "clear", "()V"⟩
abbrev cX0_keep : ByteArray := prog_2_method_3_code
def yX0_keep : MethodName := ⟨RX0, "keep", "(LSlantGauges$Row;)V"⟩
abbrev cX1_init : ByteArray := prog_3_method_1_code
def yX1_init : MethodName := ⟨RX1, "<init>", "()V"⟩
abbrev cX1_clear : ByteArray := prog_3_method_2_code
def yX1_clear : MethodName := ⟨RX1, "clear", "()V"⟩
abbrev cX1_liquid : ByteArray := prog_3_method_3_code
def yX1_liquid : MethodName := ⟨RX1, "liquid", "(III)V"⟩
abbrev cX1_copyFrom : ByteArray := prog_3_method_4_code
def yX1_copyFrom : MethodName := ⟨RX1, "copyFrom", "(LSlantGauges$Leg;)V"⟩
abbrev cX3_init : ByteArray := prog_5_method_1_code
def yX3_init : MethodName := ⟨RX3, "<init>", "()V"⟩
abbrev cX3_clear : ByteArray := prog_5_method_2_code
def yX3_clear : MethodName := ⟨RX3, "clear", "(II)V"⟩
abbrev cX3_copyFrom : ByteArray := prog_5_method_3_code
def yX3_copyFrom : MethodName := ⟨RX3, "copyFrom", "(LSlantGauges$Row;)V"⟩
abbrev cX3_legAt : ByteArray := prog_5_method_4_code
def yX3_legAt : MethodName := ⟨RX3, "legAt", "(I)LSlantGauges$Leg;"⟩
abbrev cX3_tubeAt : ByteArray := prog_5_method_5_code
def yX3_tubeAt : MethodName := ⟨RX3, "tubeAt", "(I)LSlantGauges$Tube;"⟩
abbrev cX3_pressureAt : ByteArray := prog_5_method_6_code
def yX3_pressureAt : MethodName := ⟨RX3, "pressureAt", "(I)I"⟩
abbrev cX3_press : ByteArray := prog_5_method_7_code
def yX3_press : MethodName := ⟨RX3, "press", "(II)V"⟩
abbrev cX3_append : ByteArray := prog_5_method_8_code
def yX3_append : MethodName := ⟨RX3, "append", "()LSlantGauges$Tube;"⟩
abbrev cX3_remove : ByteArray := prog_5_method_9_code
def yX3_remove : MethodName := ⟨RX3, "remove", "(I)V"⟩
abbrev cX3_countInState : ByteArray := prog_5_method_10_code
def yX3_countInState : MethodName := ⟨RX3, "countInState", "(I)I"⟩
abbrev cX3_countInLeg : ByteArray := prog_5_method_11_code
def yX3_countInLeg : MethodName := ⟨RX3, "countInLeg", "(I)I"⟩
abbrev cX3_numberOf : ByteArray := prog_5_method_12_code
def yX3_numberOf : MethodName := ⟨RX3, "numberOf", "(II)I"⟩
abbrev cX3_settle : ByteArray := prog_5_method_16_code
def yX3_settle : MethodName := ⟨RX3, "settle", "()I"⟩
abbrev cX3_settleLeg : ByteArray := prog_5_method_17_code
def yX3_settleLeg : MethodName := ⟨RX3, "settleLeg", "(I)I"⟩
abbrev cX3_greatestLevel : ByteArray := prog_5_method_18_code
def yX3_greatestLevel : MethodName := ⟨RX3, "greatestLevel", "(I)J"⟩
abbrev cX3_fullVolumes : ByteArray := prog_5_method_19_code
def yX3_fullVolumes : MethodName := ⟨RX3, "fullVolumes", "(I)J"⟩
abbrev cX3_volumesAt : ByteArray := prog_5_method_20_code
def yX3_volumesAt : MethodName := ⟨RX3, "volumesAt", "(IJ)J"⟩
abbrev cX3_breakTubes : ByteArray := prog_5_method_21_code
def yX3_breakTubes : MethodName := ⟨RX3, "breakTubes", "(I)I"⟩
abbrev cX4_init : ByteArray := prog_6_method_1_code
def yX4_init : MethodName := ⟨RX4, "<init>", "(LSlantGauges$Tokens;LSlantGauges$Row;)V"⟩
abbrev cX4_read : ByteArray := prog_6_method_2_code
def yX4_read : MethodName := ⟨RX4, "read", "()V"⟩
abbrev cX4_readClause : ByteArray := prog_6_method_3_code
def yX4_readClause : MethodName := ⟨RX4, "readClause", "()V"⟩
abbrev cX4_readLeg : ByteArray := prog_6_method_4_code
def yX4_readLeg : MethodName := ⟨RX4, "readLeg", "()V"⟩
abbrev cX4_readTube : ByteArray := prog_6_method_5_code
def yX4_readTube : MethodName := ⟨RX4, "readTube", "()V"⟩
abbrev cX5_init : ByteArray := prog_7_method_1_code
def yX5_init : MethodName := ⟨RX5, "<init>", "()V"⟩
abbrev cX5_hasRoomFor : ByteArray := prog_7_method_2_code
def yX5_hasRoomFor : MethodName := ⟨RX5, "hasRoomFor", "(I)Z"⟩
abbrev cX5_append : ByteArray := prog_7_method_3_code
def yX5_append : MethodName := ⟨RX5, "append", "(I)V"⟩
abbrev cX5_empty : ByteArray := prog_7_method_4_code
def yX5_empty : MethodName := ⟨RX5, "empty", "()V"⟩
abbrev cX5_begin : ByteArray := prog_7_method_5_code
def yX5_begin : MethodName := ⟨RX5, "begin", "(I)V"⟩
abbrev cX5_advance : ByteArray := prog_7_method_6_code
def yX5_advance : MethodName := ⟨RX5, "advance", "()V"⟩
abbrev cX5_byteAt : ByteArray := prog_7_method_7_code
def yX5_byteAt : MethodName := ⟨RX5, "byteAt", "(I)I"⟩
abbrev cX5_isLetter : ByteArray := prog_7_method_8_code
def yX5_isLetter : MethodName := ⟨RX5, "isLetter", "(I)Z"⟩
abbrev cX5_isDigit : ByteArray := prog_7_method_9_code
def yX5_isDigit : MethodName := ⟨RX5, "isDigit", "(I)Z"⟩
abbrev cX5_fail : ByteArray := prog_7_method_10_code
def yX5_fail : MethodName := ⟨RX5, "fail", "(I)V"⟩
abbrev cX5_goesOn : ByteArray := prog_7_method_11_code
def yX5_goesOn : MethodName := ⟨RX5, "goesOn", "()Z"⟩
abbrev cX5_isWord : ByteArray := prog_7_method_12_code
def yX5_isWord : MethodName := ⟨RX5, "isWord", "(Ljava/lang/String;)Z"⟩
abbrev cX5_isSign : ByteArray := prog_7_method_13_code
def yX5_isSign : MethodName := ⟨RX5, "isSign", "(C)Z"⟩
abbrev cX5_takeWord : ByteArray := prog_7_method_14_code
def yX5_takeWord : MethodName := ⟨RX5, "takeWord", "(Ljava/lang/String;)V"⟩
abbrev cX5_takeSign : ByteArray := prog_7_method_15_code
def yX5_takeSign : MethodName := ⟨RX5, "takeSign", "(C)V"⟩
abbrev cX5_takeNumber : ByteArray := prog_7_method_17_code
def yX5_takeNumber : MethodName := ⟨RX5, "takeNumber", "(II)I"⟩
abbrev cX5_takeSigned : ByteArray := prog_7_method_18_code
def yX5_takeSigned : MethodName := ⟨RX5, "takeSigned", "()I"⟩
abbrev cX6_init : ByteArray := prog_8_method_1_code
def yX6_init : MethodName := ⟨RX6, "<init>", "()V"⟩
abbrev cX6_stand : ByteArray := prog_8_method_2_code
def yX6_stand : MethodName := ⟨RX6, "stand", "(II)V"⟩
abbrev cX6_shape : ByteArray := prog_8_method_3_code
def yX6_shape : MethodName := ⟨RX6, "shape", "(III)V"⟩
abbrev cX6_copyFrom : ByteArray := prog_8_method_4_code
def yX6_copyFrom : MethodName := ⟨RX6, "copyFrom", "(LSlantGauges$Tube;)V"⟩
abbrev cX6_fullColumn : ByteArray := prog_8_method_5_code
def yX6_fullColumn : MethodName := ⟨RX6, "fullColumn", "()I"⟩
abbrev cX6_fullVolume : ByteArray := prog_8_method_6_code
def yX6_fullVolume : MethodName := ⟨RX6, "fullVolume", "()J"⟩
abbrev cX6_runAt : ByteArray := prog_8_method_7_code
def yX6_runAt : MethodName := ⟨RX6, "runAt", "(J)J"⟩
abbrev cX6_columnAt : ByteArray := prog_8_method_8_code
def yX6_columnAt : MethodName := ⟨RX6, "columnAt", "(J)J"⟩
abbrev cX6_shownReading : ByteArray := prog_8_method_9_code
def yX6_shownReading : MethodName := ⟨RX6, "shownReading", "()I"⟩
abbrev cX7_init : ByteArray := prog_1_method_1_code
def yX7_init : MethodName := ⟨RX7, "<init>", "()V"⟩
abbrev cX7_feed : ByteArray := prog_1_method_2_code
def yX7_feed : MethodName := ⟨RX7, "feed", "(IIIII)I"⟩
abbrev cX7_load : ByteArray := prog_1_method_3_code
def yX7_load : MethodName := ⟨RX7, "load", "(I)I"⟩
abbrev cX7_errorPosition : ByteArray := prog_1_method_4_code
def yX7_errorPosition : MethodName := ⟨RX7, "errorPosition", "()I"⟩
abbrev cX7_size : ByteArray := prog_1_method_5_code
def yX7_size : MethodName := ⟨RX7, "size", "(I)I"⟩
abbrev cX7_pressure : ByteArray := prog_1_method_6_code
def yX7_pressure : MethodName := ⟨RX7, "pressure", "(I)I"⟩
abbrev cX7_leg : ByteArray := prog_1_method_7_code
def yX7_leg : MethodName := ⟨RX7, "leg", "(II)I"⟩
abbrev cX7_account : ByteArray := prog_1_method_8_code
def yX7_account : MethodName := ⟨RX7, "account", "(II)J"⟩
abbrev cX7_tube : ByteArray := prog_1_method_9_code
def yX7_tube : MethodName := ⟨RX7, "tube", "(II)I"⟩
abbrev cX7_room : ByteArray := prog_1_method_14_code
def yX7_room : MethodName := ⟨RX7, "room", "(I)I"⟩
abbrev cX7_setPressure : ByteArray := prog_1_method_25_code
def yX7_setPressure : MethodName := ⟨RX7, "setPressure", "(II)I"⟩
abbrev cX7_setReference : ByteArray := prog_1_method_26_code
def yX7_setReference : MethodName := ⟨RX7, "setReference", "(I)I"⟩
abbrev cX7_sweep : ByteArray := prog_1_method_27_code
def yX7_sweep : MethodName := ⟨RX7, "sweep", "(III)I"⟩
abbrev cX7_setSlant : ByteArray := prog_1_method_28_code
def yX7_setSlant : MethodName := ⟨RX7, "setSlant", "(II)I"⟩
abbrev cX7_setMark : ByteArray := prog_1_method_29_code
def yX7_setMark : MethodName := ⟨RX7, "setMark", "(I)I"⟩
abbrev cX7_setCurve : ByteArray := prog_1_method_30_code
def yX7_setCurve : MethodName := ⟨RX7, "setCurve", "(II)I"⟩
abbrev cX7_mend : ByteArray := prog_1_method_31_code
def yX7_mend : MethodName := ⟨RX7, "mend", "(I)I"⟩
abbrev cX7_refill : ByteArray := prog_1_method_32_code
def yX7_refill : MethodName := ⟨RX7, "refill", "(II)I"⟩
abbrev cX7_addTube : ByteArray := prog_1_method_33_code
def yX7_addTube : MethodName := ⟨RX7, "addTube", "(IIIII)I"⟩
abbrev cX7_dropTube : ByteArray := prog_1_method_34_code
def yX7_dropTube : MethodName := ⟨RX7, "dropTube", "(I)I"⟩
abbrev cX7_requirePoint : ByteArray := prog_1_method_42_code
def yX7_requirePoint : MethodName := ⟨RX7, "requirePoint", "(I)V"⟩
abbrev cX7_requireTube : ByteArray := prog_1_method_43_code
def yX7_requireTube : MethodName := ⟨RX7, "requireTube", "(I)V"⟩
abbrev cX7_requireLeg : ByteArray := prog_1_method_44_code
def yX7_requireLeg : MethodName := ⟨RX7, "requireLeg", "(I)V"⟩
abbrev cX7_requireWithin : ByteArray := prog_1_method_45_code
def yX7_requireWithin : MethodName := ⟨RX7, "requireWithin", "(III)V"⟩
abbrev cL_init : ByteArray := method_1_code
def yL_init : MethodName := ⟨RL, "<init>", "()V"⟩
abbrev cL_writes : ByteArray := method_2_code
def yL_writes : MethodName := ⟨RL, "writes", "(Ljava/lang/String;)V"⟩
abbrev cL_spaced : ByteArray := method_3_code
def yL_spaced : MethodName := ⟨RL, "spaced", "(I)V"⟩
abbrev cL_cell : ByteArray := method_4_code
def yL_cell : MethodName := ⟨RL, "cell", "([II)I"⟩
abbrev cL_feeds : ByteArray := method_5_code
def yL_feeds : MethodName := ⟨RL, "feeds", "(LSlantGauges;)I"⟩
abbrev cL_loads : ByteArray := method_6_code
def yL_loads : MethodName := ⟨RL, "loads", "(LSlantGauges;[I)Z"⟩
abbrev cL_acts : ByteArray := method_7_code
def yL_acts : MethodName := ⟨RL, "acts", "(LSlantGauges;I)I"⟩
abbrev cL_run : ByteArray := method_8_code
def yL_run : MethodName := ⟨RL, "run", "(LSlantGauges;IJ)J"⟩
abbrev cL_law : ByteArray := code
def yL_law : MethodName := ⟨RL, "law", "([I)Z"⟩
abbrev cL_holds : ByteArray := method_10_code
def yL_holds : MethodName := ⟨RL, "holds", "(LSlantGauges;[I)Z"⟩
abbrev cL_areTubes : ByteArray := method_11_code
def yL_areTubes : MethodName := ⟨RL, "areTubes", "(LSlantGauges;)Z"⟩
abbrev cL_isLevel : ByteArray := method_12_code
def yL_isLevel : MethodName := ⟨RL, "isLevel", "(LSlantGauges;I)Z"⟩
abbrev cJ0_length_8abf5 : ByteArray := prog_20_method_54_code
def yJ0_length_8abf5 : MethodName := ⟨RJ0, "length", "()I"⟩
abbrev cJ0_coder_7d493 : ByteArray := prog_20_method_152_code
def yJ0_coder_7d493 : MethodName := ⟨RJ0, "coder", "()B"⟩
abbrev cJ0_charAt_5068e : ByteArray := prog_20_method_56_code
def yJ0_charAt_5068e : MethodName := ⟨RJ0, "charAt", "(I)C"⟩
abbrev cJ0_isLatin1_aae02 : ByteArray := prog_20_method_154_code
def yJ0_isLatin1_aae02 : MethodName := ⟨RJ0, "isLatin1", "()Z"⟩
abbrev cJ0_checkIndex_df160 : ByteArray := prog_20_method_155_code
def yJ0_checkIndex_df160 : MethodName := ⟨RJ0, "checkIndex", "(II)V"⟩
abbrev cJ1_charAt_3b067 : ByteArray := prog_22_method_2_code
def yJ1_charAt_3b067 : MethodName := ⟨RJ1, "charAt", "([BI)C"⟩
abbrev cJ3_checkIndex_8e157 : ByteArray := prog_28_method_11_code
def yJ3_checkIndex_8e157 : MethodName := ⟨RJ3, "checkIndex", "(IILjava/util/function/BiFunction;)I"⟩
abbrev cJ4_init_da8c8 : ByteArray := prog_21_method_1_code
def yJ4_init_da8c8 : MethodName := ⟨RJ4, "<init>", "()V"⟩
abbrev cJ5_init_d00df : ByteArray := prog_12_method_2_code
def yJ5_init_d00df : MethodName := ⟨RJ5, "<init>", "(I)V"⟩
abbrev cJ9_floorDiv_f86c9 : ByteArray := prog_18_method_49_code
def yJ9_floorDiv_f86c9 : MethodName := ⟨RJ9, "floorDiv", "(JJ)J"⟩
abbrev cJ9_floorMod_7cf53 : ByteArray := prog_18_method_50_code
def yJ9_floorMod_7cf53 : MethodName := ⟨RJ9, "floorMod", "(II)I"⟩
theorem dX0_init_0 : decode cX0_init 0 = .ok (.aload_n 0, 1) := by decide +kernel
theorem dX0_init_1 : decode cX0_init 1 = .ok (.invokespecial 3, 3) := by decide +kernel
theorem dX0_init_4 : decode cX0_init 4 = .ok (.aload_n 0, 1) := by decide +kernel
theorem dX0_init_5 : decode cX0_init 5 = .ok (.bipush 10, 2) := by decide +kernel
theorem dX0_init_7 : decode cX0_init 7 = .ok (.anewarray 9, 3) := by decide +kernel
theorem dX0_init_10 : decode cX0_init 10 = .ok (.putfield 11, 3) := by decide +kernel
theorem dX0_init_13 : decode cX0_init 13 = .ok (.iconst 0, 1) := by decide +kernel
theorem dX0_init_14 : decode cX0_init 14 = .ok (.istore_n 1, 1) := by decide +kernel
theorem dX0_init_15 : decode cX0_init 15 = .ok (.iload_n 1, 1) := by decide +kernel
theorem dX0_init_16 : decode cX0_init 16 = .ok (.aload_n 0, 1) := by decide +kernel
theorem dX0_init_17 : decode cX0_init 17 = .ok (.getfield 11, 3) := by decide +kernel
theorem dX0_init_20 : decode cX0_init 20 = .ok (.arraylength, 1) := by decide +kernel
theorem dX0_init_21 : decode cX0_init 21 = .ok (.if_icmp .ge 22, 3) := by decide +kernel
theorem dX0_init_24 : decode cX0_init 24 = .ok (.aload_n 0, 1) := by decide +kernel
theorem dX0_init_25 : decode cX0_init 25 = .ok (.getfield 11, 3) := by decide +kernel
theorem dX0_init_28 : decode cX0_init 28 = .ok (.iload_n 1, 1) := by decide +kernel
theorem dX0_init_29 : decode cX0_init 29 = .ok (.new 9, 3) := by decide +kernel
theorem dX0_init_32 : decode cX0_init 32 = .ok (.dup, 1) := by decide +kernel
theorem dX0_init_33 : decode cX0_init 33 = .ok (.invokespecial 17, 3) := by decide +kernel
theorem dX0_init_36 : decode cX0_init 36 = .ok (.aastore, 1) := by decide +kernel
theorem dX0_init_37 : decode cX0_init 37 = .ok (.iinc 1 1, 3) := by decide +kernel
theorem dX0_init_40 : decode cX0_init 40 = .ok (.goto (-25), 3) := by decide +kernel
theorem dX0_init_43 : decode cX0_init 43 = .ok (.return_, 1) := by decide +kernel
theorem dX0_clear_0 : decode cX0_clear 0 = .ok (.aload_n 0, 1) := by decide +kernel
theorem dX0_clear_1 : decode cX0_clear 1 = .ok (.iconst 0, 1) := by decide +kernel
theorem dX0_clear_2 : decode cX0_clear 2 = .ok (.putfield 18, 3) := by decide +kernel
theorem dX0_clear_5 : decode cX0_clear 5 = .ok (.aload_n 0, 1) := by decide +kernel
theorem dX0_clear_6 : decode cX0_clear 6 = .ok (.iconst 0, 1) := by decide +kernel
theorem dX0_clear_7 : decode cX0_clear 7 = .ok (.putfield 22, 3) := by decide +kernel
theorem dX0_clear_10 : decode cX0_clear 10 = .ok (.return_, 1) := by decide +kernel
theorem dX0_keep_0 : decode cX0_keep 0 = .ok (.aload_n 0, 1) := by decide +kernel
theorem dX0_keep_1 : decode cX0_keep 1 = .ok (.getfield 18, 3) := by decide +kernel
theorem dX0_keep_4 : decode cX0_keep 4 = .ok (.aload_n 0, 1) := by decide +kernel
theorem dX0_keep_5 : decode cX0_keep 5 = .ok (.getfield 22, 3) := by decide +kernel
theorem dX0_keep_8 : decode cX0_keep 8 = .ok (.iadd, 1) := by decide +kernel
theorem dX0_keep_9 : decode cX0_keep 9 = .ok (.bipush 10, 2) := by decide +kernel
theorem dX0_keep_11 : decode cX0_keep 11 = .ok (.invokestatic 25, 3) := by decide +kernel
theorem dX0_keep_14 : decode cX0_keep 14 = .ok (.istore_n 2, 1) := by decide +kernel
theorem dX0_keep_15 : decode cX0_keep 15 = .ok (.iload_n 2, 1) := by decide +kernel
theorem dX0_keep_16 : decode cX0_keep 16 = .ok (.ifCond .lt 22, 3) := by decide +kernel
theorem dX0_keep_19 : decode cX0_keep 19 = .ok (.iload_n 2, 1) := by decide +kernel
theorem dX0_keep_20 : decode cX0_keep 20 = .ok (.aload_n 0, 1) := by decide +kernel
theorem dX0_keep_21 : decode cX0_keep 21 = .ok (.getfield 11, 3) := by decide +kernel
theorem dX0_keep_24 : decode cX0_keep 24 = .ok (.arraylength, 1) := by decide +kernel
theorem dX0_keep_25 : decode cX0_keep 25 = .ok (.if_icmp .ge 13, 3) := by decide +kernel
theorem dX0_keep_28 : decode cX0_keep 28 = .ok (.aload_n 0, 1) := by decide +kernel
theorem dX0_keep_29 : decode cX0_keep 29 = .ok (.getfield 11, 3) := by decide +kernel
theorem dX0_keep_32 : decode cX0_keep 32 = .ok (.iload_n 2, 1) := by decide +kernel
theorem dX0_keep_33 : decode cX0_keep 33 = .ok (.aaload, 1) := by decide +kernel
theorem dX0_keep_34 : decode cX0_keep 34 = .ok (.aload_n 1, 1) := by decide +kernel
theorem dX0_keep_35 : decode cX0_keep 35 = .ok (.invokevirtual 31, 3) := by decide +kernel
theorem dX0_keep_38 : decode cX0_keep 38 = .ok (.aload_n 0, 1) := by decide +kernel
theorem dX0_keep_39 : decode cX0_keep 39 = .ok (.getfield 22, 3) := by decide +kernel
theorem dX0_keep_42 : decode cX0_keep 42 = .ok (.bipush 10, 2) := by decide +kernel
theorem dX0_keep_44 : decode cX0_keep 44 = .ok (.if_icmp .ge 16, 3) := by decide +kernel
theorem dX0_keep_47 : decode cX0_keep 47 = .ok (.aload_n 0, 1) := by decide +kernel
theorem dX0_keep_48 : decode cX0_keep 48 = .ok (.dup, 1) := by decide +kernel
theorem dX0_keep_49 : decode cX0_keep 49 = .ok (.getfield 22, 3) := by decide +kernel
theorem dX0_keep_52 : decode cX0_keep 52 = .ok (.iconst 1, 1) := by decide +kernel
theorem dX0_keep_53 : decode cX0_keep 53 = .ok (.iadd, 1) := by decide +kernel
theorem dX0_keep_54 : decode cX0_keep 54 = .ok (.putfield 22, 3) := by decide +kernel
theorem dX0_keep_57 : decode cX0_keep 57 = .ok (.goto 18, 3) := by decide +kernel
theorem dX0_keep_60 : decode cX0_keep 60 = .ok (.aload_n 0, 1) := by decide +kernel
theorem dX0_keep_61 : decode cX0_keep 61 = .ok (.aload_n 0, 1) := by decide +kernel
theorem dX0_keep_62 : decode cX0_keep 62 = .ok (.getfield 18, 3) := by decide +kernel
theorem dX0_keep_65 : decode cX0_keep 65 = .ok (.iconst 1, 1) := by decide +kernel
theorem dX0_keep_66 : decode cX0_keep 66 = .ok (.iadd, 1) := by decide +kernel
theorem dX0_keep_67 : decode cX0_keep 67 = .ok (.bipush 10, 2) := by decide +kernel
theorem dX0_keep_69 : decode cX0_keep 69 = .ok (.invokestatic 25, 3) := by decide +kernel
theorem dX0_keep_72 : decode cX0_keep 72 = .ok (.putfield 18, 3) := by decide +kernel
theorem dX0_keep_75 : decode cX0_keep 75 = .ok (.return_, 1) := by decide +kernel
theorem dX1_init_0 : decode cX1_init 0 = .ok (.aload_n 0, 1) := by decide +kernel
theorem dX1_init_1 : decode cX1_init 1 = .ok (.invokespecial 1, 3) := by decide +kernel
theorem dX1_init_4 : decode cX1_init 4 = .ok (.return_, 1) := by decide +kernel
theorem dX1_clear_0 : decode cX1_clear 0 = .ok (.aload_n 0, 1) := by decide +kernel
theorem dX1_clear_1 : decode cX1_clear 1 = .ok (.sipush 1000, 3) := by decide +kernel
theorem dX1_clear_4 : decode cX1_clear 4 = .ok (.sipush 10000, 3) := by decide +kernel
theorem dX1_clear_7 : decode cX1_clear 7 = .ok (.iconst 0, 1) := by decide +kernel
theorem dX1_clear_8 : decode cX1_clear 8 = .ok (.invokevirtual 7, 3) := by decide +kernel
theorem dX1_clear_11 : decode cX1_clear 11 = .ok (.aload_n 0, 1) := by decide +kernel
theorem dX1_clear_12 : decode cX1_clear 12 = .ok (.lconst 0, 1) := by decide +kernel
theorem dX1_clear_13 : decode cX1_clear 13 = .ok (.putfield 13, 3) := by decide +kernel
theorem dX1_clear_16 : decode cX1_clear 16 = .ok (.aload_n 0, 1) := by decide +kernel
theorem dX1_clear_17 : decode cX1_clear 17 = .ok (.lconst 0, 1) := by decide +kernel
theorem dX1_clear_18 : decode cX1_clear 18 = .ok (.putfield 17, 3) := by decide +kernel
theorem dX1_clear_21 : decode cX1_clear 21 = .ok (.aload_n 0, 1) := by decide +kernel
theorem dX1_clear_22 : decode cX1_clear 22 = .ok (.lconst 0, 1) := by decide +kernel
theorem dX1_clear_23 : decode cX1_clear 23 = .ok (.putfield 20, 3) := by decide +kernel
theorem dX1_clear_26 : decode cX1_clear 26 = .ok (.aload_n 0, 1) := by decide +kernel
theorem dX1_clear_27 : decode cX1_clear 27 = .ok (.lconst 0, 1) := by decide +kernel
theorem dX1_clear_28 : decode cX1_clear 28 = .ok (.putfield 23, 3) := by decide +kernel
theorem dX1_clear_31 : decode cX1_clear 31 = .ok (.return_, 1) := by decide +kernel
theorem dX1_liquid_0 : decode cX1_liquid 0 = .ok (.aload_n 0, 1) := by decide +kernel
theorem dX1_liquid_1 : decode cX1_liquid 1 = .ok (.iload_n 1, 1) := by decide +kernel
theorem dX1_liquid_2 : decode cX1_liquid 2 = .ok (.putfield 26, 3) := by decide +kernel
theorem dX1_liquid_5 : decode cX1_liquid 5 = .ok (.aload_n 0, 1) := by decide +kernel
theorem dX1_liquid_6 : decode cX1_liquid 6 = .ok (.iload_n 2, 1) := by decide +kernel
theorem dX1_liquid_7 : decode cX1_liquid 7 = .ok (.putfield 30, 3) := by decide +kernel
theorem dX1_liquid_10 : decode cX1_liquid 10 = .ok (.aload_n 0, 1) := by decide +kernel
theorem dX1_liquid_11 : decode cX1_liquid 11 = .ok (.iload_n 3, 1) := by decide +kernel
theorem dX1_liquid_12 : decode cX1_liquid 12 = .ok (.putfield 33, 3) := by decide +kernel
theorem dX1_liquid_15 : decode cX1_liquid 15 = .ok (.return_, 1) := by decide +kernel
theorem dX1_copyFrom_0 : decode cX1_copyFrom 0 = .ok (.aload_n 0, 1) := by decide +kernel
theorem dX1_copyFrom_1 : decode cX1_copyFrom 1 = .ok (.aload_n 1, 1) := by decide +kernel
theorem dX1_copyFrom_2 : decode cX1_copyFrom 2 = .ok (.getfield 26, 3) := by decide +kernel
theorem dX1_copyFrom_5 : decode cX1_copyFrom 5 = .ok (.aload_n 1, 1) := by decide +kernel
theorem dX1_copyFrom_6 : decode cX1_copyFrom 6 = .ok (.getfield 30, 3) := by decide +kernel
theorem dX1_copyFrom_9 : decode cX1_copyFrom 9 = .ok (.aload_n 1, 1) := by decide +kernel
theorem dX1_copyFrom_10 : decode cX1_copyFrom 10 = .ok (.getfield 33, 3) := by decide +kernel
theorem dX1_copyFrom_13 : decode cX1_copyFrom 13 = .ok (.invokevirtual 7, 3) := by decide +kernel
theorem dX1_copyFrom_16 : decode cX1_copyFrom 16 = .ok (.aload_n 0, 1) := by decide +kernel
theorem dX1_copyFrom_17 : decode cX1_copyFrom 17 = .ok (.aload_n 1, 1) := by decide +kernel
theorem dX1_copyFrom_18 : decode cX1_copyFrom 18 = .ok (.getfield 13, 3) := by decide +kernel
theorem dX1_copyFrom_21 : decode cX1_copyFrom 21 = .ok (.putfield 13, 3) := by decide +kernel
theorem dX1_copyFrom_24 : decode cX1_copyFrom 24 = .ok (.aload_n 0, 1) := by decide +kernel
theorem dX1_copyFrom_25 : decode cX1_copyFrom 25 = .ok (.aload_n 1, 1) := by decide +kernel
theorem dX1_copyFrom_26 : decode cX1_copyFrom 26 = .ok (.getfield 17, 3) := by decide +kernel
theorem dX1_copyFrom_29 : decode cX1_copyFrom 29 = .ok (.putfield 17, 3) := by decide +kernel
theorem dX1_copyFrom_32 : decode cX1_copyFrom 32 = .ok (.aload_n 0, 1) := by decide +kernel
theorem dX1_copyFrom_33 : decode cX1_copyFrom 33 = .ok (.aload_n 1, 1) := by decide +kernel
theorem dX1_copyFrom_34 : decode cX1_copyFrom 34 = .ok (.getfield 20, 3) := by decide +kernel
theorem dX1_copyFrom_37 : decode cX1_copyFrom 37 = .ok (.putfield 20, 3) := by decide +kernel
theorem dX1_copyFrom_40 : decode cX1_copyFrom 40 = .ok (.aload_n 0, 1) := by decide +kernel
theorem dX1_copyFrom_41 : decode cX1_copyFrom 41 = .ok (.aload_n 1, 1) := by decide +kernel
theorem dX1_copyFrom_42 : decode cX1_copyFrom 42 = .ok (.getfield 23, 3) := by decide +kernel
theorem dX1_copyFrom_45 : decode cX1_copyFrom 45 = .ok (.putfield 23, 3) := by decide +kernel
theorem dX1_copyFrom_48 : decode cX1_copyFrom 48 = .ok (.return_, 1) := by decide +kernel
theorem dX3_init_0 : decode cX3_init 0 = .ok (.aload_n 0, 1) := by decide +kernel
theorem dX3_init_1 : decode cX3_init 1 = .ok (.invokespecial 3, 3) := by decide +kernel
theorem dX3_init_4 : decode cX3_init 4 = .ok (.aload_n 0, 1) := by decide +kernel
theorem dX3_init_5 : decode cX3_init 5 = .ok (.bipush 8, 2) := by decide +kernel
theorem dX3_init_7 : decode cX3_init 7 = .ok (.newarray .int, 2) := by decide +kernel
theorem dX3_init_9 : decode cX3_init 9 = .ok (.putfield 9, 3) := by decide +kernel
theorem dX3_init_12 : decode cX3_init 12 = .ok (.aload_n 0, 1) := by decide +kernel
theorem dX3_init_13 : decode cX3_init 13 = .ok (.new 15, 3) := by decide +kernel
theorem dX3_init_16 : decode cX3_init 16 = .ok (.dup, 1) := by decide +kernel
theorem dX3_init_17 : decode cX3_init 17 = .ok (.invokespecial 17, 3) := by decide +kernel
theorem dX3_init_20 : decode cX3_init 20 = .ok (.putfield 18, 3) := by decide +kernel
theorem dX3_init_23 : decode cX3_init 23 = .ok (.aload_n 0, 1) := by decide +kernel
theorem dX3_init_24 : decode cX3_init 24 = .ok (.new 15, 3) := by decide +kernel
theorem dX3_init_27 : decode cX3_init 27 = .ok (.dup, 1) := by decide +kernel
theorem dX3_init_28 : decode cX3_init 28 = .ok (.invokespecial 17, 3) := by decide +kernel
theorem dX3_init_31 : decode cX3_init 31 = .ok (.putfield 22, 3) := by decide +kernel
theorem dX3_init_34 : decode cX3_init 34 = .ok (.aload_n 0, 1) := by decide +kernel
theorem dX3_init_35 : decode cX3_init 35 = .ok (.bipush 12, 2) := by decide +kernel
theorem dX3_init_37 : decode cX3_init 37 = .ok (.anewarray 25, 3) := by decide +kernel
theorem dX3_init_40 : decode cX3_init 40 = .ok (.putfield 27, 3) := by decide +kernel
theorem dX3_init_43 : decode cX3_init 43 = .ok (.aload_n 0, 1) := by decide +kernel
theorem dX3_init_44 : decode cX3_init 44 = .ok (.new 25, 3) := by decide +kernel
theorem dX3_init_47 : decode cX3_init 47 = .ok (.dup, 1) := by decide +kernel
theorem dX3_init_48 : decode cX3_init 48 = .ok (.invokespecial 31, 3) := by decide +kernel
theorem dX3_init_51 : decode cX3_init 51 = .ok (.putfield 32, 3) := by decide +kernel
theorem dX3_init_54 : decode cX3_init 54 = .ok (.iconst 0, 1) := by decide +kernel
theorem dX3_init_55 : decode cX3_init 55 = .ok (.istore_n 1, 1) := by decide +kernel
theorem dX3_init_56 : decode cX3_init 56 = .ok (.iload_n 1, 1) := by decide +kernel
theorem dX3_init_57 : decode cX3_init 57 = .ok (.aload_n 0, 1) := by decide +kernel
theorem dX3_init_58 : decode cX3_init 58 = .ok (.getfield 27, 3) := by decide +kernel
theorem dX3_init_61 : decode cX3_init 61 = .ok (.arraylength, 1) := by decide +kernel
theorem dX3_init_62 : decode cX3_init 62 = .ok (.if_icmp .ge 22, 3) := by decide +kernel
theorem dX3_init_65 : decode cX3_init 65 = .ok (.aload_n 0, 1) := by decide +kernel
theorem dX3_init_66 : decode cX3_init 66 = .ok (.getfield 27, 3) := by decide +kernel
theorem dX3_init_69 : decode cX3_init 69 = .ok (.iload_n 1, 1) := by decide +kernel
theorem dX3_init_70 : decode cX3_init 70 = .ok (.new 25, 3) := by decide +kernel
theorem dX3_init_73 : decode cX3_init 73 = .ok (.dup, 1) := by decide +kernel
theorem dX3_init_74 : decode cX3_init 74 = .ok (.invokespecial 31, 3) := by decide +kernel
theorem dX3_init_77 : decode cX3_init 77 = .ok (.aastore, 1) := by decide +kernel
theorem dX3_init_78 : decode cX3_init 78 = .ok (.iinc 1 1, 3) := by decide +kernel
theorem dX3_init_81 : decode cX3_init 81 = .ok (.goto (-25), 3) := by decide +kernel
theorem dX3_init_84 : decode cX3_init 84 = .ok (.return_, 1) := by decide +kernel
theorem dX3_clear_0 : decode cX3_clear 0 = .ok (.aload_n 0, 1) := by decide +kernel
theorem dX3_clear_1 : decode cX3_clear 1 = .ok (.iload_n 1, 1) := by decide +kernel
theorem dX3_clear_2 : decode cX3_clear 2 = .ok (.putfield 36, 3) := by decide +kernel
theorem dX3_clear_5 : decode cX3_clear 5 = .ok (.aload_n 0, 1) := by decide +kernel
theorem dX3_clear_6 : decode cX3_clear 6 = .ok (.iload_n 2, 1) := by decide +kernel
theorem dX3_clear_7 : decode cX3_clear 7 = .ok (.putfield 40, 3) := by decide +kernel
theorem dX3_clear_10 : decode cX3_clear 10 = .ok (.aload_n 0, 1) := by decide +kernel
theorem dX3_clear_11 : decode cX3_clear 11 = .ok (.iconst 0, 1) := by decide +kernel
theorem dX3_clear_12 : decode cX3_clear 12 = .ok (.putfield 43, 3) := by decide +kernel
theorem dX3_clear_15 : decode cX3_clear 15 = .ok (.iconst 0, 1) := by decide +kernel
theorem dX3_clear_16 : decode cX3_clear 16 = .ok (.istore_n 3, 1) := by decide +kernel
theorem dX3_clear_17 : decode cX3_clear 17 = .ok (.iload_n 3, 1) := by decide +kernel
theorem dX3_clear_18 : decode cX3_clear 18 = .ok (.aload_n 0, 1) := by decide +kernel
theorem dX3_clear_19 : decode cX3_clear 19 = .ok (.getfield 9, 3) := by decide +kernel
theorem dX3_clear_22 : decode cX3_clear 22 = .ok (.arraylength, 1) := by decide +kernel
theorem dX3_clear_23 : decode cX3_clear 23 = .ok (.if_icmp .ge 17, 3) := by decide +kernel
theorem dX3_clear_26 : decode cX3_clear 26 = .ok (.aload_n 0, 1) := by decide +kernel
theorem dX3_clear_27 : decode cX3_clear 27 = .ok (.getfield 9, 3) := by decide +kernel
theorem dX3_clear_30 : decode cX3_clear 30 = .ok (.iload_n 3, 1) := by decide +kernel
theorem dX3_clear_31 : decode cX3_clear 31 = .ok (.ldc 46, 2) := by decide +kernel
theorem dX3_clear_33 : decode cX3_clear 33 = .ok (.iastore, 1) := by decide +kernel
theorem dX3_clear_34 : decode cX3_clear 34 = .ok (.iinc 3 1, 3) := by decide +kernel
theorem dX3_clear_37 : decode cX3_clear 37 = .ok (.goto (-20), 3) := by decide +kernel
theorem dX3_clear_40 : decode cX3_clear 40 = .ok (.aload_n 0, 1) := by decide +kernel
theorem dX3_clear_41 : decode cX3_clear 41 = .ok (.getfield 18, 3) := by decide +kernel
theorem dX3_clear_44 : decode cX3_clear 44 = .ok (.invokevirtual 47, 3) := by decide +kernel
theorem dX3_clear_47 : decode cX3_clear 47 = .ok (.aload_n 0, 1) := by decide +kernel
theorem dX3_clear_48 : decode cX3_clear 48 = .ok (.getfield 22, 3) := by decide +kernel
theorem dX3_clear_51 : decode cX3_clear 51 = .ok (.invokevirtual 47, 3) := by decide +kernel
theorem dX3_clear_54 : decode cX3_clear 54 = .ok (.return_, 1) := by decide +kernel
theorem dX3_copyFrom_0 : decode cX3_copyFrom 0 = .ok (.aload_n 0, 1) := by decide +kernel
theorem dX3_copyFrom_1 : decode cX3_copyFrom 1 = .ok (.aload_n 1, 1) := by decide +kernel
theorem dX3_copyFrom_2 : decode cX3_copyFrom 2 = .ok (.getfield 36, 3) := by decide +kernel
theorem dX3_copyFrom_5 : decode cX3_copyFrom 5 = .ok (.putfield 36, 3) := by decide +kernel
theorem dX3_copyFrom_8 : decode cX3_copyFrom 8 = .ok (.aload_n 0, 1) := by decide +kernel
theorem dX3_copyFrom_9 : decode cX3_copyFrom 9 = .ok (.aload_n 1, 1) := by decide +kernel
theorem dX3_copyFrom_10 : decode cX3_copyFrom 10 = .ok (.getfield 40, 3) := by decide +kernel
theorem dX3_copyFrom_13 : decode cX3_copyFrom 13 = .ok (.putfield 40, 3) := by decide +kernel
theorem dX3_copyFrom_16 : decode cX3_copyFrom 16 = .ok (.aload_n 0, 1) := by decide +kernel
theorem dX3_copyFrom_17 : decode cX3_copyFrom 17 = .ok (.aload_n 1, 1) := by decide +kernel
theorem dX3_copyFrom_18 : decode cX3_copyFrom 18 = .ok (.getfield 43, 3) := by decide +kernel
theorem dX3_copyFrom_21 : decode cX3_copyFrom 21 = .ok (.putfield 43, 3) := by decide +kernel
theorem dX3_copyFrom_24 : decode cX3_copyFrom 24 = .ok (.iconst 0, 1) := by decide +kernel
theorem dX3_copyFrom_25 : decode cX3_copyFrom 25 = .ok (.istore_n 2, 1) := by decide +kernel
theorem dX3_copyFrom_26 : decode cX3_copyFrom 26 = .ok (.iload_n 2, 1) := by decide +kernel
theorem dX3_copyFrom_27 : decode cX3_copyFrom 27 = .ok (.aload_n 0, 1) := by decide +kernel
theorem dX3_copyFrom_28 : decode cX3_copyFrom 28 = .ok (.getfield 9, 3) := by decide +kernel
theorem dX3_copyFrom_31 : decode cX3_copyFrom 31 = .ok (.arraylength, 1) := by decide +kernel
theorem dX3_copyFrom_32 : decode cX3_copyFrom 32 = .ok (.if_icmp .ge 20, 3) := by decide +kernel
theorem dX3_copyFrom_35 : decode cX3_copyFrom 35 = .ok (.aload_n 0, 1) := by decide +kernel
theorem dX3_copyFrom_36 : decode cX3_copyFrom 36 = .ok (.getfield 9, 3) := by decide +kernel
theorem dX3_copyFrom_39 : decode cX3_copyFrom 39 = .ok (.iload_n 2, 1) := by decide +kernel
theorem dX3_copyFrom_40 : decode cX3_copyFrom 40 = .ok (.aload_n 1, 1) := by decide +kernel
theorem dX3_copyFrom_41 : decode cX3_copyFrom 41 = .ok (.iload_n 2, 1) := by decide +kernel
theorem dX3_copyFrom_42 : decode cX3_copyFrom 42 = .ok (.invokevirtual 50, 3) := by decide +kernel
theorem dX3_copyFrom_45 : decode cX3_copyFrom 45 = .ok (.iastore, 1) := by decide +kernel
theorem dX3_copyFrom_46 : decode cX3_copyFrom 46 = .ok (.iinc 2 1, 3) := by decide +kernel
theorem dX3_copyFrom_49 : decode cX3_copyFrom 49 = .ok (.goto (-23), 3) := by decide +kernel
theorem dX3_copyFrom_52 : decode cX3_copyFrom 52 = .ok (.aload_n 0, 1) := by decide +kernel
theorem dX3_copyFrom_53 : decode cX3_copyFrom 53 = .ok (.getfield 18, 3) := by decide +kernel
theorem dX3_copyFrom_56 : decode cX3_copyFrom 56 = .ok (.aload_n 1, 1) := by decide +kernel
theorem dX3_copyFrom_57 : decode cX3_copyFrom 57 = .ok (.getfield 18, 3) := by decide +kernel
theorem dX3_copyFrom_60 : decode cX3_copyFrom 60 = .ok (.invokevirtual 54, 3) := by decide +kernel
theorem dX3_copyFrom_63 : decode cX3_copyFrom 63 = .ok (.aload_n 0, 1) := by decide +kernel
theorem dX3_copyFrom_64 : decode cX3_copyFrom 64 = .ok (.getfield 22, 3) := by decide +kernel
theorem dX3_copyFrom_67 : decode cX3_copyFrom 67 = .ok (.aload_n 1, 1) := by decide +kernel
theorem dX3_copyFrom_68 : decode cX3_copyFrom 68 = .ok (.getfield 22, 3) := by decide +kernel
theorem dX3_copyFrom_71 : decode cX3_copyFrom 71 = .ok (.invokevirtual 54, 3) := by decide +kernel
theorem dX3_copyFrom_74 : decode cX3_copyFrom 74 = .ok (.iconst 0, 1) := by decide +kernel
theorem dX3_copyFrom_75 : decode cX3_copyFrom 75 = .ok (.istore_n 2, 1) := by decide +kernel
theorem dX3_copyFrom_76 : decode cX3_copyFrom 76 = .ok (.iload_n 2, 1) := by decide +kernel
theorem dX3_copyFrom_77 : decode cX3_copyFrom 77 = .ok (.aload_n 0, 1) := by decide +kernel
theorem dX3_copyFrom_78 : decode cX3_copyFrom 78 = .ok (.getfield 43, 3) := by decide +kernel
theorem dX3_copyFrom_81 : decode cX3_copyFrom 81 = .ok (.if_icmp .ge 22, 3) := by decide +kernel
theorem dX3_copyFrom_84 : decode cX3_copyFrom 84 = .ok (.aload_n 0, 1) := by decide +kernel
theorem dX3_copyFrom_85 : decode cX3_copyFrom 85 = .ok (.iload_n 2, 1) := by decide +kernel
theorem dX3_copyFrom_86 : decode cX3_copyFrom 86 = .ok (.invokevirtual 58, 3) := by decide +kernel
theorem dX3_copyFrom_89 : decode cX3_copyFrom 89 = .ok (.aload_n 1, 1) := by decide +kernel
theorem dX3_copyFrom_90 : decode cX3_copyFrom 90 = .ok (.iload_n 2, 1) := by decide +kernel
theorem dX3_copyFrom_91 : decode cX3_copyFrom 91 = .ok (.invokevirtual 58, 3) := by decide +kernel
theorem dX3_copyFrom_94 : decode cX3_copyFrom 94 = .ok (.invokevirtual 62, 3) := by decide +kernel
theorem dX3_copyFrom_97 : decode cX3_copyFrom 97 = .ok (.iinc 2 1, 3) := by decide +kernel
theorem dX3_copyFrom_100 : decode cX3_copyFrom 100 = .ok (.goto (-24), 3) := by decide +kernel
theorem dX3_copyFrom_103 : decode cX3_copyFrom 103 = .ok (.return_, 1) := by decide +kernel
theorem dX3_legAt_0 : decode cX3_legAt 0 = .ok (.iload_n 1, 1) := by decide +kernel
theorem dX3_legAt_1 : decode cX3_legAt 1 = .ok (.ifCond .ne 10, 3) := by decide +kernel
theorem dX3_legAt_4 : decode cX3_legAt 4 = .ok (.aload_n 0, 1) := by decide +kernel
theorem dX3_legAt_5 : decode cX3_legAt 5 = .ok (.getfield 18, 3) := by decide +kernel
theorem dX3_legAt_8 : decode cX3_legAt 8 = .ok (.goto 7, 3) := by decide +kernel
theorem dX3_legAt_11 : decode cX3_legAt 11 = .ok (.aload_n 0, 1) := by decide +kernel
theorem dX3_legAt_12 : decode cX3_legAt 12 = .ok (.getfield 22, 3) := by decide +kernel
theorem dX3_legAt_15 : decode cX3_legAt 15 = .ok (.areturn, 1) := by decide +kernel
theorem dX3_tubeAt_0 : decode cX3_tubeAt 0 = .ok (.iload_n 1, 1) := by decide +kernel
theorem dX3_tubeAt_1 : decode cX3_tubeAt 1 = .ok (.ifCond .lt 21, 3) := by decide +kernel
theorem dX3_tubeAt_4 : decode cX3_tubeAt 4 = .ok (.iload_n 1, 1) := by decide +kernel
theorem dX3_tubeAt_5 : decode cX3_tubeAt 5 = .ok (.aload_n 0, 1) := by decide +kernel
theorem dX3_tubeAt_6 : decode cX3_tubeAt 6 = .ok (.getfield 27, 3) := by decide +kernel
theorem dX3_tubeAt_9 : decode cX3_tubeAt 9 = .ok (.arraylength, 1) := by decide +kernel
theorem dX3_tubeAt_10 : decode cX3_tubeAt 10 = .ok (.if_icmp .ge 12, 3) := by decide +kernel
theorem dX3_tubeAt_13 : decode cX3_tubeAt 13 = .ok (.aload_n 0, 1) := by decide +kernel
theorem dX3_tubeAt_14 : decode cX3_tubeAt 14 = .ok (.getfield 27, 3) := by decide +kernel
theorem dX3_tubeAt_17 : decode cX3_tubeAt 17 = .ok (.iload_n 1, 1) := by decide +kernel
theorem dX3_tubeAt_18 : decode cX3_tubeAt 18 = .ok (.aaload, 1) := by decide +kernel
theorem dX3_tubeAt_19 : decode cX3_tubeAt 19 = .ok (.goto 7, 3) := by decide +kernel
theorem dX3_tubeAt_22 : decode cX3_tubeAt 22 = .ok (.aload_n 0, 1) := by decide +kernel
theorem dX3_tubeAt_23 : decode cX3_tubeAt 23 = .ok (.getfield 32, 3) := by decide +kernel
theorem dX3_tubeAt_26 : decode cX3_tubeAt 26 = .ok (.areturn, 1) := by decide +kernel
theorem dX3_pressureAt_0 : decode cX3_pressureAt 0 = .ok (.iload_n 1, 1) := by decide +kernel
theorem dX3_pressureAt_1 : decode cX3_pressureAt 1 = .ok (.ifCond .lt 21, 3) := by decide +kernel
theorem dX3_pressureAt_4 : decode cX3_pressureAt 4 = .ok (.iload_n 1, 1) := by decide +kernel
theorem dX3_pressureAt_5 : decode cX3_pressureAt 5 = .ok (.aload_n 0, 1) := by decide +kernel
theorem dX3_pressureAt_6 : decode cX3_pressureAt 6 = .ok (.getfield 9, 3) := by decide +kernel
theorem dX3_pressureAt_9 : decode cX3_pressureAt 9 = .ok (.arraylength, 1) := by decide +kernel
theorem dX3_pressureAt_10 : decode cX3_pressureAt 10 = .ok (.if_icmp .ge 12, 3) := by decide +kernel
theorem dX3_pressureAt_13 : decode cX3_pressureAt 13 = .ok (.aload_n 0, 1) := by decide +kernel
theorem dX3_pressureAt_14 : decode cX3_pressureAt 14 = .ok (.getfield 9, 3) := by decide +kernel
theorem dX3_pressureAt_17 : decode cX3_pressureAt 17 = .ok (.iload_n 1, 1) := by decide +kernel
theorem dX3_pressureAt_18 : decode cX3_pressureAt 18 = .ok (.iaload, 1) := by decide +kernel
theorem dX3_pressureAt_19 : decode cX3_pressureAt 19 = .ok (.goto 4, 3) := by decide +kernel
theorem dX3_pressureAt_22 : decode cX3_pressureAt 22 = .ok (.iconst 0, 1) := by decide +kernel
theorem dX3_pressureAt_23 : decode cX3_pressureAt 23 = .ok (.ireturn, 1) := by decide +kernel
theorem dX3_press_0 : decode cX3_press 0 = .ok (.iload_n 1, 1) := by decide +kernel
theorem dX3_press_1 : decode cX3_press 1 = .ok (.ifCond .lt 19, 3) := by decide +kernel
theorem dX3_press_4 : decode cX3_press 4 = .ok (.iload_n 1, 1) := by decide +kernel
theorem dX3_press_5 : decode cX3_press 5 = .ok (.aload_n 0, 1) := by decide +kernel
theorem dX3_press_6 : decode cX3_press 6 = .ok (.getfield 9, 3) := by decide +kernel
theorem dX3_press_9 : decode cX3_press 9 = .ok (.arraylength, 1) := by decide +kernel
theorem dX3_press_10 : decode cX3_press 10 = .ok (.if_icmp .ge 10, 3) := by decide +kernel
theorem dX3_press_13 : decode cX3_press 13 = .ok (.aload_n 0, 1) := by decide +kernel
theorem dX3_press_14 : decode cX3_press 14 = .ok (.getfield 9, 3) := by decide +kernel
theorem dX3_press_17 : decode cX3_press 17 = .ok (.iload_n 1, 1) := by decide +kernel
theorem dX3_press_18 : decode cX3_press 18 = .ok (.iload_n 2, 1) := by decide +kernel
theorem dX3_press_19 : decode cX3_press 19 = .ok (.iastore, 1) := by decide +kernel
theorem dX3_press_20 : decode cX3_press 20 = .ok (.return_, 1) := by decide +kernel
theorem dX3_append_0 : decode cX3_append 0 = .ok (.aload_n 0, 1) := by decide +kernel
theorem dX3_append_1 : decode cX3_append 1 = .ok (.getfield 43, 3) := by decide +kernel
theorem dX3_append_4 : decode cX3_append 4 = .ok (.bipush 12, 2) := by decide +kernel
theorem dX3_append_6 : decode cX3_append 6 = .ok (.if_icmp .lt 8, 3) := by decide +kernel
theorem dX3_append_9 : decode cX3_append 9 = .ok (.aload_n 0, 1) := by decide +kernel
theorem dX3_append_10 : decode cX3_append 10 = .ok (.getfield 32, 3) := by decide +kernel
theorem dX3_append_13 : decode cX3_append 13 = .ok (.areturn, 1) := by decide +kernel
theorem dX3_append_14 : decode cX3_append 14 = .ok (.aload_n 0, 1) := by decide +kernel
theorem dX3_append_15 : decode cX3_append 15 = .ok (.dup, 1) := by decide +kernel
theorem dX3_append_16 : decode cX3_append 16 = .ok (.getfield 43, 3) := by decide +kernel
theorem dX3_append_19 : decode cX3_append 19 = .ok (.iconst 1, 1) := by decide +kernel
theorem dX3_append_20 : decode cX3_append 20 = .ok (.iadd, 1) := by decide +kernel
theorem dX3_append_21 : decode cX3_append 21 = .ok (.putfield 43, 3) := by decide +kernel
theorem dX3_append_24 : decode cX3_append 24 = .ok (.aload_n 0, 1) := by decide +kernel
theorem dX3_append_25 : decode cX3_append 25 = .ok (.aload_n 0, 1) := by decide +kernel
theorem dX3_append_26 : decode cX3_append 26 = .ok (.getfield 43, 3) := by decide +kernel
theorem dX3_append_29 : decode cX3_append 29 = .ok (.iconst 1, 1) := by decide +kernel
theorem dX3_append_30 : decode cX3_append 30 = .ok (.isub, 1) := by decide +kernel
theorem dX3_append_31 : decode cX3_append 31 = .ok (.invokevirtual 58, 3) := by decide +kernel
theorem dX3_append_34 : decode cX3_append 34 = .ok (.areturn, 1) := by decide +kernel
theorem dX3_remove_0 : decode cX3_remove 0 = .ok (.iload_n 1, 1) := by decide +kernel
theorem dX3_remove_1 : decode cX3_remove 1 = .ok (.istore_n 2, 1) := by decide +kernel
theorem dX3_remove_2 : decode cX3_remove 2 = .ok (.iload_n 2, 1) := by decide +kernel
theorem dX3_remove_3 : decode cX3_remove 3 = .ok (.aload_n 0, 1) := by decide +kernel
theorem dX3_remove_4 : decode cX3_remove 4 = .ok (.getfield 43, 3) := by decide +kernel
theorem dX3_remove_7 : decode cX3_remove 7 = .ok (.iconst 1, 1) := by decide +kernel
theorem dX3_remove_8 : decode cX3_remove 8 = .ok (.isub, 1) := by decide +kernel
theorem dX3_remove_9 : decode cX3_remove 9 = .ok (.if_icmp .ge 24, 3) := by decide +kernel
theorem dX3_remove_12 : decode cX3_remove 12 = .ok (.aload_n 0, 1) := by decide +kernel
theorem dX3_remove_13 : decode cX3_remove 13 = .ok (.iload_n 2, 1) := by decide +kernel
theorem dX3_remove_14 : decode cX3_remove 14 = .ok (.invokevirtual 58, 3) := by decide +kernel
theorem dX3_remove_17 : decode cX3_remove 17 = .ok (.aload_n 0, 1) := by decide +kernel
theorem dX3_remove_18 : decode cX3_remove 18 = .ok (.iload_n 2, 1) := by decide +kernel
theorem dX3_remove_19 : decode cX3_remove 19 = .ok (.iconst 1, 1) := by decide +kernel
theorem dX3_remove_20 : decode cX3_remove 20 = .ok (.iadd, 1) := by decide +kernel
theorem dX3_remove_21 : decode cX3_remove 21 = .ok (.invokevirtual 58, 3) := by decide +kernel
theorem dX3_remove_24 : decode cX3_remove 24 = .ok (.invokevirtual 62, 3) := by decide +kernel
theorem dX3_remove_27 : decode cX3_remove 27 = .ok (.iinc 2 1, 3) := by decide +kernel
theorem dX3_remove_30 : decode cX3_remove 30 = .ok (.goto (-28), 3) := by decide +kernel
theorem dX3_remove_33 : decode cX3_remove 33 = .ok (.aload_n 0, 1) := by decide +kernel
theorem dX3_remove_34 : decode cX3_remove 34 = .ok (.dup, 1) := by decide +kernel
theorem dX3_remove_35 : decode cX3_remove 35 = .ok (.getfield 43, 3) := by decide +kernel
theorem dX3_remove_38 : decode cX3_remove 38 = .ok (.iconst 1, 1) := by decide +kernel
theorem dX3_remove_39 : decode cX3_remove 39 = .ok (.isub, 1) := by decide +kernel
theorem dX3_remove_40 : decode cX3_remove 40 = .ok (.putfield 43, 3) := by decide +kernel
theorem dX3_remove_43 : decode cX3_remove 43 = .ok (.return_, 1) := by decide +kernel
theorem dX3_countInState_0 : decode cX3_countInState 0 = .ok (.iconst 0, 1) := by decide +kernel
theorem dX3_countInState_1 : decode cX3_countInState 1 = .ok (.istore_n 2, 1) := by decide +kernel
theorem dX3_countInState_2 : decode cX3_countInState 2 = .ok (.iconst 0, 1) := by decide +kernel
theorem dX3_countInState_3 : decode cX3_countInState 3 = .ok (.istore_n 3, 1) := by decide +kernel
theorem dX3_countInState_4 : decode cX3_countInState 4 = .ok (.iload_n 3, 1) := by decide +kernel
theorem dX3_countInState_5 : decode cX3_countInState 5 = .ok (.aload_n 0, 1) := by decide +kernel
theorem dX3_countInState_6 : decode cX3_countInState 6 = .ok (.getfield 43, 3) := by decide +kernel
theorem dX3_countInState_9 : decode cX3_countInState 9 = .ok (.if_icmp .ge 29, 3) := by decide +kernel
theorem dX3_countInState_12 : decode cX3_countInState 12 = .ok (.iload_n 2, 1) := by decide +kernel
theorem dX3_countInState_13 : decode cX3_countInState 13 = .ok (.aload_n 0, 1) := by decide +kernel
theorem dX3_countInState_14 : decode cX3_countInState 14 = .ok (.iload_n 3, 1) := by decide +kernel
theorem dX3_countInState_15 : decode cX3_countInState 15 = .ok (.invokevirtual 58, 3) := by decide +kernel
theorem dX3_countInState_18 : decode cX3_countInState 18 = .ok (.getfield 65, 3) := by decide +kernel
theorem dX3_countInState_21 : decode cX3_countInState 21 = .ok (.iload_n 1, 1) := by decide +kernel
theorem dX3_countInState_22 : decode cX3_countInState 22 = .ok (.if_icmp .ne 7, 3) := by decide +kernel
theorem dX3_countInState_25 : decode cX3_countInState 25 = .ok (.iconst 1, 1) := by decide +kernel
theorem dX3_countInState_26 : decode cX3_countInState 26 = .ok (.goto 4, 3) := by decide +kernel
theorem dX3_countInState_29 : decode cX3_countInState 29 = .ok (.iconst 0, 1) := by decide +kernel
theorem dX3_countInState_30 : decode cX3_countInState 30 = .ok (.iadd, 1) := by decide +kernel
theorem dX3_countInState_31 : decode cX3_countInState 31 = .ok (.istore_n 2, 1) := by decide +kernel
theorem dX3_countInState_32 : decode cX3_countInState 32 = .ok (.iinc 3 1, 3) := by decide +kernel
theorem dX3_countInState_35 : decode cX3_countInState 35 = .ok (.goto (-31), 3) := by decide +kernel
theorem dX3_countInState_38 : decode cX3_countInState 38 = .ok (.iload_n 2, 1) := by decide +kernel
theorem dX3_countInState_39 : decode cX3_countInState 39 = .ok (.ireturn, 1) := by decide +kernel
theorem dX3_countInLeg_0 : decode cX3_countInLeg 0 = .ok (.iconst 0, 1) := by decide +kernel
theorem dX3_countInLeg_1 : decode cX3_countInLeg 1 = .ok (.istore_n 2, 1) := by decide +kernel
theorem dX3_countInLeg_2 : decode cX3_countInLeg 2 = .ok (.iconst 0, 1) := by decide +kernel
theorem dX3_countInLeg_3 : decode cX3_countInLeg 3 = .ok (.istore_n 3, 1) := by decide +kernel
theorem dX3_countInLeg_4 : decode cX3_countInLeg 4 = .ok (.iload_n 3, 1) := by decide +kernel
theorem dX3_countInLeg_5 : decode cX3_countInLeg 5 = .ok (.aload_n 0, 1) := by decide +kernel
theorem dX3_countInLeg_6 : decode cX3_countInLeg 6 = .ok (.getfield 43, 3) := by decide +kernel
theorem dX3_countInLeg_9 : decode cX3_countInLeg 9 = .ok (.if_icmp .ge 29, 3) := by decide +kernel
theorem dX3_countInLeg_12 : decode cX3_countInLeg 12 = .ok (.iload_n 2, 1) := by decide +kernel
theorem dX3_countInLeg_13 : decode cX3_countInLeg 13 = .ok (.aload_n 0, 1) := by decide +kernel
theorem dX3_countInLeg_14 : decode cX3_countInLeg 14 = .ok (.iload_n 3, 1) := by decide +kernel
theorem dX3_countInLeg_15 : decode cX3_countInLeg 15 = .ok (.invokevirtual 58, 3) := by decide +kernel
theorem dX3_countInLeg_18 : decode cX3_countInLeg 18 = .ok (.getfield 68, 3) := by decide +kernel
theorem dX3_countInLeg_21 : decode cX3_countInLeg 21 = .ok (.iload_n 1, 1) := by decide +kernel
theorem dX3_countInLeg_22 : decode cX3_countInLeg 22 = .ok (.if_icmp .ne 7, 3) := by decide +kernel
theorem dX3_countInLeg_25 : decode cX3_countInLeg 25 = .ok (.iconst 1, 1) := by decide +kernel
theorem dX3_countInLeg_26 : decode cX3_countInLeg 26 = .ok (.goto 4, 3) := by decide +kernel
theorem dX3_countInLeg_29 : decode cX3_countInLeg 29 = .ok (.iconst 0, 1) := by decide +kernel
theorem dX3_countInLeg_30 : decode cX3_countInLeg 30 = .ok (.iadd, 1) := by decide +kernel
theorem dX3_countInLeg_31 : decode cX3_countInLeg 31 = .ok (.istore_n 2, 1) := by decide +kernel
theorem dX3_countInLeg_32 : decode cX3_countInLeg 32 = .ok (.iinc 3 1, 3) := by decide +kernel
theorem dX3_countInLeg_35 : decode cX3_countInLeg 35 = .ok (.goto (-31), 3) := by decide +kernel
theorem dX3_countInLeg_38 : decode cX3_countInLeg 38 = .ok (.iload_n 2, 1) := by decide +kernel
theorem dX3_countInLeg_39 : decode cX3_countInLeg 39 = .ok (.ireturn, 1) := by decide +kernel
theorem dX3_numberOf_0 : decode cX3_numberOf 0 = .ok (.aload_n 0, 1) := by decide +kernel
theorem dX3_numberOf_1 : decode cX3_numberOf 1 = .ok (.iload_n 1, 1) := by decide +kernel
theorem dX3_numberOf_2 : decode cX3_numberOf 2 = .ok (.invokevirtual 58, 3) := by decide +kernel
theorem dX3_numberOf_5 : decode cX3_numberOf 5 = .ok (.astore_n 3, 1) := by decide +kernel
theorem dX3_numberOf_6 : decode cX3_numberOf 6 = .ok (.iload_n 2, 1) := by decide +kernel
theorem dX3_numberOf_7 : decode cX3_numberOf 7 = .ok (.tableswitch 129 0 12 #[65, 70, 75, 80, 85, 90, 95, 100, 105, 110, 115, 129, 120], 65) := by decide +kernel
theorem dX3_numberOf_72 : decode cX3_numberOf 72 = .ok (.aload_n 3, 1) := by decide +kernel
theorem dX3_numberOf_73 : decode cX3_numberOf 73 = .ok (.getfield 68, 3) := by decide +kernel
theorem dX3_numberOf_76 : decode cX3_numberOf 76 = .ok (.ireturn, 1) := by decide +kernel
theorem dX3_numberOf_77 : decode cX3_numberOf 77 = .ok (.aload_n 3, 1) := by decide +kernel
theorem dX3_numberOf_78 : decode cX3_numberOf 78 = .ok (.getfield 71, 3) := by decide +kernel
theorem dX3_numberOf_81 : decode cX3_numberOf 81 = .ok (.ireturn, 1) := by decide +kernel
theorem dX3_numberOf_82 : decode cX3_numberOf 82 = .ok (.aload_n 3, 1) := by decide +kernel
theorem dX3_numberOf_83 : decode cX3_numberOf 83 = .ok (.getfield 74, 3) := by decide +kernel
theorem dX3_numberOf_86 : decode cX3_numberOf 86 = .ok (.ireturn, 1) := by decide +kernel
theorem dX3_numberOf_87 : decode cX3_numberOf 87 = .ok (.aload_n 3, 1) := by decide +kernel
theorem dX3_numberOf_88 : decode cX3_numberOf 88 = .ok (.getfield 77, 3) := by decide +kernel
theorem dX3_numberOf_91 : decode cX3_numberOf 91 = .ok (.ireturn, 1) := by decide +kernel
theorem dX3_numberOf_92 : decode cX3_numberOf 92 = .ok (.aload_n 3, 1) := by decide +kernel
theorem dX3_numberOf_93 : decode cX3_numberOf 93 = .ok (.getfield 80, 3) := by decide +kernel
theorem dX3_numberOf_96 : decode cX3_numberOf 96 = .ok (.ireturn, 1) := by decide +kernel
theorem dX3_numberOf_97 : decode cX3_numberOf 97 = .ok (.aload_n 3, 1) := by decide +kernel
theorem dX3_numberOf_98 : decode cX3_numberOf 98 = .ok (.getfield 83, 3) := by decide +kernel
theorem dX3_numberOf_101 : decode cX3_numberOf 101 = .ok (.ireturn, 1) := by decide +kernel
theorem dX3_numberOf_102 : decode cX3_numberOf 102 = .ok (.aload_n 3, 1) := by decide +kernel
theorem dX3_numberOf_103 : decode cX3_numberOf 103 = .ok (.getfield 65, 3) := by decide +kernel
theorem dX3_numberOf_106 : decode cX3_numberOf 106 = .ok (.ireturn, 1) := by decide +kernel
theorem dX3_numberOf_107 : decode cX3_numberOf 107 = .ok (.aload_n 3, 1) := by decide +kernel
theorem dX3_numberOf_108 : decode cX3_numberOf 108 = .ok (.getfield 86, 3) := by decide +kernel
theorem dX3_numberOf_111 : decode cX3_numberOf 111 = .ok (.ireturn, 1) := by decide +kernel
theorem dX3_numberOf_112 : decode cX3_numberOf 112 = .ok (.aload_n 3, 1) := by decide +kernel
theorem dX3_numberOf_113 : decode cX3_numberOf 113 = .ok (.invokevirtual 89, 3) := by decide +kernel
theorem dX3_numberOf_116 : decode cX3_numberOf 116 = .ok (.ireturn, 1) := by decide +kernel
theorem dX3_numberOf_117 : decode cX3_numberOf 117 = .ok (.aload_n 3, 1) := by decide +kernel
theorem dX3_numberOf_118 : decode cX3_numberOf 118 = .ok (.getfield 93, 3) := by decide +kernel
theorem dX3_numberOf_121 : decode cX3_numberOf 121 = .ok (.ireturn, 1) := by decide +kernel
theorem dX3_numberOf_122 : decode cX3_numberOf 122 = .ok (.aload_n 3, 1) := by decide +kernel
theorem dX3_numberOf_123 : decode cX3_numberOf 123 = .ok (.getfield 96, 3) := by decide +kernel
theorem dX3_numberOf_126 : decode cX3_numberOf 126 = .ok (.ireturn, 1) := by decide +kernel
theorem dX3_numberOf_127 : decode cX3_numberOf 127 = .ok (.aload_n 0, 1) := by decide +kernel
theorem dX3_numberOf_128 : decode cX3_numberOf 128 = .ok (.aload_n 3, 1) := by decide +kernel
theorem dX3_numberOf_129 : decode cX3_numberOf 129 = .ok (.getfield 71, 3) := by decide +kernel
theorem dX3_numberOf_132 : decode cX3_numberOf 132 = .ok (.invokevirtual 50, 3) := by decide +kernel
theorem dX3_numberOf_135 : decode cX3_numberOf 135 = .ok (.ireturn, 1) := by decide +kernel
theorem dX3_numberOf_136 : decode cX3_numberOf 136 = .ok (.iload_n 1, 1) := by decide +kernel
theorem dX3_numberOf_137 : decode cX3_numberOf 137 = .ok (.ireturn, 1) := by decide +kernel
theorem dX3_settle_0 : decode cX3_settle 0 = .ok (.iconst 0, 1) := by decide +kernel
theorem dX3_settle_1 : decode cX3_settle 1 = .ok (.istore_n 1, 1) := by decide +kernel
theorem dX3_settle_2 : decode cX3_settle 2 = .ok (.iload_n 1, 1) := by decide +kernel
theorem dX3_settle_3 : decode cX3_settle 3 = .ok (.aload_n 0, 1) := by decide +kernel
theorem dX3_settle_4 : decode cX3_settle 4 = .ok (.getfield 43, 3) := by decide +kernel
theorem dX3_settle_7 : decode cX3_settle 7 = .ok (.if_icmp .ge 85, 3) := by decide +kernel
theorem dX3_settle_10 : decode cX3_settle 10 = .ok (.aload_n 0, 1) := by decide +kernel
theorem dX3_settle_11 : decode cX3_settle 11 = .ok (.iload_n 1, 1) := by decide +kernel
theorem dX3_settle_12 : decode cX3_settle 12 = .ok (.invokevirtual 58, 3) := by decide +kernel
theorem dX3_settle_15 : decode cX3_settle 15 = .ok (.astore_n 2, 1) := by decide +kernel
theorem dX3_settle_16 : decode cX3_settle 16 = .ok (.aload_n 0, 1) := by decide +kernel
theorem dX3_settle_17 : decode cX3_settle 17 = .ok (.aload_n 2, 1) := by decide +kernel
theorem dX3_settle_18 : decode cX3_settle 18 = .ok (.getfield 68, 3) := by decide +kernel
theorem dX3_settle_21 : decode cX3_settle 21 = .ok (.invokevirtual 99, 3) := by decide +kernel
theorem dX3_settle_24 : decode cX3_settle 24 = .ok (.astore_n 3, 1) := by decide +kernel
theorem dX3_settle_25 : decode cX3_settle 25 = .ok (.aload_n 2, 1) := by decide +kernel
theorem dX3_settle_26 : decode cX3_settle 26 = .ok (.aload_n 3, 1) := by decide +kernel
theorem dX3_settle_27 : decode cX3_settle 27 = .ok (.getfield 110, 3) := by decide +kernel
theorem dX3_settle_30 : decode cX3_settle 30 = .ok (.ifCond .ne 7, 3) := by decide +kernel
theorem dX3_settle_33 : decode cX3_settle 33 = .ok (.iconst 0, 1) := by decide +kernel
theorem dX3_settle_34 : decode cX3_settle 34 = .ok (.goto 25, 3) := by decide +kernel
theorem dX3_settle_37 : decode cX3_settle 37 = .ok (.aload_n 0, 1) := by decide +kernel
theorem dX3_settle_38 : decode cX3_settle 38 = .ok (.getfield 40, 3) := by decide +kernel
theorem dX3_settle_41 : decode cX3_settle 41 = .ok (.aload_n 0, 1) := by decide +kernel
theorem dX3_settle_42 : decode cX3_settle 42 = .ok (.aload_n 2, 1) := by decide +kernel
theorem dX3_settle_43 : decode cX3_settle 43 = .ok (.getfield 71, 3) := by decide +kernel
theorem dX3_settle_46 : decode cX3_settle 46 = .ok (.invokevirtual 50, 3) := by decide +kernel
theorem dX3_settle_49 : decode cX3_settle 49 = .ok (.isub, 1) := by decide +kernel
theorem dX3_settle_50 : decode cX3_settle 50 = .ok (.sipush 1000, 3) := by decide +kernel
theorem dX3_settle_53 : decode cX3_settle 53 = .ok (.imul, 1) := by decide +kernel
theorem dX3_settle_54 : decode cX3_settle 54 = .ok (.aload_n 3, 1) := by decide +kernel
theorem dX3_settle_55 : decode cX3_settle 55 = .ok (.getfield 110, 3) := by decide +kernel
theorem dX3_settle_58 : decode cX3_settle 58 = .ok (.idiv, 1) := by decide +kernel
theorem dX3_settle_59 : decode cX3_settle 59 = .ok (.putfield 93, 3) := by decide +kernel
theorem dX3_settle_62 : decode cX3_settle 62 = .ok (.aload_n 2, 1) := by decide +kernel
theorem dX3_settle_63 : decode cX3_settle 63 = .ok (.aload_n 2, 1) := by decide +kernel
theorem dX3_settle_64 : decode cX3_settle 64 = .ok (.getfield 74, 3) := by decide +kernel
theorem dX3_settle_67 : decode cX3_settle 67 = .ok (.ifCond .ne 7, 3) := by decide +kernel
theorem dX3_settle_70 : decode cX3_settle 70 = .ok (.iconst 0, 1) := by decide +kernel
theorem dX3_settle_71 : decode cX3_settle 71 = .ok (.goto 12, 3) := by decide +kernel
theorem dX3_settle_74 : decode cX3_settle 74 = .ok (.aload_n 3, 1) := by decide +kernel
theorem dX3_settle_75 : decode cX3_settle 75 = .ok (.getfield 119, 3) := by decide +kernel
theorem dX3_settle_78 : decode cX3_settle 78 = .ok (.aload_n 2, 1) := by decide +kernel
theorem dX3_settle_79 : decode cX3_settle 79 = .ok (.getfield 74, 3) := by decide +kernel
theorem dX3_settle_82 : decode cX3_settle 82 = .ok (.idiv, 1) := by decide +kernel
theorem dX3_settle_83 : decode cX3_settle 83 = .ok (.putfield 96, 3) := by decide +kernel
theorem dX3_settle_86 : decode cX3_settle 86 = .ok (.iinc 1 1, 3) := by decide +kernel
theorem dX3_settle_89 : decode cX3_settle 89 = .ok (.goto (-87), 3) := by decide +kernel
theorem dX3_settle_92 : decode cX3_settle 92 = .ok (.aload_n 0, 1) := by decide +kernel
theorem dX3_settle_93 : decode cX3_settle 93 = .ok (.iconst 0, 1) := by decide +kernel
theorem dX3_settle_94 : decode cX3_settle 94 = .ok (.invokevirtual 122, 3) := by decide +kernel
theorem dX3_settle_97 : decode cX3_settle 97 = .ok (.aload_n 0, 1) := by decide +kernel
theorem dX3_settle_98 : decode cX3_settle 98 = .ok (.iconst 1, 1) := by decide +kernel
theorem dX3_settle_99 : decode cX3_settle 99 = .ok (.invokevirtual 122, 3) := by decide +kernel
theorem dX3_settle_102 : decode cX3_settle 102 = .ok (.iadd, 1) := by decide +kernel
theorem dX3_settle_103 : decode cX3_settle 103 = .ok (.istore_n 1, 1) := by decide +kernel
theorem dX3_settle_104 : decode cX3_settle 104 = .ok (.iconst 0, 1) := by decide +kernel
theorem dX3_settle_105 : decode cX3_settle 105 = .ok (.istore_n 2, 1) := by decide +kernel
theorem dX3_settle_106 : decode cX3_settle 106 = .ok (.iload_n 2, 1) := by decide +kernel
theorem dX3_settle_107 : decode cX3_settle 107 = .ok (.aload_n 0, 1) := by decide +kernel
theorem dX3_settle_108 : decode cX3_settle 108 = .ok (.getfield 43, 3) := by decide +kernel
theorem dX3_settle_111 : decode cX3_settle 111 = .ok (.if_icmp .ge 35, 3) := by decide +kernel
theorem dX3_settle_114 : decode cX3_settle 114 = .ok (.aload_n 0, 1) := by decide +kernel
theorem dX3_settle_115 : decode cX3_settle 115 = .ok (.iload_n 2, 1) := by decide +kernel
theorem dX3_settle_116 : decode cX3_settle 116 = .ok (.invokevirtual 58, 3) := by decide +kernel
theorem dX3_settle_119 : decode cX3_settle 119 = .ok (.astore_n 3, 1) := by decide +kernel
theorem dX3_settle_120 : decode cX3_settle 120 = .ok (.aload_n 3, 1) := by decide +kernel
theorem dX3_settle_121 : decode cX3_settle 121 = .ok (.aload_n 3, 1) := by decide +kernel
theorem dX3_settle_122 : decode cX3_settle 122 = .ok (.aload_n 0, 1) := by decide +kernel
theorem dX3_settle_123 : decode cX3_settle 123 = .ok (.aload_n 3, 1) := by decide +kernel
theorem dX3_settle_124 : decode cX3_settle 124 = .ok (.getfield 68, 3) := by decide +kernel
theorem dX3_settle_127 : decode cX3_settle 127 = .ok (.invokevirtual 99, 3) := by decide +kernel
theorem dX3_settle_130 : decode cX3_settle 130 = .ok (.getfield 106, 3) := by decide +kernel
theorem dX3_settle_133 : decode cX3_settle 133 = .ok (.invokevirtual 125, 3) := by decide +kernel
theorem dX3_settle_136 : decode cX3_settle 136 = .ok (.l2i, 1) := by decide +kernel
theorem dX3_settle_137 : decode cX3_settle 137 = .ok (.putfield 86, 3) := by decide +kernel
theorem dX3_settle_140 : decode cX3_settle 140 = .ok (.iinc 2 1, 3) := by decide +kernel
theorem dX3_settle_143 : decode cX3_settle 143 = .ok (.goto (-37), 3) := by decide +kernel
theorem dX3_settle_146 : decode cX3_settle 146 = .ok (.iload_n 1, 1) := by decide +kernel
theorem dX3_settle_147 : decode cX3_settle 147 = .ok (.ireturn, 1) := by decide +kernel
theorem dX3_settleLeg_0 : decode cX3_settleLeg 0 = .ok (.aload_n 0, 1) := by decide +kernel
theorem dX3_settleLeg_1 : decode cX3_settleLeg 1 = .ok (.iload_n 1, 1) := by decide +kernel
theorem dX3_settleLeg_2 : decode cX3_settleLeg 2 = .ok (.invokevirtual 99, 3) := by decide +kernel
theorem dX3_settleLeg_5 : decode cX3_settleLeg 5 = .ok (.astore_n 2, 1) := by decide +kernel
theorem dX3_settleLeg_6 : decode cX3_settleLeg 6 = .ok (.iconst 0, 1) := by decide +kernel
theorem dX3_settleLeg_7 : decode cX3_settleLeg 7 = .ok (.istore_n 3, 1) := by decide +kernel
theorem dX3_settleLeg_8 : decode cX3_settleLeg 8 = .ok (.iconst 1, 1) := by decide +kernel
theorem dX3_settleLeg_9 : decode cX3_settleLeg 9 = .ok (.istore 4, 2) := by decide +kernel
theorem dX3_settleLeg_11 : decode cX3_settleLeg 11 = .ok (.iconst 0, 1) := by decide +kernel
theorem dX3_settleLeg_12 : decode cX3_settleLeg 12 = .ok (.istore 5, 2) := by decide +kernel
theorem dX3_settleLeg_14 : decode cX3_settleLeg 14 = .ok (.iload 5, 2) := by decide +kernel
theorem dX3_settleLeg_16 : decode cX3_settleLeg 16 = .ok (.bipush 12, 2) := by decide +kernel
theorem dX3_settleLeg_18 : decode cX3_settleLeg 18 = .ok (.if_icmp .gt 35, 3) := by decide +kernel
theorem dX3_settleLeg_21 : decode cX3_settleLeg 21 = .ok (.iload 4, 2) := by decide +kernel
theorem dX3_settleLeg_23 : decode cX3_settleLeg 23 = .ok (.ifCond .le 30, 3) := by decide +kernel
theorem dX3_settleLeg_26 : decode cX3_settleLeg 26 = .ok (.aload_n 2, 1) := by decide +kernel
theorem dX3_settleLeg_27 : decode cX3_settleLeg 27 = .ok (.aload_n 0, 1) := by decide +kernel
theorem dX3_settleLeg_28 : decode cX3_settleLeg 28 = .ok (.iload_n 1, 1) := by decide +kernel
theorem dX3_settleLeg_29 : decode cX3_settleLeg 29 = .ok (.invokevirtual 129, 3) := by decide +kernel
theorem dX3_settleLeg_32 : decode cX3_settleLeg 32 = .ok (.putfield 106, 3) := by decide +kernel
theorem dX3_settleLeg_35 : decode cX3_settleLeg 35 = .ok (.aload_n 0, 1) := by decide +kernel
theorem dX3_settleLeg_36 : decode cX3_settleLeg 36 = .ok (.iload_n 1, 1) := by decide +kernel
theorem dX3_settleLeg_37 : decode cX3_settleLeg 37 = .ok (.invokevirtual 133, 3) := by decide +kernel
theorem dX3_settleLeg_40 : decode cX3_settleLeg 40 = .ok (.istore 4, 2) := by decide +kernel
theorem dX3_settleLeg_42 : decode cX3_settleLeg 42 = .ok (.iload_n 3, 1) := by decide +kernel
theorem dX3_settleLeg_43 : decode cX3_settleLeg 43 = .ok (.iload 4, 2) := by decide +kernel
theorem dX3_settleLeg_45 : decode cX3_settleLeg 45 = .ok (.iadd, 1) := by decide +kernel
theorem dX3_settleLeg_46 : decode cX3_settleLeg 46 = .ok (.istore_n 3, 1) := by decide +kernel
theorem dX3_settleLeg_47 : decode cX3_settleLeg 47 = .ok (.iinc 5 1, 3) := by decide +kernel
theorem dX3_settleLeg_50 : decode cX3_settleLeg 50 = .ok (.goto (-36), 3) := by decide +kernel
theorem dX3_settleLeg_53 : decode cX3_settleLeg 53 = .ok (.iload_n 3, 1) := by decide +kernel
theorem dX3_settleLeg_54 : decode cX3_settleLeg 54 = .ok (.ireturn, 1) := by decide +kernel
theorem dX3_greatestLevel_0 : decode cX3_greatestLevel 0 = .ok (.aload_n 0, 1) := by decide +kernel
theorem dX3_greatestLevel_1 : decode cX3_greatestLevel 1 = .ok (.iload_n 1, 1) := by decide +kernel
theorem dX3_greatestLevel_2 : decode cX3_greatestLevel 2 = .ok (.invokevirtual 99, 3) := by decide +kernel
theorem dX3_greatestLevel_5 : decode cX3_greatestLevel 5 = .ok (.astore_n 2, 1) := by decide +kernel
theorem dX3_greatestLevel_6 : decode cX3_greatestLevel 6 = .ok (.aload_n 2, 1) := by decide +kernel
theorem dX3_greatestLevel_7 : decode cX3_greatestLevel 7 = .ok (.getfield 136, 3) := by decide +kernel
theorem dX3_greatestLevel_10 : decode cX3_greatestLevel 10 = .ok (.ifCond .ne 5, 3) := by decide +kernel
theorem dX3_greatestLevel_13 : decode cX3_greatestLevel 13 = .ok (.lconst 0, 1) := by decide +kernel
theorem dX3_greatestLevel_14 : decode cX3_greatestLevel 14 = .ok (.lreturn, 1) := by decide +kernel
theorem dX3_greatestLevel_15 : decode cX3_greatestLevel 15 = .ok (.aload_n 2, 1) := by decide +kernel
theorem dX3_greatestLevel_16 : decode cX3_greatestLevel 16 = .ok (.getfield 139, 3) := by decide +kernel
theorem dX3_greatestLevel_19 : decode cX3_greatestLevel 19 = .ok (.aload_n 0, 1) := by decide +kernel
theorem dX3_greatestLevel_20 : decode cX3_greatestLevel 20 = .ok (.iload_n 1, 1) := by decide +kernel
theorem dX3_greatestLevel_21 : decode cX3_greatestLevel 21 = .ok (.invokevirtual 142, 3) := by decide +kernel
theorem dX3_greatestLevel_24 : decode cX3_greatestLevel 24 = .ok (.lsub, 1) := by decide +kernel
theorem dX3_greatestLevel_25 : decode cX3_greatestLevel 25 = .ok (.aload_n 2, 1) := by decide +kernel
theorem dX3_greatestLevel_26 : decode cX3_greatestLevel 26 = .ok (.getfield 136, 3) := by decide +kernel
theorem dX3_greatestLevel_29 : decode cX3_greatestLevel 29 = .ok (.i2l, 1) := by decide +kernel
theorem dX3_greatestLevel_30 : decode cX3_greatestLevel 30 = .ok (.invokestatic 145, 3) := by decide +kernel
theorem dX3_greatestLevel_33 : decode cX3_greatestLevel 33 = .ok (.lstore_n 3, 1) := by decide +kernel
theorem dX3_greatestLevel_34 : decode cX3_greatestLevel 34 = .ok (.aload_n 2, 1) := by decide +kernel
theorem dX3_greatestLevel_35 : decode cX3_greatestLevel 35 = .ok (.getfield 139, 3) := by decide +kernel
theorem dX3_greatestLevel_38 : decode cX3_greatestLevel 38 = .ok (.aload_n 2, 1) := by decide +kernel
theorem dX3_greatestLevel_39 : decode cX3_greatestLevel 39 = .ok (.getfield 136, 3) := by decide +kernel
theorem dX3_greatestLevel_42 : decode cX3_greatestLevel 42 = .ok (.i2l, 1) := by decide +kernel
theorem dX3_greatestLevel_43 : decode cX3_greatestLevel 43 = .ok (.invokestatic 145, 3) := by decide +kernel
theorem dX3_greatestLevel_46 : decode cX3_greatestLevel 46 = .ok (.lstore 5, 2) := by decide +kernel
theorem dX3_greatestLevel_48 : decode cX3_greatestLevel 48 = .ok (.iconst 0, 1) := by decide +kernel
theorem dX3_greatestLevel_49 : decode cX3_greatestLevel 49 = .ok (.istore 7, 2) := by decide +kernel
theorem dX3_greatestLevel_51 : decode cX3_greatestLevel 51 = .ok (.iload 7, 2) := by decide +kernel
theorem dX3_greatestLevel_53 : decode cX3_greatestLevel 53 = .ok (.bipush 64, 2) := by decide +kernel
theorem dX3_greatestLevel_55 : decode cX3_greatestLevel 55 = .ok (.if_icmp .ge 66, 3) := by decide +kernel
theorem dX3_greatestLevel_58 : decode cX3_greatestLevel 58 = .ok (.lload_n 3, 1) := by decide +kernel
theorem dX3_greatestLevel_59 : decode cX3_greatestLevel 59 = .ok (.lload 5, 2) := by decide +kernel
theorem dX3_greatestLevel_61 : decode cX3_greatestLevel 61 = .ok (.lcmp, 1) := by decide +kernel
theorem dX3_greatestLevel_62 : decode cX3_greatestLevel 62 = .ok (.ifCond .ge 59, 3) := by decide +kernel
theorem dX3_greatestLevel_65 : decode cX3_greatestLevel 65 = .ok (.lload_n 3, 1) := by decide +kernel
theorem dX3_greatestLevel_66 : decode cX3_greatestLevel 66 = .ok (.lload 5, 2) := by decide +kernel
theorem dX3_greatestLevel_68 : decode cX3_greatestLevel 68 = .ok (.lload_n 3, 1) := by decide +kernel
theorem dX3_greatestLevel_69 : decode cX3_greatestLevel 69 = .ok (.lsub, 1) := by decide +kernel
theorem dX3_greatestLevel_70 : decode cX3_greatestLevel 70 = .ok (.lconst 1, 1) := by decide +kernel
theorem dX3_greatestLevel_71 : decode cX3_greatestLevel 71 = .ok (.ladd, 1) := by decide +kernel
theorem dX3_greatestLevel_72 : decode cX3_greatestLevel 72 = .ok (.ldc2_w 151, 3) := by decide +kernel
theorem dX3_greatestLevel_75 : decode cX3_greatestLevel 75 = .ok (.ldiv, 1) := by decide +kernel
theorem dX3_greatestLevel_76 : decode cX3_greatestLevel 76 = .ok (.ladd, 1) := by decide +kernel
theorem dX3_greatestLevel_77 : decode cX3_greatestLevel 77 = .ok (.lstore 8, 2) := by decide +kernel
theorem dX3_greatestLevel_79 : decode cX3_greatestLevel 79 = .ok (.aload_n 2, 1) := by decide +kernel
theorem dX3_greatestLevel_80 : decode cX3_greatestLevel 80 = .ok (.getfield 136, 3) := by decide +kernel
theorem dX3_greatestLevel_83 : decode cX3_greatestLevel 83 = .ok (.i2l, 1) := by decide +kernel
theorem dX3_greatestLevel_84 : decode cX3_greatestLevel 84 = .ok (.lload 8, 2) := by decide +kernel
theorem dX3_greatestLevel_86 : decode cX3_greatestLevel 86 = .ok (.lmul, 1) := by decide +kernel
theorem dX3_greatestLevel_87 : decode cX3_greatestLevel 87 = .ok (.aload_n 0, 1) := by decide +kernel
theorem dX3_greatestLevel_88 : decode cX3_greatestLevel 88 = .ok (.iload_n 1, 1) := by decide +kernel
theorem dX3_greatestLevel_89 : decode cX3_greatestLevel 89 = .ok (.lload 8, 2) := by decide +kernel
theorem dX3_greatestLevel_91 : decode cX3_greatestLevel 91 = .ok (.invokevirtual 153, 3) := by decide +kernel
theorem dX3_greatestLevel_94 : decode cX3_greatestLevel 94 = .ok (.ladd, 1) := by decide +kernel
theorem dX3_greatestLevel_95 : decode cX3_greatestLevel 95 = .ok (.aload_n 2, 1) := by decide +kernel
theorem dX3_greatestLevel_96 : decode cX3_greatestLevel 96 = .ok (.getfield 139, 3) := by decide +kernel
theorem dX3_greatestLevel_99 : decode cX3_greatestLevel 99 = .ok (.lcmp, 1) := by decide +kernel
theorem dX3_greatestLevel_100 : decode cX3_greatestLevel 100 = .ok (.ifCond .gt 9, 3) := by decide +kernel
theorem dX3_greatestLevel_103 : decode cX3_greatestLevel 103 = .ok (.lload 8, 2) := by decide +kernel
theorem dX3_greatestLevel_105 : decode cX3_greatestLevel 105 = .ok (.lstore_n 3, 1) := by decide +kernel
theorem dX3_greatestLevel_106 : decode cX3_greatestLevel 106 = .ok (.goto 9, 3) := by decide +kernel
theorem dX3_greatestLevel_109 : decode cX3_greatestLevel 109 = .ok (.lload 8, 2) := by decide +kernel
theorem dX3_greatestLevel_111 : decode cX3_greatestLevel 111 = .ok (.lconst 1, 1) := by decide +kernel
theorem dX3_greatestLevel_112 : decode cX3_greatestLevel 112 = .ok (.lsub, 1) := by decide +kernel
theorem dX3_greatestLevel_113 : decode cX3_greatestLevel 113 = .ok (.lstore 5, 2) := by decide +kernel
theorem dX3_greatestLevel_115 : decode cX3_greatestLevel 115 = .ok (.iinc 7 1, 3) := by decide +kernel
theorem dX3_greatestLevel_118 : decode cX3_greatestLevel 118 = .ok (.goto (-67), 3) := by decide +kernel
theorem dX3_greatestLevel_121 : decode cX3_greatestLevel 121 = .ok (.lload_n 3, 1) := by decide +kernel
theorem dX3_greatestLevel_122 : decode cX3_greatestLevel 122 = .ok (.lreturn, 1) := by decide +kernel
theorem dX3_fullVolumes_0 : decode cX3_fullVolumes 0 = .ok (.lconst 0, 1) := by decide +kernel
theorem dX3_fullVolumes_1 : decode cX3_fullVolumes 1 = .ok (.lstore_n 2, 1) := by decide +kernel
theorem dX3_fullVolumes_2 : decode cX3_fullVolumes 2 = .ok (.iconst 0, 1) := by decide +kernel
theorem dX3_fullVolumes_3 : decode cX3_fullVolumes 3 = .ok (.istore 4, 2) := by decide +kernel
theorem dX3_fullVolumes_5 : decode cX3_fullVolumes 5 = .ok (.iload 4, 2) := by decide +kernel
theorem dX3_fullVolumes_7 : decode cX3_fullVolumes 7 = .ok (.aload_n 0, 1) := by decide +kernel
theorem dX3_fullVolumes_8 : decode cX3_fullVolumes 8 = .ok (.getfield 43, 3) := by decide +kernel
theorem dX3_fullVolumes_11 : decode cX3_fullVolumes 11 = .ok (.if_icmp .ge 42, 3) := by decide +kernel
theorem dX3_fullVolumes_14 : decode cX3_fullVolumes 14 = .ok (.aload_n 0, 1) := by decide +kernel
theorem dX3_fullVolumes_15 : decode cX3_fullVolumes 15 = .ok (.iload 4, 2) := by decide +kernel
theorem dX3_fullVolumes_17 : decode cX3_fullVolumes 17 = .ok (.invokevirtual 58, 3) := by decide +kernel
theorem dX3_fullVolumes_20 : decode cX3_fullVolumes 20 = .ok (.astore 5, 2) := by decide +kernel
theorem dX3_fullVolumes_22 : decode cX3_fullVolumes 22 = .ok (.aload 5, 2) := by decide +kernel
theorem dX3_fullVolumes_24 : decode cX3_fullVolumes 24 = .ok (.getfield 68, 3) := by decide +kernel
theorem dX3_fullVolumes_27 : decode cX3_fullVolumes 27 = .ok (.iload_n 1, 1) := by decide +kernel
theorem dX3_fullVolumes_28 : decode cX3_fullVolumes 28 = .ok (.if_icmp .ne 19, 3) := by decide +kernel
theorem dX3_fullVolumes_31 : decode cX3_fullVolumes 31 = .ok (.aload 5, 2) := by decide +kernel
theorem dX3_fullVolumes_33 : decode cX3_fullVolumes 33 = .ok (.getfield 65, 3) := by decide +kernel
theorem dX3_fullVolumes_36 : decode cX3_fullVolumes 36 = .ok (.ifCond .ne 11, 3) := by decide +kernel
theorem dX3_fullVolumes_39 : decode cX3_fullVolumes 39 = .ok (.lload_n 2, 1) := by decide +kernel
theorem dX3_fullVolumes_40 : decode cX3_fullVolumes 40 = .ok (.aload 5, 2) := by decide +kernel
theorem dX3_fullVolumes_42 : decode cX3_fullVolumes 42 = .ok (.invokevirtual 157, 3) := by decide +kernel
theorem dX3_fullVolumes_45 : decode cX3_fullVolumes 45 = .ok (.ladd, 1) := by decide +kernel
theorem dX3_fullVolumes_46 : decode cX3_fullVolumes 46 = .ok (.lstore_n 2, 1) := by decide +kernel
theorem dX3_fullVolumes_47 : decode cX3_fullVolumes 47 = .ok (.iinc 4 1, 3) := by decide +kernel
theorem dX3_fullVolumes_50 : decode cX3_fullVolumes 50 = .ok (.goto (-45), 3) := by decide +kernel
theorem dX3_fullVolumes_53 : decode cX3_fullVolumes 53 = .ok (.lload_n 2, 1) := by decide +kernel
theorem dX3_fullVolumes_54 : decode cX3_fullVolumes 54 = .ok (.lreturn, 1) := by decide +kernel
theorem dX3_volumesAt_0 : decode cX3_volumesAt 0 = .ok (.lconst 0, 1) := by decide +kernel
theorem dX3_volumesAt_1 : decode cX3_volumesAt 1 = .ok (.lstore 4, 2) := by decide +kernel
theorem dX3_volumesAt_3 : decode cX3_volumesAt 3 = .ok (.iconst 0, 1) := by decide +kernel
theorem dX3_volumesAt_4 : decode cX3_volumesAt 4 = .ok (.istore 6, 2) := by decide +kernel
theorem dX3_volumesAt_6 : decode cX3_volumesAt 6 = .ok (.iload 6, 2) := by decide +kernel
theorem dX3_volumesAt_8 : decode cX3_volumesAt 8 = .ok (.aload_n 0, 1) := by decide +kernel
theorem dX3_volumesAt_9 : decode cX3_volumesAt 9 = .ok (.getfield 43, 3) := by decide +kernel
theorem dX3_volumesAt_12 : decode cX3_volumesAt 12 = .ok (.if_icmp .ge 51, 3) := by decide +kernel
theorem dX3_volumesAt_15 : decode cX3_volumesAt 15 = .ok (.aload_n 0, 1) := by decide +kernel
theorem dX3_volumesAt_16 : decode cX3_volumesAt 16 = .ok (.iload 6, 2) := by decide +kernel
theorem dX3_volumesAt_18 : decode cX3_volumesAt 18 = .ok (.invokevirtual 58, 3) := by decide +kernel
theorem dX3_volumesAt_21 : decode cX3_volumesAt 21 = .ok (.astore 7, 2) := by decide +kernel
theorem dX3_volumesAt_23 : decode cX3_volumesAt 23 = .ok (.aload 7, 2) := by decide +kernel
theorem dX3_volumesAt_25 : decode cX3_volumesAt 25 = .ok (.getfield 68, 3) := by decide +kernel
theorem dX3_volumesAt_28 : decode cX3_volumesAt 28 = .ok (.iload_n 1, 1) := by decide +kernel
theorem dX3_volumesAt_29 : decode cX3_volumesAt 29 = .ok (.if_icmp .ne 28, 3) := by decide +kernel
theorem dX3_volumesAt_32 : decode cX3_volumesAt 32 = .ok (.lload 4, 2) := by decide +kernel
theorem dX3_volumesAt_34 : decode cX3_volumesAt 34 = .ok (.aload 7, 2) := by decide +kernel
theorem dX3_volumesAt_36 : decode cX3_volumesAt 36 = .ok (.lload_n 2, 1) := by decide +kernel
theorem dX3_volumesAt_37 : decode cX3_volumesAt 37 = .ok (.invokevirtual 125, 3) := by decide +kernel
theorem dX3_volumesAt_40 : decode cX3_volumesAt 40 = .ok (.aload 7, 2) := by decide +kernel
theorem dX3_volumesAt_42 : decode cX3_volumesAt 42 = .ok (.getfield 74, 3) := by decide +kernel
theorem dX3_volumesAt_45 : decode cX3_volumesAt 45 = .ok (.i2l, 1) := by decide +kernel
theorem dX3_volumesAt_46 : decode cX3_volumesAt 46 = .ok (.lmul, 1) := by decide +kernel
theorem dX3_volumesAt_47 : decode cX3_volumesAt 47 = .ok (.aload 7, 2) := by decide +kernel
theorem dX3_volumesAt_49 : decode cX3_volumesAt 49 = .ok (.getfield 74, 3) := by decide +kernel
theorem dX3_volumesAt_52 : decode cX3_volumesAt 52 = .ok (.i2l, 1) := by decide +kernel
theorem dX3_volumesAt_53 : decode cX3_volumesAt 53 = .ok (.lmul, 1) := by decide +kernel
theorem dX3_volumesAt_54 : decode cX3_volumesAt 54 = .ok (.ladd, 1) := by decide +kernel
theorem dX3_volumesAt_55 : decode cX3_volumesAt 55 = .ok (.lstore 4, 2) := by decide +kernel
theorem dX3_volumesAt_57 : decode cX3_volumesAt 57 = .ok (.iinc 6 1, 3) := by decide +kernel
theorem dX3_volumesAt_60 : decode cX3_volumesAt 60 = .ok (.goto (-54), 3) := by decide +kernel
theorem dX3_volumesAt_63 : decode cX3_volumesAt 63 = .ok (.lload 4, 2) := by decide +kernel
theorem dX3_volumesAt_65 : decode cX3_volumesAt 65 = .ok (.lreturn, 1) := by decide +kernel
theorem dX3_breakTubes_0 : decode cX3_breakTubes 0 = .ok (.aload_n 0, 1) := by decide +kernel
theorem dX3_breakTubes_1 : decode cX3_breakTubes 1 = .ok (.iload_n 1, 1) := by decide +kernel
theorem dX3_breakTubes_2 : decode cX3_breakTubes 2 = .ok (.invokevirtual 99, 3) := by decide +kernel
theorem dX3_breakTubes_5 : decode cX3_breakTubes 5 = .ok (.astore_n 2, 1) := by decide +kernel
theorem dX3_breakTubes_6 : decode cX3_breakTubes 6 = .ok (.iconst 0, 1) := by decide +kernel
theorem dX3_breakTubes_7 : decode cX3_breakTubes 7 = .ok (.istore_n 3, 1) := by decide +kernel
theorem dX3_breakTubes_8 : decode cX3_breakTubes 8 = .ok (.iconst 0, 1) := by decide +kernel
theorem dX3_breakTubes_9 : decode cX3_breakTubes 9 = .ok (.istore 4, 2) := by decide +kernel
theorem dX3_breakTubes_11 : decode cX3_breakTubes 11 = .ok (.iload 4, 2) := by decide +kernel
theorem dX3_breakTubes_13 : decode cX3_breakTubes 13 = .ok (.aload_n 0, 1) := by decide +kernel
theorem dX3_breakTubes_14 : decode cX3_breakTubes 14 = .ok (.getfield 43, 3) := by decide +kernel
theorem dX3_breakTubes_17 : decode cX3_breakTubes 17 = .ok (.if_icmp .ge 113, 3) := by decide +kernel
theorem dX3_breakTubes_20 : decode cX3_breakTubes 20 = .ok (.aload_n 0, 1) := by decide +kernel
theorem dX3_breakTubes_21 : decode cX3_breakTubes 21 = .ok (.iload 4, 2) := by decide +kernel
theorem dX3_breakTubes_23 : decode cX3_breakTubes 23 = .ok (.invokevirtual 58, 3) := by decide +kernel
theorem dX3_breakTubes_26 : decode cX3_breakTubes 26 = .ok (.astore 5, 2) := by decide +kernel
theorem dX3_breakTubes_28 : decode cX3_breakTubes 28 = .ok (.aload 5, 2) := by decide +kernel
theorem dX3_breakTubes_30 : decode cX3_breakTubes 30 = .ok (.getfield 68, 3) := by decide +kernel
theorem dX3_breakTubes_33 : decode cX3_breakTubes 33 = .ok (.iload_n 1, 1) := by decide +kernel
theorem dX3_breakTubes_34 : decode cX3_breakTubes 34 = .ok (.if_icmp .ne 90, 3) := by decide +kernel
theorem dX3_breakTubes_37 : decode cX3_breakTubes 37 = .ok (.aload 5, 2) := by decide +kernel
theorem dX3_breakTubes_39 : decode cX3_breakTubes 39 = .ok (.getfield 65, 3) := by decide +kernel
theorem dX3_breakTubes_42 : decode cX3_breakTubes 42 = .ok (.ifCond .ne 82, 3) := by decide +kernel
theorem dX3_breakTubes_45 : decode cX3_breakTubes 45 = .ok (.aload 5, 2) := by decide +kernel
theorem dX3_breakTubes_47 : decode cX3_breakTubes 47 = .ok (.aload_n 2, 1) := by decide +kernel
theorem dX3_breakTubes_48 : decode cX3_breakTubes 48 = .ok (.getfield 106, 3) := by decide +kernel
theorem dX3_breakTubes_51 : decode cX3_breakTubes 51 = .ok (.invokevirtual 161, 3) := by decide +kernel
theorem dX3_breakTubes_54 : decode cX3_breakTubes 54 = .ok (.lstore 6, 2) := by decide +kernel
theorem dX3_breakTubes_56 : decode cX3_breakTubes 56 = .ok (.lload 6, 2) := by decide +kernel
theorem dX3_breakTubes_58 : decode cX3_breakTubes 58 = .ok (.lconst 0, 1) := by decide +kernel
theorem dX3_breakTubes_59 : decode cX3_breakTubes 59 = .ok (.lcmp, 1) := by decide +kernel
theorem dX3_breakTubes_60 : decode cX3_breakTubes 60 = .ok (.ifCond .ge 15, 3) := by decide +kernel
theorem dX3_breakTubes_63 : decode cX3_breakTubes 63 = .ok (.aload 5, 2) := by decide +kernel
theorem dX3_breakTubes_65 : decode cX3_breakTubes 65 = .ok (.iconst 1, 1) := by decide +kernel
theorem dX3_breakTubes_66 : decode cX3_breakTubes 66 = .ok (.putfield 65, 3) := by decide +kernel
theorem dX3_breakTubes_69 : decode cX3_breakTubes 69 = .ok (.iinc 3 1, 3) := by decide +kernel
theorem dX3_breakTubes_72 : decode cX3_breakTubes 72 = .ok (.goto 52, 3) := by decide +kernel
theorem dX3_breakTubes_75 : decode cX3_breakTubes 75 = .ok (.lload 6, 2) := by decide +kernel
theorem dX3_breakTubes_77 : decode cX3_breakTubes 77 = .ok (.aload 5, 2) := by decide +kernel
theorem dX3_breakTubes_79 : decode cX3_breakTubes 79 = .ok (.invokevirtual 164, 3) := by decide +kernel
theorem dX3_breakTubes_82 : decode cX3_breakTubes 82 = .ok (.i2l, 1) := by decide +kernel
theorem dX3_breakTubes_83 : decode cX3_breakTubes 83 = .ok (.lcmp, 1) := by decide +kernel
theorem dX3_breakTubes_84 : decode cX3_breakTubes 84 = .ok (.ifCond .le 40, 3) := by decide +kernel
theorem dX3_breakTubes_87 : decode cX3_breakTubes 87 = .ok (.aload 5, 2) := by decide +kernel
theorem dX3_breakTubes_89 : decode cX3_breakTubes 89 = .ok (.iconst 2, 1) := by decide +kernel
theorem dX3_breakTubes_90 : decode cX3_breakTubes 90 = .ok (.putfield 65, 3) := by decide +kernel
theorem dX3_breakTubes_93 : decode cX3_breakTubes 93 = .ok (.iinc 3 1, 3) := by decide +kernel
theorem dX3_breakTubes_96 : decode cX3_breakTubes 96 = .ok (.aload_n 2, 1) := by decide +kernel
theorem dX3_breakTubes_97 : decode cX3_breakTubes 97 = .ok (.dup, 1) := by decide +kernel
theorem dX3_breakTubes_98 : decode cX3_breakTubes 98 = .ok (.getfield 139, 3) := by decide +kernel
theorem dX3_breakTubes_101 : decode cX3_breakTubes 101 = .ok (.aload 5, 2) := by decide +kernel
theorem dX3_breakTubes_103 : decode cX3_breakTubes 103 = .ok (.invokevirtual 157, 3) := by decide +kernel
theorem dX3_breakTubes_106 : decode cX3_breakTubes 106 = .ok (.lsub, 1) := by decide +kernel
theorem dX3_breakTubes_107 : decode cX3_breakTubes 107 = .ok (.putfield 139, 3) := by decide +kernel
theorem dX3_breakTubes_110 : decode cX3_breakTubes 110 = .ok (.aload_n 2, 1) := by decide +kernel
theorem dX3_breakTubes_111 : decode cX3_breakTubes 111 = .ok (.dup, 1) := by decide +kernel
theorem dX3_breakTubes_112 : decode cX3_breakTubes 112 = .ok (.getfield 167, 3) := by decide +kernel
theorem dX3_breakTubes_115 : decode cX3_breakTubes 115 = .ok (.aload 5, 2) := by decide +kernel
theorem dX3_breakTubes_117 : decode cX3_breakTubes 117 = .ok (.invokevirtual 157, 3) := by decide +kernel
theorem dX3_breakTubes_120 : decode cX3_breakTubes 120 = .ok (.ladd, 1) := by decide +kernel
theorem dX3_breakTubes_121 : decode cX3_breakTubes 121 = .ok (.putfield 167, 3) := by decide +kernel
theorem dX3_breakTubes_124 : decode cX3_breakTubes 124 = .ok (.iinc 4 1, 3) := by decide +kernel
theorem dX3_breakTubes_127 : decode cX3_breakTubes 127 = .ok (.goto (-116), 3) := by decide +kernel
theorem dX3_breakTubes_130 : decode cX3_breakTubes 130 = .ok (.iload_n 3, 1) := by decide +kernel
theorem dX3_breakTubes_131 : decode cX3_breakTubes 131 = .ok (.ireturn, 1) := by decide +kernel
theorem dX4_init_0 : decode cX4_init 0 = .ok (.aload_n 0, 1) := by decide +kernel
theorem dX4_init_1 : decode cX4_init 1 = .ok (.invokespecial 3, 3) := by decide +kernel
theorem dX4_init_4 : decode cX4_init 4 = .ok (.aload_n 0, 1) := by decide +kernel
theorem dX4_init_5 : decode cX4_init 5 = .ok (.aload_n 1, 1) := by decide +kernel
theorem dX4_init_6 : decode cX4_init 6 = .ok (.putfield 9, 3) := by decide +kernel
theorem dX4_init_9 : decode cX4_init 9 = .ok (.aload_n 0, 1) := by decide +kernel
theorem dX4_init_10 : decode cX4_init 10 = .ok (.aload_n 2, 1) := by decide +kernel
theorem dX4_init_11 : decode cX4_init 11 = .ok (.putfield 15, 3) := by decide +kernel
theorem dX4_init_14 : decode cX4_init 14 = .ok (.return_, 1) := by decide +kernel
theorem dX4_read_0 : decode cX4_read 0 = .ok (.aload_n 0, 1) := by decide +kernel
theorem dX4_read_1 : decode cX4_read 1 = .ok (.getfield 9, 3) := by decide +kernel
theorem dX4_read_4 : decode cX4_read 4 = .ok (.ldc 19, 2) := by decide +kernel
theorem dX4_read_6 : decode cX4_read 6 = .ok (.invokevirtual 21, 3) := by decide +kernel
theorem dX4_read_9 : decode cX4_read 9 = .ok (.aload_n 0, 1) := by decide +kernel
theorem dX4_read_10 : decode cX4_read 10 = .ok (.getfield 9, 3) := by decide +kernel
theorem dX4_read_13 : decode cX4_read 13 = .ok (.iconst 2, 1) := by decide +kernel
theorem dX4_read_14 : decode cX4_read 14 = .ok (.bipush 8, 2) := by decide +kernel
theorem dX4_read_16 : decode cX4_read 16 = .ok (.invokevirtual 27, 3) := by decide +kernel
theorem dX4_read_19 : decode cX4_read 19 = .ok (.istore_n 1, 1) := by decide +kernel
theorem dX4_read_20 : decode cX4_read 20 = .ok (.aload_n 0, 1) := by decide +kernel
theorem dX4_read_21 : decode cX4_read 21 = .ok (.getfield 9, 3) := by decide +kernel
theorem dX4_read_24 : decode cX4_read 24 = .ok (.iconst 0, 1) := by decide +kernel
theorem dX4_read_25 : decode cX4_read 25 = .ok (.ldc 31, 2) := by decide +kernel
theorem dX4_read_27 : decode cX4_read 27 = .ok (.invokevirtual 27, 3) := by decide +kernel
theorem dX4_read_30 : decode cX4_read 30 = .ok (.istore_n 2, 1) := by decide +kernel
theorem dX4_read_31 : decode cX4_read 31 = .ok (.aload_n 0, 1) := by decide +kernel
theorem dX4_read_32 : decode cX4_read 32 = .ok (.getfield 15, 3) := by decide +kernel
theorem dX4_read_35 : decode cX4_read 35 = .ok (.iload_n 1, 1) := by decide +kernel
theorem dX4_read_36 : decode cX4_read 36 = .ok (.iload_n 2, 1) := by decide +kernel
theorem dX4_read_37 : decode cX4_read 37 = .ok (.invokevirtual 32, 3) := by decide +kernel
theorem dX4_read_40 : decode cX4_read 40 = .ok (.aload_n 0, 1) := by decide +kernel
theorem dX4_read_41 : decode cX4_read 41 = .ok (.getfield 9, 3) := by decide +kernel
theorem dX4_read_44 : decode cX4_read 44 = .ok (.bipush 59, 2) := by decide +kernel
theorem dX4_read_46 : decode cX4_read 46 = .ok (.invokevirtual 38, 3) := by decide +kernel
theorem dX4_read_49 : decode cX4_read 49 = .ok (.iconst 0, 1) := by decide +kernel
theorem dX4_read_50 : decode cX4_read 50 = .ok (.istore_n 3, 1) := by decide +kernel
theorem dX4_read_51 : decode cX4_read 51 = .ok (.iload_n 3, 1) := by decide +kernel
theorem dX4_read_52 : decode cX4_read 52 = .ok (.sipush 600, 3) := by decide +kernel
theorem dX4_read_55 : decode cX4_read 55 = .ok (.if_icmp .ge 32, 3) := by decide +kernel
theorem dX4_read_58 : decode cX4_read 58 = .ok (.aload_n 0, 1) := by decide +kernel
theorem dX4_read_59 : decode cX4_read 59 = .ok (.getfield 9, 3) := by decide +kernel
theorem dX4_read_62 : decode cX4_read 62 = .ok (.invokevirtual 42, 3) := by decide +kernel
theorem dX4_read_65 : decode cX4_read 65 = .ok (.ifCond .eq 22, 3) := by decide +kernel
theorem dX4_read_68 : decode cX4_read 68 = .ok (.aload_n 0, 1) := by decide +kernel
theorem dX4_read_69 : decode cX4_read 69 = .ok (.invokevirtual 46, 3) := by decide +kernel
theorem dX4_read_72 : decode cX4_read 72 = .ok (.aload_n 0, 1) := by decide +kernel
theorem dX4_read_73 : decode cX4_read 73 = .ok (.getfield 9, 3) := by decide +kernel
theorem dX4_read_76 : decode cX4_read 76 = .ok (.bipush 59, 2) := by decide +kernel
theorem dX4_read_78 : decode cX4_read 78 = .ok (.invokevirtual 38, 3) := by decide +kernel
theorem dX4_read_81 : decode cX4_read 81 = .ok (.iinc 3 1, 3) := by decide +kernel
theorem dX4_read_84 : decode cX4_read 84 = .ok (.goto (-33), 3) := by decide +kernel
theorem dX4_read_87 : decode cX4_read 87 = .ok (.return_, 1) := by decide +kernel
theorem dX4_readClause_0 : decode cX4_readClause 0 = .ok (.aload_n 0, 1) := by decide +kernel
theorem dX4_readClause_1 : decode cX4_readClause 1 = .ok (.getfield 9, 3) := by decide +kernel
theorem dX4_readClause_4 : decode cX4_readClause 4 = .ok (.ldc 49, 2) := by decide +kernel
theorem dX4_readClause_6 : decode cX4_readClause 6 = .ok (.invokevirtual 51, 3) := by decide +kernel
theorem dX4_readClause_9 : decode cX4_readClause 9 = .ok (.ifCond .eq 10, 3) := by decide +kernel
theorem dX4_readClause_12 : decode cX4_readClause 12 = .ok (.aload_n 0, 1) := by decide +kernel
theorem dX4_readClause_13 : decode cX4_readClause 13 = .ok (.invokevirtual 55, 3) := by decide +kernel
theorem dX4_readClause_16 : decode cX4_readClause 16 = .ok (.goto 67, 3) := by decide +kernel
theorem dX4_readClause_19 : decode cX4_readClause 19 = .ok (.aload_n 0, 1) := by decide +kernel
theorem dX4_readClause_20 : decode cX4_readClause 20 = .ok (.getfield 9, 3) := by decide +kernel
theorem dX4_readClause_23 : decode cX4_readClause 23 = .ok (.ldc 58, 2) := by decide +kernel
theorem dX4_readClause_25 : decode cX4_readClause 25 = .ok (.invokevirtual 51, 3) := by decide +kernel
theorem dX4_readClause_28 : decode cX4_readClause 28 = .ok (.ifCond .eq 10, 3) := by decide +kernel
theorem dX4_readClause_31 : decode cX4_readClause 31 = .ok (.aload_n 0, 1) := by decide +kernel
theorem dX4_readClause_32 : decode cX4_readClause 32 = .ok (.invokevirtual 60, 3) := by decide +kernel
theorem dX4_readClause_35 : decode cX4_readClause 35 = .ok (.goto 48, 3) := by decide +kernel
theorem dX4_readClause_38 : decode cX4_readClause 38 = .ok (.aload_n 0, 1) := by decide +kernel
theorem dX4_readClause_39 : decode cX4_readClause 39 = .ok (.getfield 9, 3) := by decide +kernel
theorem dX4_readClause_42 : decode cX4_readClause 42 = .ok (.ldc 63, 2) := by decide +kernel
theorem dX4_readClause_44 : decode cX4_readClause 44 = .ok (.invokevirtual 21, 3) := by decide +kernel
theorem dX4_readClause_47 : decode cX4_readClause 47 = .ok (.aload_n 0, 1) := by decide +kernel
theorem dX4_readClause_48 : decode cX4_readClause 48 = .ok (.getfield 9, 3) := by decide +kernel
theorem dX4_readClause_51 : decode cX4_readClause 51 = .ok (.iconst 0, 1) := by decide +kernel
theorem dX4_readClause_52 : decode cX4_readClause 52 = .ok (.aload_n 0, 1) := by decide +kernel
theorem dX4_readClause_53 : decode cX4_readClause 53 = .ok (.getfield 15, 3) := by decide +kernel
theorem dX4_readClause_56 : decode cX4_readClause 56 = .ok (.getfield 65, 3) := by decide +kernel
theorem dX4_readClause_59 : decode cX4_readClause 59 = .ok (.iconst 1, 1) := by decide +kernel
theorem dX4_readClause_60 : decode cX4_readClause 60 = .ok (.isub, 1) := by decide +kernel
theorem dX4_readClause_61 : decode cX4_readClause 61 = .ok (.invokevirtual 27, 3) := by decide +kernel
theorem dX4_readClause_64 : decode cX4_readClause 64 = .ok (.istore_n 1, 1) := by decide +kernel
theorem dX4_readClause_65 : decode cX4_readClause 65 = .ok (.aload_n 0, 1) := by decide +kernel
theorem dX4_readClause_66 : decode cX4_readClause 66 = .ok (.getfield 15, 3) := by decide +kernel
theorem dX4_readClause_69 : decode cX4_readClause 69 = .ok (.iload_n 1, 1) := by decide +kernel
theorem dX4_readClause_70 : decode cX4_readClause 70 = .ok (.aload_n 0, 1) := by decide +kernel
theorem dX4_readClause_71 : decode cX4_readClause 71 = .ok (.getfield 9, 3) := by decide +kernel
theorem dX4_readClause_74 : decode cX4_readClause 74 = .ok (.iconst 0, 1) := by decide +kernel
theorem dX4_readClause_75 : decode cX4_readClause 75 = .ok (.ldc 31, 2) := by decide +kernel
theorem dX4_readClause_77 : decode cX4_readClause 77 = .ok (.invokevirtual 27, 3) := by decide +kernel
theorem dX4_readClause_80 : decode cX4_readClause 80 = .ok (.invokevirtual 69, 3) := by decide +kernel
theorem dX4_readClause_83 : decode cX4_readClause 83 = .ok (.return_, 1) := by decide +kernel
theorem dX4_readLeg_0 : decode cX4_readLeg 0 = .ok (.aload_n 0, 1) := by decide +kernel
theorem dX4_readLeg_1 : decode cX4_readLeg 1 = .ok (.getfield 9, 3) := by decide +kernel
theorem dX4_readLeg_4 : decode cX4_readLeg 4 = .ok (.invokevirtual 72, 3) := by decide +kernel
theorem dX4_readLeg_7 : decode cX4_readLeg 7 = .ok (.aload_n 0, 1) := by decide +kernel
theorem dX4_readLeg_8 : decode cX4_readLeg 8 = .ok (.getfield 15, 3) := by decide +kernel
theorem dX4_readLeg_11 : decode cX4_readLeg 11 = .ok (.aload_n 0, 1) := by decide +kernel
theorem dX4_readLeg_12 : decode cX4_readLeg 12 = .ok (.getfield 9, 3) := by decide +kernel
theorem dX4_readLeg_15 : decode cX4_readLeg 15 = .ok (.iconst 0, 1) := by decide +kernel
theorem dX4_readLeg_16 : decode cX4_readLeg 16 = .ok (.iconst 1, 1) := by decide +kernel
theorem dX4_readLeg_17 : decode cX4_readLeg 17 = .ok (.invokevirtual 27, 3) := by decide +kernel
theorem dX4_readLeg_20 : decode cX4_readLeg 20 = .ok (.invokevirtual 75, 3) := by decide +kernel
theorem dX4_readLeg_23 : decode cX4_readLeg 23 = .ok (.astore_n 1, 1) := by decide +kernel
theorem dX4_readLeg_24 : decode cX4_readLeg 24 = .ok (.aload_n 0, 1) := by decide +kernel
theorem dX4_readLeg_25 : decode cX4_readLeg 25 = .ok (.getfield 9, 3) := by decide +kernel
theorem dX4_readLeg_28 : decode cX4_readLeg 28 = .ok (.bipush 100, 2) := by decide +kernel
theorem dX4_readLeg_30 : decode cX4_readLeg 30 = .ok (.sipush 20000, 3) := by decide +kernel
theorem dX4_readLeg_33 : decode cX4_readLeg 33 = .ok (.invokevirtual 27, 3) := by decide +kernel
theorem dX4_readLeg_36 : decode cX4_readLeg 36 = .ok (.istore_n 2, 1) := by decide +kernel
theorem dX4_readLeg_37 : decode cX4_readLeg 37 = .ok (.aload_n 0, 1) := by decide +kernel
theorem dX4_readLeg_38 : decode cX4_readLeg 38 = .ok (.getfield 9, 3) := by decide +kernel
theorem dX4_readLeg_41 : decode cX4_readLeg 41 = .ok (.bipush 100, 2) := by decide +kernel
theorem dX4_readLeg_43 : decode cX4_readLeg 43 = .ok (.ldc 31, 2) := by decide +kernel
theorem dX4_readLeg_45 : decode cX4_readLeg 45 = .ok (.invokevirtual 27, 3) := by decide +kernel
theorem dX4_readLeg_48 : decode cX4_readLeg 48 = .ok (.istore_n 3, 1) := by decide +kernel
theorem dX4_readLeg_49 : decode cX4_readLeg 49 = .ok (.aload_n 1, 1) := by decide +kernel
theorem dX4_readLeg_50 : decode cX4_readLeg 50 = .ok (.iload_n 2, 1) := by decide +kernel
theorem dX4_readLeg_51 : decode cX4_readLeg 51 = .ok (.iload_n 3, 1) := by decide +kernel
theorem dX4_readLeg_52 : decode cX4_readLeg 52 = .ok (.aload_n 0, 1) := by decide +kernel
theorem dX4_readLeg_53 : decode cX4_readLeg 53 = .ok (.getfield 9, 3) := by decide +kernel
theorem dX4_readLeg_56 : decode cX4_readLeg 56 = .ok (.invokevirtual 79, 3) := by decide +kernel
theorem dX4_readLeg_59 : decode cX4_readLeg 59 = .ok (.invokevirtual 83, 3) := by decide +kernel
theorem dX4_readLeg_62 : decode cX4_readLeg 62 = .ok (.return_, 1) := by decide +kernel
theorem dX4_readTube_0 : decode cX4_readTube 0 = .ok (.aload_n 0, 1) := by decide +kernel
theorem dX4_readTube_1 : decode cX4_readTube 1 = .ok (.getfield 15, 3) := by decide +kernel
theorem dX4_readTube_4 : decode cX4_readTube 4 = .ok (.getfield 89, 3) := by decide +kernel
theorem dX4_readTube_7 : decode cX4_readTube 7 = .ok (.bipush 12, 2) := by decide +kernel
theorem dX4_readTube_9 : decode cX4_readTube 9 = .ok (.if_icmp .lt 12, 3) := by decide +kernel
theorem dX4_readTube_12 : decode cX4_readTube 12 = .ok (.aload_n 0, 1) := by decide +kernel
theorem dX4_readTube_13 : decode cX4_readTube 13 = .ok (.getfield 9, 3) := by decide +kernel
theorem dX4_readTube_16 : decode cX4_readTube 16 = .ok (.iconst 3, 1) := by decide +kernel
theorem dX4_readTube_17 : decode cX4_readTube 17 = .ok (.invokevirtual 92, 3) := by decide +kernel
theorem dX4_readTube_20 : decode cX4_readTube 20 = .ok (.return_, 1) := by decide +kernel
theorem dX4_readTube_21 : decode cX4_readTube 21 = .ok (.aload_n 0, 1) := by decide +kernel
theorem dX4_readTube_22 : decode cX4_readTube 22 = .ok (.getfield 9, 3) := by decide +kernel
theorem dX4_readTube_25 : decode cX4_readTube 25 = .ok (.invokevirtual 72, 3) := by decide +kernel
theorem dX4_readTube_28 : decode cX4_readTube 28 = .ok (.aload_n 0, 1) := by decide +kernel
theorem dX4_readTube_29 : decode cX4_readTube 29 = .ok (.getfield 15, 3) := by decide +kernel
theorem dX4_readTube_32 : decode cX4_readTube 32 = .ok (.invokevirtual 96, 3) := by decide +kernel
theorem dX4_readTube_35 : decode cX4_readTube 35 = .ok (.astore_n 1, 1) := by decide +kernel
theorem dX4_readTube_36 : decode cX4_readTube 36 = .ok (.aload_n 0, 1) := by decide +kernel
theorem dX4_readTube_37 : decode cX4_readTube 37 = .ok (.getfield 9, 3) := by decide +kernel
theorem dX4_readTube_40 : decode cX4_readTube 40 = .ok (.iconst 0, 1) := by decide +kernel
theorem dX4_readTube_41 : decode cX4_readTube 41 = .ok (.iconst 1, 1) := by decide +kernel
theorem dX4_readTube_42 : decode cX4_readTube 42 = .ok (.invokevirtual 27, 3) := by decide +kernel
theorem dX4_readTube_45 : decode cX4_readTube 45 = .ok (.istore_n 2, 1) := by decide +kernel
theorem dX4_readTube_46 : decode cX4_readTube 46 = .ok (.aload_n 1, 1) := by decide +kernel
theorem dX4_readTube_47 : decode cX4_readTube 47 = .ok (.iload_n 2, 1) := by decide +kernel
theorem dX4_readTube_48 : decode cX4_readTube 48 = .ok (.aload_n 0, 1) := by decide +kernel
theorem dX4_readTube_49 : decode cX4_readTube 49 = .ok (.getfield 9, 3) := by decide +kernel
theorem dX4_readTube_52 : decode cX4_readTube 52 = .ok (.iconst 0, 1) := by decide +kernel
theorem dX4_readTube_53 : decode cX4_readTube 53 = .ok (.aload_n 0, 1) := by decide +kernel
theorem dX4_readTube_54 : decode cX4_readTube 54 = .ok (.getfield 15, 3) := by decide +kernel
theorem dX4_readTube_57 : decode cX4_readTube 57 = .ok (.getfield 65, 3) := by decide +kernel
theorem dX4_readTube_60 : decode cX4_readTube 60 = .ok (.iconst 1, 1) := by decide +kernel
theorem dX4_readTube_61 : decode cX4_readTube 61 = .ok (.isub, 1) := by decide +kernel
theorem dX4_readTube_62 : decode cX4_readTube 62 = .ok (.invokevirtual 27, 3) := by decide +kernel
theorem dX4_readTube_65 : decode cX4_readTube 65 = .ok (.invokevirtual 100, 3) := by decide +kernel
theorem dX4_readTube_68 : decode cX4_readTube 68 = .ok (.aload_n 0, 1) := by decide +kernel
theorem dX4_readTube_69 : decode cX4_readTube 69 = .ok (.getfield 9, 3) := by decide +kernel
theorem dX4_readTube_72 : decode cX4_readTube 72 = .ok (.iconst 1, 1) := by decide +kernel
theorem dX4_readTube_73 : decode cX4_readTube 73 = .ok (.bipush 20, 2) := by decide +kernel
theorem dX4_readTube_75 : decode cX4_readTube 75 = .ok (.invokevirtual 27, 3) := by decide +kernel
theorem dX4_readTube_78 : decode cX4_readTube 78 = .ok (.istore_n 3, 1) := by decide +kernel
theorem dX4_readTube_79 : decode cX4_readTube 79 = .ok (.aload_n 0, 1) := by decide +kernel
theorem dX4_readTube_80 : decode cX4_readTube 80 = .ok (.getfield 9, 3) := by decide +kernel
theorem dX4_readTube_83 : decode cX4_readTube 83 = .ok (.bipush 50, 2) := by decide +kernel
theorem dX4_readTube_85 : decode cX4_readTube 85 = .ok (.sipush 1000, 3) := by decide +kernel
theorem dX4_readTube_88 : decode cX4_readTube 88 = .ok (.invokevirtual 27, 3) := by decide +kernel
theorem dX4_readTube_91 : decode cX4_readTube 91 = .ok (.istore 4, 2) := by decide +kernel
theorem dX4_readTube_93 : decode cX4_readTube 93 = .ok (.aload_n 1, 1) := by decide +kernel
theorem dX4_readTube_94 : decode cX4_readTube 94 = .ok (.iload_n 3, 1) := by decide +kernel
theorem dX4_readTube_95 : decode cX4_readTube 95 = .ok (.iload 4, 2) := by decide +kernel
theorem dX4_readTube_97 : decode cX4_readTube 97 = .ok (.aload_n 0, 1) := by decide +kernel
theorem dX4_readTube_98 : decode cX4_readTube 98 = .ok (.getfield 9, 3) := by decide +kernel
theorem dX4_readTube_101 : decode cX4_readTube 101 = .ok (.bipush 10, 2) := by decide +kernel
theorem dX4_readTube_103 : decode cX4_readTube 103 = .ok (.sipush 2000, 3) := by decide +kernel
theorem dX4_readTube_106 : decode cX4_readTube 106 = .ok (.invokevirtual 27, 3) := by decide +kernel
theorem dX4_readTube_109 : decode cX4_readTube 109 = .ok (.invokevirtual 105, 3) := by decide +kernel
theorem dX4_readTube_112 : decode cX4_readTube 112 = .ok (.aload_n 0, 1) := by decide +kernel
theorem dX4_readTube_113 : decode cX4_readTube 113 = .ok (.getfield 9, 3) := by decide +kernel
theorem dX4_readTube_116 : decode cX4_readTube 116 = .ok (.ldc 108, 2) := by decide +kernel
theorem dX4_readTube_118 : decode cX4_readTube 118 = .ok (.invokevirtual 51, 3) := by decide +kernel
theorem dX4_readTube_121 : decode cX4_readTube 121 = .ok (.ifCond .eq 21, 3) := by decide +kernel
theorem dX4_readTube_124 : decode cX4_readTube 124 = .ok (.aload_n 0, 1) := by decide +kernel
theorem dX4_readTube_125 : decode cX4_readTube 125 = .ok (.getfield 9, 3) := by decide +kernel
theorem dX4_readTube_128 : decode cX4_readTube 128 = .ok (.invokevirtual 72, 3) := by decide +kernel
theorem dX4_readTube_131 : decode cX4_readTube 131 = .ok (.aload_n 1, 1) := by decide +kernel
theorem dX4_readTube_132 : decode cX4_readTube 132 = .ok (.aload_n 0, 1) := by decide +kernel
theorem dX4_readTube_133 : decode cX4_readTube 133 = .ok (.getfield 9, 3) := by decide +kernel
theorem dX4_readTube_136 : decode cX4_readTube 136 = .ok (.invokevirtual 79, 3) := by decide +kernel
theorem dX4_readTube_139 : decode cX4_readTube 139 = .ok (.putfield 110, 3) := by decide +kernel
theorem dX4_readTube_142 : decode cX4_readTube 142 = .ok (.return_, 1) := by decide +kernel
theorem dX5_init_0 : decode cX5_init 0 = .ok (.aload_n 0, 1) := by decide +kernel
theorem dX5_init_1 : decode cX5_init 1 = .ok (.invokespecial 3, 3) := by decide +kernel
theorem dX5_init_4 : decode cX5_init 4 = .ok (.aload_n 0, 1) := by decide +kernel
theorem dX5_init_5 : decode cX5_init 5 = .ok (.sipush 600, 3) := by decide +kernel
theorem dX5_init_8 : decode cX5_init 8 = .ok (.newarray .byte, 2) := by decide +kernel
theorem dX5_init_10 : decode cX5_init 10 = .ok (.putfield 9, 3) := by decide +kernel
theorem dX5_init_13 : decode cX5_init 13 = .ok (.aload_n 0, 1) := by decide +kernel
theorem dX5_init_14 : decode cX5_init 14 = .ok (.iconst (-1), 1) := by decide +kernel
theorem dX5_init_15 : decode cX5_init 15 = .ok (.putfield 15, 3) := by decide +kernel
theorem dX5_init_18 : decode cX5_init 18 = .ok (.return_, 1) := by decide +kernel
theorem dX5_hasRoomFor_0 : decode cX5_hasRoomFor 0 = .ok (.aload_n 0, 1) := by decide +kernel
theorem dX5_hasRoomFor_1 : decode cX5_hasRoomFor 1 = .ok (.getfield 19, 3) := by decide +kernel
theorem dX5_hasRoomFor_4 : decode cX5_hasRoomFor 4 = .ok (.iload_n 1, 1) := by decide +kernel
theorem dX5_hasRoomFor_5 : decode cX5_hasRoomFor 5 = .ok (.iadd, 1) := by decide +kernel
theorem dX5_hasRoomFor_6 : decode cX5_hasRoomFor 6 = .ok (.aload_n 0, 1) := by decide +kernel
theorem dX5_hasRoomFor_7 : decode cX5_hasRoomFor 7 = .ok (.getfield 9, 3) := by decide +kernel
theorem dX5_hasRoomFor_10 : decode cX5_hasRoomFor 10 = .ok (.arraylength, 1) := by decide +kernel
theorem dX5_hasRoomFor_11 : decode cX5_hasRoomFor 11 = .ok (.if_icmp .gt 7, 3) := by decide +kernel
theorem dX5_hasRoomFor_14 : decode cX5_hasRoomFor 14 = .ok (.iconst 1, 1) := by decide +kernel
theorem dX5_hasRoomFor_15 : decode cX5_hasRoomFor 15 = .ok (.goto 4, 3) := by decide +kernel
theorem dX5_hasRoomFor_18 : decode cX5_hasRoomFor 18 = .ok (.iconst 0, 1) := by decide +kernel
theorem dX5_hasRoomFor_19 : decode cX5_hasRoomFor 19 = .ok (.ireturn, 1) := by decide +kernel
theorem dX5_append_0 : decode cX5_append 0 = .ok (.bipush 24, 2) := by decide +kernel
theorem dX5_append_2 : decode cX5_append 2 = .ok (.istore_n 2, 1) := by decide +kernel
theorem dX5_append_3 : decode cX5_append 3 = .ok (.iload_n 2, 1) := by decide +kernel
theorem dX5_append_4 : decode cX5_append 4 = .ok (.ifCond .lt 51, 3) := by decide +kernel
theorem dX5_append_7 : decode cX5_append 7 = .ok (.aload_n 0, 1) := by decide +kernel
theorem dX5_append_8 : decode cX5_append 8 = .ok (.getfield 19, 3) := by decide +kernel
theorem dX5_append_11 : decode cX5_append 11 = .ok (.ifCond .lt 38, 3) := by decide +kernel
theorem dX5_append_14 : decode cX5_append 14 = .ok (.aload_n 0, 1) := by decide +kernel
theorem dX5_append_15 : decode cX5_append 15 = .ok (.getfield 19, 3) := by decide +kernel
theorem dX5_append_18 : decode cX5_append 18 = .ok (.aload_n 0, 1) := by decide +kernel
theorem dX5_append_19 : decode cX5_append 19 = .ok (.getfield 9, 3) := by decide +kernel
theorem dX5_append_22 : decode cX5_append 22 = .ok (.arraylength, 1) := by decide +kernel
theorem dX5_append_23 : decode cX5_append 23 = .ok (.if_icmp .ge 26, 3) := by decide +kernel
theorem dX5_append_26 : decode cX5_append 26 = .ok (.aload_n 0, 1) := by decide +kernel
theorem dX5_append_27 : decode cX5_append 27 = .ok (.getfield 9, 3) := by decide +kernel
theorem dX5_append_30 : decode cX5_append 30 = .ok (.aload_n 0, 1) := by decide +kernel
theorem dX5_append_31 : decode cX5_append 31 = .ok (.getfield 19, 3) := by decide +kernel
theorem dX5_append_34 : decode cX5_append 34 = .ok (.iload_n 1, 1) := by decide +kernel
theorem dX5_append_35 : decode cX5_append 35 = .ok (.iload_n 2, 1) := by decide +kernel
theorem dX5_append_36 : decode cX5_append 36 = .ok (.ishr, 1) := by decide +kernel
theorem dX5_append_37 : decode cX5_append 37 = .ok (.i2b, 1) := by decide +kernel
theorem dX5_append_38 : decode cX5_append 38 = .ok (.bastore, 1) := by decide +kernel
theorem dX5_append_39 : decode cX5_append 39 = .ok (.aload_n 0, 1) := by decide +kernel
theorem dX5_append_40 : decode cX5_append 40 = .ok (.dup, 1) := by decide +kernel
theorem dX5_append_41 : decode cX5_append 41 = .ok (.getfield 19, 3) := by decide +kernel
theorem dX5_append_44 : decode cX5_append 44 = .ok (.iconst 1, 1) := by decide +kernel
theorem dX5_append_45 : decode cX5_append 45 = .ok (.iadd, 1) := by decide +kernel
theorem dX5_append_46 : decode cX5_append 46 = .ok (.putfield 19, 3) := by decide +kernel
theorem dX5_append_49 : decode cX5_append 49 = .ok (.iinc 2 (-8), 3) := by decide +kernel
theorem dX5_append_52 : decode cX5_append 52 = .ok (.goto (-49), 3) := by decide +kernel
theorem dX5_append_55 : decode cX5_append 55 = .ok (.return_, 1) := by decide +kernel
theorem dX5_empty_0 : decode cX5_empty 0 = .ok (.aload_n 0, 1) := by decide +kernel
theorem dX5_empty_1 : decode cX5_empty 1 = .ok (.iconst 0, 1) := by decide +kernel
theorem dX5_empty_2 : decode cX5_empty 2 = .ok (.putfield 19, 3) := by decide +kernel
theorem dX5_empty_5 : decode cX5_empty 5 = .ok (.return_, 1) := by decide +kernel
theorem dX5_begin_0 : decode cX5_begin 0 = .ok (.aload_n 0, 1) := by decide +kernel
theorem dX5_begin_1 : decode cX5_begin 1 = .ok (.iload_n 1, 1) := by decide +kernel
theorem dX5_begin_2 : decode cX5_begin 2 = .ok (.aload_n 0, 1) := by decide +kernel
theorem dX5_begin_3 : decode cX5_begin 3 = .ok (.getfield 9, 3) := by decide +kernel
theorem dX5_begin_6 : decode cX5_begin 6 = .ok (.arraylength, 1) := by decide +kernel
theorem dX5_begin_7 : decode cX5_begin 7 = .ok (.invokestatic 22, 3) := by decide +kernel
theorem dX5_begin_10 : decode cX5_begin 10 = .ok (.putfield 28, 3) := by decide +kernel
theorem dX5_begin_13 : decode cX5_begin 13 = .ok (.aload_n 0, 1) := by decide +kernel
theorem dX5_begin_14 : decode cX5_begin 14 = .ok (.iconst 0, 1) := by decide +kernel
theorem dX5_begin_15 : decode cX5_begin 15 = .ok (.putfield 31, 3) := by decide +kernel
theorem dX5_begin_18 : decode cX5_begin 18 = .ok (.aload_n 0, 1) := by decide +kernel
theorem dX5_begin_19 : decode cX5_begin 19 = .ok (.iconst 0, 1) := by decide +kernel
theorem dX5_begin_20 : decode cX5_begin 20 = .ok (.putfield 34, 3) := by decide +kernel
theorem dX5_begin_23 : decode cX5_begin 23 = .ok (.aload_n 0, 1) := by decide +kernel
theorem dX5_begin_24 : decode cX5_begin 24 = .ok (.iconst (-1), 1) := by decide +kernel
theorem dX5_begin_25 : decode cX5_begin 25 = .ok (.putfield 15, 3) := by decide +kernel
theorem dX5_begin_28 : decode cX5_begin 28 = .ok (.aload_n 0, 1) := by decide +kernel
theorem dX5_begin_29 : decode cX5_begin 29 = .ok (.invokevirtual 37, 3) := by decide +kernel
theorem dX5_begin_32 : decode cX5_begin 32 = .ok (.return_, 1) := by decide +kernel
theorem dX5_advance_0 : decode cX5_advance 0 = .ok (.aload_n 0, 1) := by decide +kernel
theorem dX5_advance_1 : decode cX5_advance 1 = .ok (.getfield 31, 3) := by decide +kernel
theorem dX5_advance_4 : decode cX5_advance 4 = .ok (.aload_n 0, 1) := by decide +kernel
theorem dX5_advance_5 : decode cX5_advance 5 = .ok (.getfield 28, 3) := by decide +kernel
theorem dX5_advance_8 : decode cX5_advance 8 = .ok (.if_icmp .ge 42, 3) := by decide +kernel
theorem dX5_advance_11 : decode cX5_advance 11 = .ok (.aload_n 0, 1) := by decide +kernel
theorem dX5_advance_12 : decode cX5_advance 12 = .ok (.aload_n 0, 1) := by decide +kernel
theorem dX5_advance_13 : decode cX5_advance 13 = .ok (.getfield 31, 3) := by decide +kernel
theorem dX5_advance_16 : decode cX5_advance 16 = .ok (.invokevirtual 40, 3) := by decide +kernel
theorem dX5_advance_19 : decode cX5_advance 19 = .ok (.bipush 32, 2) := by decide +kernel
theorem dX5_advance_21 : decode cX5_advance 21 = .ok (.if_icmp .eq 16, 3) := by decide +kernel
theorem dX5_advance_24 : decode cX5_advance 24 = .ok (.aload_n 0, 1) := by decide +kernel
theorem dX5_advance_25 : decode cX5_advance 25 = .ok (.aload_n 0, 1) := by decide +kernel
theorem dX5_advance_26 : decode cX5_advance 26 = .ok (.getfield 31, 3) := by decide +kernel
theorem dX5_advance_29 : decode cX5_advance 29 = .ok (.invokevirtual 40, 3) := by decide +kernel
theorem dX5_advance_32 : decode cX5_advance 32 = .ok (.bipush 10, 2) := by decide +kernel
theorem dX5_advance_34 : decode cX5_advance 34 = .ok (.if_icmp .ne 16, 3) := by decide +kernel
theorem dX5_advance_37 : decode cX5_advance 37 = .ok (.aload_n 0, 1) := by decide +kernel
theorem dX5_advance_38 : decode cX5_advance 38 = .ok (.dup, 1) := by decide +kernel
theorem dX5_advance_39 : decode cX5_advance 39 = .ok (.getfield 31, 3) := by decide +kernel
theorem dX5_advance_42 : decode cX5_advance 42 = .ok (.iconst 1, 1) := by decide +kernel
theorem dX5_advance_43 : decode cX5_advance 43 = .ok (.iadd, 1) := by decide +kernel
theorem dX5_advance_44 : decode cX5_advance 44 = .ok (.putfield 31, 3) := by decide +kernel
theorem dX5_advance_47 : decode cX5_advance 47 = .ok (.goto (-47), 3) := by decide +kernel
theorem dX5_advance_50 : decode cX5_advance 50 = .ok (.aload_n 0, 1) := by decide +kernel
theorem dX5_advance_51 : decode cX5_advance 51 = .ok (.aload_n 0, 1) := by decide +kernel
theorem dX5_advance_52 : decode cX5_advance 52 = .ok (.getfield 31, 3) := by decide +kernel
theorem dX5_advance_55 : decode cX5_advance 55 = .ok (.putfield 44, 3) := by decide +kernel
theorem dX5_advance_58 : decode cX5_advance 58 = .ok (.aload_n 0, 1) := by decide +kernel
theorem dX5_advance_59 : decode cX5_advance 59 = .ok (.iconst 0, 1) := by decide +kernel
theorem dX5_advance_60 : decode cX5_advance 60 = .ok (.putfield 47, 3) := by decide +kernel
theorem dX5_advance_63 : decode cX5_advance 63 = .ok (.aload_n 0, 1) := by decide +kernel
theorem dX5_advance_64 : decode cX5_advance 64 = .ok (.getfield 31, 3) := by decide +kernel
theorem dX5_advance_67 : decode cX5_advance 67 = .ok (.aload_n 0, 1) := by decide +kernel
theorem dX5_advance_68 : decode cX5_advance 68 = .ok (.getfield 28, 3) := by decide +kernel
theorem dX5_advance_71 : decode cX5_advance 71 = .ok (.if_icmp .lt 11, 3) := by decide +kernel
theorem dX5_advance_74 : decode cX5_advance 74 = .ok (.aload_n 0, 1) := by decide +kernel
theorem dX5_advance_75 : decode cX5_advance 75 = .ok (.iconst 0, 1) := by decide +kernel
theorem dX5_advance_76 : decode cX5_advance 76 = .ok (.putfield 50, 3) := by decide +kernel
theorem dX5_advance_79 : decode cX5_advance 79 = .ok (.goto 171, 3) := by decide +kernel
theorem dX5_advance_82 : decode cX5_advance 82 = .ok (.aload_n 0, 1) := by decide +kernel
theorem dX5_advance_83 : decode cX5_advance 83 = .ok (.aload_n 0, 1) := by decide +kernel
theorem dX5_advance_84 : decode cX5_advance 84 = .ok (.getfield 31, 3) := by decide +kernel
theorem dX5_advance_87 : decode cX5_advance 87 = .ok (.invokevirtual 40, 3) := by decide +kernel
theorem dX5_advance_90 : decode cX5_advance 90 = .ok (.invokestatic 53, 3) := by decide +kernel
theorem dX5_advance_93 : decode cX5_advance 93 = .ok (.ifCond .eq 46, 3) := by decide +kernel
theorem dX5_advance_96 : decode cX5_advance 96 = .ok (.aload_n 0, 1) := by decide +kernel
theorem dX5_advance_97 : decode cX5_advance 97 = .ok (.iconst 1, 1) := by decide +kernel
theorem dX5_advance_98 : decode cX5_advance 98 = .ok (.putfield 50, 3) := by decide +kernel
theorem dX5_advance_101 : decode cX5_advance 101 = .ok (.aload_n 0, 1) := by decide +kernel
theorem dX5_advance_102 : decode cX5_advance 102 = .ok (.getfield 31, 3) := by decide +kernel
theorem dX5_advance_105 : decode cX5_advance 105 = .ok (.aload_n 0, 1) := by decide +kernel
theorem dX5_advance_106 : decode cX5_advance 106 = .ok (.getfield 28, 3) := by decide +kernel
theorem dX5_advance_109 : decode cX5_advance 109 = .ok (.if_icmp .ge 141, 3) := by decide +kernel
theorem dX5_advance_112 : decode cX5_advance 112 = .ok (.aload_n 0, 1) := by decide +kernel
theorem dX5_advance_113 : decode cX5_advance 113 = .ok (.aload_n 0, 1) := by decide +kernel
theorem dX5_advance_114 : decode cX5_advance 114 = .ok (.getfield 31, 3) := by decide +kernel
theorem dX5_advance_117 : decode cX5_advance 117 = .ok (.invokevirtual 40, 3) := by decide +kernel
theorem dX5_advance_120 : decode cX5_advance 120 = .ok (.invokestatic 53, 3) := by decide +kernel
theorem dX5_advance_123 : decode cX5_advance 123 = .ok (.ifCond .eq 127, 3) := by decide +kernel
theorem dX5_advance_126 : decode cX5_advance 126 = .ok (.aload_n 0, 1) := by decide +kernel
theorem dX5_advance_127 : decode cX5_advance 127 = .ok (.dup, 1) := by decide +kernel
theorem dX5_advance_128 : decode cX5_advance 128 = .ok (.getfield 31, 3) := by decide +kernel
theorem dX5_advance_131 : decode cX5_advance 131 = .ok (.iconst 1, 1) := by decide +kernel
theorem dX5_advance_132 : decode cX5_advance 132 = .ok (.iadd, 1) := by decide +kernel
theorem dX5_advance_133 : decode cX5_advance 133 = .ok (.putfield 31, 3) := by decide +kernel
theorem dX5_advance_136 : decode cX5_advance 136 = .ok (.goto (-35), 3) := by decide +kernel
theorem dX5_advance_139 : decode cX5_advance 139 = .ok (.aload_n 0, 1) := by decide +kernel
theorem dX5_advance_140 : decode cX5_advance 140 = .ok (.aload_n 0, 1) := by decide +kernel
theorem dX5_advance_141 : decode cX5_advance 141 = .ok (.getfield 31, 3) := by decide +kernel
theorem dX5_advance_144 : decode cX5_advance 144 = .ok (.invokevirtual 40, 3) := by decide +kernel
theorem dX5_advance_147 : decode cX5_advance 147 = .ok (.invokestatic 57, 3) := by decide +kernel
theorem dX5_advance_150 : decode cX5_advance 150 = .ok (.ifCond .eq 85, 3) := by decide +kernel
theorem dX5_advance_153 : decode cX5_advance 153 = .ok (.aload_n 0, 1) := by decide +kernel
theorem dX5_advance_154 : decode cX5_advance 154 = .ok (.iconst 2, 1) := by decide +kernel
theorem dX5_advance_155 : decode cX5_advance 155 = .ok (.putfield 50, 3) := by decide +kernel
theorem dX5_advance_158 : decode cX5_advance 158 = .ok (.aload_n 0, 1) := by decide +kernel
theorem dX5_advance_159 : decode cX5_advance 159 = .ok (.getfield 31, 3) := by decide +kernel
theorem dX5_advance_162 : decode cX5_advance 162 = .ok (.aload_n 0, 1) := by decide +kernel
theorem dX5_advance_163 : decode cX5_advance 163 = .ok (.getfield 28, 3) := by decide +kernel
theorem dX5_advance_166 : decode cX5_advance 166 = .ok (.if_icmp .ge 84, 3) := by decide +kernel
theorem dX5_advance_169 : decode cX5_advance 169 = .ok (.aload_n 0, 1) := by decide +kernel
theorem dX5_advance_170 : decode cX5_advance 170 = .ok (.aload_n 0, 1) := by decide +kernel
theorem dX5_advance_171 : decode cX5_advance 171 = .ok (.getfield 31, 3) := by decide +kernel
theorem dX5_advance_174 : decode cX5_advance 174 = .ok (.invokevirtual 40, 3) := by decide +kernel
theorem dX5_advance_177 : decode cX5_advance 177 = .ok (.invokestatic 57, 3) := by decide +kernel
theorem dX5_advance_180 : decode cX5_advance 180 = .ok (.ifCond .eq 70, 3) := by decide +kernel
theorem dX5_advance_183 : decode cX5_advance 183 = .ok (.aload_n 0, 1) := by decide +kernel
theorem dX5_advance_184 : decode cX5_advance 184 = .ok (.aload_n 0, 1) := by decide +kernel
theorem dX5_advance_185 : decode cX5_advance 185 = .ok (.getfield 47, 3) := by decide +kernel
theorem dX5_advance_188 : decode cX5_advance 188 = .ok (.ldc 60, 2) := by decide +kernel
theorem dX5_advance_190 : decode cX5_advance 190 = .ok (.if_icmp .le 10, 3) := by decide +kernel
theorem dX5_advance_193 : decode cX5_advance 193 = .ok (.aload_n 0, 1) := by decide +kernel
theorem dX5_advance_194 : decode cX5_advance 194 = .ok (.getfield 47, 3) := by decide +kernel
theorem dX5_advance_197 : decode cX5_advance 197 = .ok (.goto 22, 3) := by decide +kernel
theorem dX5_advance_200 : decode cX5_advance 200 = .ok (.aload_n 0, 1) := by decide +kernel
theorem dX5_advance_201 : decode cX5_advance 201 = .ok (.getfield 47, 3) := by decide +kernel
theorem dX5_advance_204 : decode cX5_advance 204 = .ok (.bipush 10, 2) := by decide +kernel
theorem dX5_advance_206 : decode cX5_advance 206 = .ok (.imul, 1) := by decide +kernel
theorem dX5_advance_207 : decode cX5_advance 207 = .ok (.aload_n 0, 1) := by decide +kernel
theorem dX5_advance_208 : decode cX5_advance 208 = .ok (.aload_n 0, 1) := by decide +kernel
theorem dX5_advance_209 : decode cX5_advance 209 = .ok (.getfield 31, 3) := by decide +kernel
theorem dX5_advance_212 : decode cX5_advance 212 = .ok (.invokevirtual 40, 3) := by decide +kernel
theorem dX5_advance_215 : decode cX5_advance 215 = .ok (.iadd, 1) := by decide +kernel
theorem dX5_advance_216 : decode cX5_advance 216 = .ok (.bipush 48, 2) := by decide +kernel
theorem dX5_advance_218 : decode cX5_advance 218 = .ok (.isub, 1) := by decide +kernel
theorem dX5_advance_219 : decode cX5_advance 219 = .ok (.putfield 47, 3) := by decide +kernel
theorem dX5_advance_222 : decode cX5_advance 222 = .ok (.aload_n 0, 1) := by decide +kernel
theorem dX5_advance_223 : decode cX5_advance 223 = .ok (.dup, 1) := by decide +kernel
theorem dX5_advance_224 : decode cX5_advance 224 = .ok (.getfield 31, 3) := by decide +kernel
theorem dX5_advance_227 : decode cX5_advance 227 = .ok (.iconst 1, 1) := by decide +kernel
theorem dX5_advance_228 : decode cX5_advance 228 = .ok (.iadd, 1) := by decide +kernel
theorem dX5_advance_229 : decode cX5_advance 229 = .ok (.putfield 31, 3) := by decide +kernel
theorem dX5_advance_232 : decode cX5_advance 232 = .ok (.goto (-74), 3) := by decide +kernel
theorem dX5_advance_235 : decode cX5_advance 235 = .ok (.aload_n 0, 1) := by decide +kernel
theorem dX5_advance_236 : decode cX5_advance 236 = .ok (.iconst 3, 1) := by decide +kernel
theorem dX5_advance_237 : decode cX5_advance 237 = .ok (.putfield 50, 3) := by decide +kernel
theorem dX5_advance_240 : decode cX5_advance 240 = .ok (.aload_n 0, 1) := by decide +kernel
theorem dX5_advance_241 : decode cX5_advance 241 = .ok (.dup, 1) := by decide +kernel
theorem dX5_advance_242 : decode cX5_advance 242 = .ok (.getfield 31, 3) := by decide +kernel
theorem dX5_advance_245 : decode cX5_advance 245 = .ok (.iconst 1, 1) := by decide +kernel
theorem dX5_advance_246 : decode cX5_advance 246 = .ok (.iadd, 1) := by decide +kernel
theorem dX5_advance_247 : decode cX5_advance 247 = .ok (.putfield 31, 3) := by decide +kernel
theorem dX5_advance_250 : decode cX5_advance 250 = .ok (.return_, 1) := by decide +kernel
theorem dX5_byteAt_0 : decode cX5_byteAt 0 = .ok (.iload_n 1, 1) := by decide +kernel
theorem dX5_byteAt_1 : decode cX5_byteAt 1 = .ok (.ifCond .lt 21, 3) := by decide +kernel
theorem dX5_byteAt_4 : decode cX5_byteAt 4 = .ok (.iload_n 1, 1) := by decide +kernel
theorem dX5_byteAt_5 : decode cX5_byteAt 5 = .ok (.aload_n 0, 1) := by decide +kernel
theorem dX5_byteAt_6 : decode cX5_byteAt 6 = .ok (.getfield 9, 3) := by decide +kernel
theorem dX5_byteAt_9 : decode cX5_byteAt 9 = .ok (.arraylength, 1) := by decide +kernel
theorem dX5_byteAt_10 : decode cX5_byteAt 10 = .ok (.if_icmp .ge 12, 3) := by decide +kernel
theorem dX5_byteAt_13 : decode cX5_byteAt 13 = .ok (.aload_n 0, 1) := by decide +kernel
theorem dX5_byteAt_14 : decode cX5_byteAt 14 = .ok (.getfield 9, 3) := by decide +kernel
theorem dX5_byteAt_17 : decode cX5_byteAt 17 = .ok (.iload_n 1, 1) := by decide +kernel
theorem dX5_byteAt_18 : decode cX5_byteAt 18 = .ok (.baload, 1) := by decide +kernel
theorem dX5_byteAt_19 : decode cX5_byteAt 19 = .ok (.goto 4, 3) := by decide +kernel
theorem dX5_byteAt_22 : decode cX5_byteAt 22 = .ok (.iconst 0, 1) := by decide +kernel
theorem dX5_byteAt_23 : decode cX5_byteAt 23 = .ok (.ireturn, 1) := by decide +kernel
theorem dX5_isLetter_0 : decode cX5_isLetter 0 = .ok (.iload_n 0, 1) := by decide +kernel
theorem dX5_isLetter_1 : decode cX5_isLetter 1 = .ok (.bipush 97, 2) := by decide +kernel
theorem dX5_isLetter_3 : decode cX5_isLetter 3 = .ok (.if_icmp .lt 13, 3) := by decide +kernel
theorem dX5_isLetter_6 : decode cX5_isLetter 6 = .ok (.iload_n 0, 1) := by decide +kernel
theorem dX5_isLetter_7 : decode cX5_isLetter 7 = .ok (.bipush 122, 2) := by decide +kernel
theorem dX5_isLetter_9 : decode cX5_isLetter 9 = .ok (.if_icmp .gt 7, 3) := by decide +kernel
theorem dX5_isLetter_12 : decode cX5_isLetter 12 = .ok (.iconst 1, 1) := by decide +kernel
theorem dX5_isLetter_13 : decode cX5_isLetter 13 = .ok (.goto 4, 3) := by decide +kernel
theorem dX5_isLetter_16 : decode cX5_isLetter 16 = .ok (.iconst 0, 1) := by decide +kernel
theorem dX5_isLetter_17 : decode cX5_isLetter 17 = .ok (.ireturn, 1) := by decide +kernel
theorem dX5_isDigit_0 : decode cX5_isDigit 0 = .ok (.iload_n 0, 1) := by decide +kernel
theorem dX5_isDigit_1 : decode cX5_isDigit 1 = .ok (.bipush 48, 2) := by decide +kernel
theorem dX5_isDigit_3 : decode cX5_isDigit 3 = .ok (.if_icmp .lt 13, 3) := by decide +kernel
theorem dX5_isDigit_6 : decode cX5_isDigit 6 = .ok (.iload_n 0, 1) := by decide +kernel
theorem dX5_isDigit_7 : decode cX5_isDigit 7 = .ok (.bipush 57, 2) := by decide +kernel
theorem dX5_isDigit_9 : decode cX5_isDigit 9 = .ok (.if_icmp .gt 7, 3) := by decide +kernel
theorem dX5_isDigit_12 : decode cX5_isDigit 12 = .ok (.iconst 1, 1) := by decide +kernel
theorem dX5_isDigit_13 : decode cX5_isDigit 13 = .ok (.goto 4, 3) := by decide +kernel
theorem dX5_isDigit_16 : decode cX5_isDigit 16 = .ok (.iconst 0, 1) := by decide +kernel
theorem dX5_isDigit_17 : decode cX5_isDigit 17 = .ok (.ireturn, 1) := by decide +kernel
theorem dX5_fail_0 : decode cX5_fail 0 = .ok (.aload_n 0, 1) := by decide +kernel
theorem dX5_fail_1 : decode cX5_fail 1 = .ok (.getfield 34, 3) := by decide +kernel
theorem dX5_fail_4 : decode cX5_fail 4 = .ok (.ifCond .ne 16, 3) := by decide +kernel
theorem dX5_fail_7 : decode cX5_fail 7 = .ok (.aload_n 0, 1) := by decide +kernel
theorem dX5_fail_8 : decode cX5_fail 8 = .ok (.iload_n 1, 1) := by decide +kernel
theorem dX5_fail_9 : decode cX5_fail 9 = .ok (.putfield 34, 3) := by decide +kernel
theorem dX5_fail_12 : decode cX5_fail 12 = .ok (.aload_n 0, 1) := by decide +kernel
theorem dX5_fail_13 : decode cX5_fail 13 = .ok (.aload_n 0, 1) := by decide +kernel
theorem dX5_fail_14 : decode cX5_fail 14 = .ok (.getfield 44, 3) := by decide +kernel
theorem dX5_fail_17 : decode cX5_fail 17 = .ok (.putfield 15, 3) := by decide +kernel
theorem dX5_fail_20 : decode cX5_fail 20 = .ok (.return_, 1) := by decide +kernel
theorem dX5_goesOn_0 : decode cX5_goesOn 0 = .ok (.aload_n 0, 1) := by decide +kernel
theorem dX5_goesOn_1 : decode cX5_goesOn 1 = .ok (.getfield 34, 3) := by decide +kernel
theorem dX5_goesOn_4 : decode cX5_goesOn 4 = .ok (.ifCond .ne 14, 3) := by decide +kernel
theorem dX5_goesOn_7 : decode cX5_goesOn 7 = .ok (.aload_n 0, 1) := by decide +kernel
theorem dX5_goesOn_8 : decode cX5_goesOn 8 = .ok (.getfield 50, 3) := by decide +kernel
theorem dX5_goesOn_11 : decode cX5_goesOn 11 = .ok (.ifCond .eq 7, 3) := by decide +kernel
theorem dX5_goesOn_14 : decode cX5_goesOn 14 = .ok (.iconst 1, 1) := by decide +kernel
theorem dX5_goesOn_15 : decode cX5_goesOn 15 = .ok (.goto 4, 3) := by decide +kernel
theorem dX5_goesOn_18 : decode cX5_goesOn 18 = .ok (.iconst 0, 1) := by decide +kernel
theorem dX5_goesOn_19 : decode cX5_goesOn 19 = .ok (.ireturn, 1) := by decide +kernel
theorem dX5_isWord_0 : decode cX5_isWord 0 = .ok (.aload_n 0, 1) := by decide +kernel
theorem dX5_isWord_1 : decode cX5_isWord 1 = .ok (.getfield 50, 3) := by decide +kernel
theorem dX5_isWord_4 : decode cX5_isWord 4 = .ok (.iconst 1, 1) := by decide +kernel
theorem dX5_isWord_5 : decode cX5_isWord 5 = .ok (.if_icmp .ne 23, 3) := by decide +kernel
theorem dX5_isWord_8 : decode cX5_isWord 8 = .ok (.aload_n 0, 1) := by decide +kernel
theorem dX5_isWord_9 : decode cX5_isWord 9 = .ok (.getfield 31, 3) := by decide +kernel
theorem dX5_isWord_12 : decode cX5_isWord 12 = .ok (.aload_n 0, 1) := by decide +kernel
theorem dX5_isWord_13 : decode cX5_isWord 13 = .ok (.getfield 44, 3) := by decide +kernel
theorem dX5_isWord_16 : decode cX5_isWord 16 = .ok (.isub, 1) := by decide +kernel
theorem dX5_isWord_17 : decode cX5_isWord 17 = .ok (.aload_n 1, 1) := by decide +kernel
theorem dX5_isWord_18 : decode cX5_isWord 18 = .ok (.invokevirtual 61, 3) := by decide +kernel
theorem dX5_isWord_21 : decode cX5_isWord 21 = .ok (.if_icmp .ne 7, 3) := by decide +kernel
theorem dX5_isWord_24 : decode cX5_isWord 24 = .ok (.iconst 1, 1) := by decide +kernel
theorem dX5_isWord_25 : decode cX5_isWord 25 = .ok (.goto 4, 3) := by decide +kernel
theorem dX5_isWord_28 : decode cX5_isWord 28 = .ok (.iconst 0, 1) := by decide +kernel
theorem dX5_isWord_29 : decode cX5_isWord 29 = .ok (.istore_n 2, 1) := by decide +kernel
theorem dX5_isWord_30 : decode cX5_isWord 30 = .ok (.iconst 0, 1) := by decide +kernel
theorem dX5_isWord_31 : decode cX5_isWord 31 = .ok (.istore_n 3, 1) := by decide +kernel
theorem dX5_isWord_32 : decode cX5_isWord 32 = .ok (.iload_n 3, 1) := by decide +kernel
theorem dX5_isWord_33 : decode cX5_isWord 33 = .ok (.aload_n 1, 1) := by decide +kernel
theorem dX5_isWord_34 : decode cX5_isWord 34 = .ok (.invokevirtual 61, 3) := by decide +kernel
theorem dX5_isWord_37 : decode cX5_isWord 37 = .ok (.if_icmp .ge 57, 3) := by decide +kernel
theorem dX5_isWord_40 : decode cX5_isWord 40 = .ok (.iload_n 2, 1) := by decide +kernel
theorem dX5_isWord_41 : decode cX5_isWord 41 = .ok (.ifCond .eq 53, 3) := by decide +kernel
theorem dX5_isWord_44 : decode cX5_isWord 44 = .ok (.aload_n 0, 1) := by decide +kernel
theorem dX5_isWord_45 : decode cX5_isWord 45 = .ok (.getfield 44, 3) := by decide +kernel
theorem dX5_isWord_48 : decode cX5_isWord 48 = .ok (.iload_n 3, 1) := by decide +kernel
theorem dX5_isWord_49 : decode cX5_isWord 49 = .ok (.iadd, 1) := by decide +kernel
theorem dX5_isWord_50 : decode cX5_isWord 50 = .ok (.istore 4, 2) := by decide +kernel
theorem dX5_isWord_52 : decode cX5_isWord 52 = .ok (.iload 4, 2) := by decide +kernel
theorem dX5_isWord_54 : decode cX5_isWord 54 = .ok (.ifCond .lt 32, 3) := by decide +kernel
theorem dX5_isWord_57 : decode cX5_isWord 57 = .ok (.iload 4, 2) := by decide +kernel
theorem dX5_isWord_59 : decode cX5_isWord 59 = .ok (.aload_n 0, 1) := by decide +kernel
theorem dX5_isWord_60 : decode cX5_isWord 60 = .ok (.getfield 9, 3) := by decide +kernel
theorem dX5_isWord_63 : decode cX5_isWord 63 = .ok (.arraylength, 1) := by decide +kernel
theorem dX5_isWord_64 : decode cX5_isWord 64 = .ok (.if_icmp .ge 22, 3) := by decide +kernel
theorem dX5_isWord_67 : decode cX5_isWord 67 = .ok (.aload_n 0, 1) := by decide +kernel
theorem dX5_isWord_68 : decode cX5_isWord 68 = .ok (.getfield 9, 3) := by decide +kernel
theorem dX5_isWord_71 : decode cX5_isWord 71 = .ok (.iload 4, 2) := by decide +kernel
theorem dX5_isWord_73 : decode cX5_isWord 73 = .ok (.baload, 1) := by decide +kernel
theorem dX5_isWord_74 : decode cX5_isWord 74 = .ok (.aload_n 1, 1) := by decide +kernel
theorem dX5_isWord_75 : decode cX5_isWord 75 = .ok (.iload_n 3, 1) := by decide +kernel
theorem dX5_isWord_76 : decode cX5_isWord 76 = .ok (.invokevirtual 67, 3) := by decide +kernel
theorem dX5_isWord_79 : decode cX5_isWord 79 = .ok (.if_icmp .ne 7, 3) := by decide +kernel
theorem dX5_isWord_82 : decode cX5_isWord 82 = .ok (.iconst 1, 1) := by decide +kernel
theorem dX5_isWord_83 : decode cX5_isWord 83 = .ok (.goto 4, 3) := by decide +kernel
theorem dX5_isWord_86 : decode cX5_isWord 86 = .ok (.iconst 0, 1) := by decide +kernel
theorem dX5_isWord_87 : decode cX5_isWord 87 = .ok (.istore_n 2, 1) := by decide +kernel
theorem dX5_isWord_88 : decode cX5_isWord 88 = .ok (.iinc 3 1, 3) := by decide +kernel
theorem dX5_isWord_91 : decode cX5_isWord 91 = .ok (.goto (-59), 3) := by decide +kernel
theorem dX5_isWord_94 : decode cX5_isWord 94 = .ok (.iload_n 2, 1) := by decide +kernel
theorem dX5_isWord_95 : decode cX5_isWord 95 = .ok (.ireturn, 1) := by decide +kernel
theorem dX5_isSign_0 : decode cX5_isSign 0 = .ok (.aload_n 0, 1) := by decide +kernel
theorem dX5_isSign_1 : decode cX5_isSign 1 = .ok (.getfield 50, 3) := by decide +kernel
theorem dX5_isSign_4 : decode cX5_isSign 4 = .ok (.iconst 3, 1) := by decide +kernel
theorem dX5_isSign_5 : decode cX5_isSign 5 = .ok (.if_icmp .ne 19, 3) := by decide +kernel
theorem dX5_isSign_8 : decode cX5_isSign 8 = .ok (.aload_n 0, 1) := by decide +kernel
theorem dX5_isSign_9 : decode cX5_isSign 9 = .ok (.aload_n 0, 1) := by decide +kernel
theorem dX5_isSign_10 : decode cX5_isSign 10 = .ok (.getfield 44, 3) := by decide +kernel
theorem dX5_isSign_13 : decode cX5_isSign 13 = .ok (.invokevirtual 40, 3) := by decide +kernel
theorem dX5_isSign_16 : decode cX5_isSign 16 = .ok (.iload_n 1, 1) := by decide +kernel
theorem dX5_isSign_17 : decode cX5_isSign 17 = .ok (.if_icmp .ne 7, 3) := by decide +kernel
theorem dX5_isSign_20 : decode cX5_isSign 20 = .ok (.iconst 1, 1) := by decide +kernel
theorem dX5_isSign_21 : decode cX5_isSign 21 = .ok (.goto 4, 3) := by decide +kernel
theorem dX5_isSign_24 : decode cX5_isSign 24 = .ok (.iconst 0, 1) := by decide +kernel
theorem dX5_isSign_25 : decode cX5_isSign 25 = .ok (.ireturn, 1) := by decide +kernel
theorem dX5_takeWord_0 : decode cX5_takeWord 0 = .ok (.aload_n 0, 1) := by decide +kernel
theorem dX5_takeWord_1 : decode cX5_takeWord 1 = .ok (.aload_n 1, 1) := by decide +kernel
theorem dX5_takeWord_2 : decode cX5_takeWord 2 = .ok (.invokevirtual 71, 3) := by decide +kernel
theorem dX5_takeWord_5 : decode cX5_takeWord 5 = .ok (.ifCond .eq 10, 3) := by decide +kernel
theorem dX5_takeWord_8 : decode cX5_takeWord 8 = .ok (.aload_n 0, 1) := by decide +kernel
theorem dX5_takeWord_9 : decode cX5_takeWord 9 = .ok (.invokevirtual 37, 3) := by decide +kernel
theorem dX5_takeWord_12 : decode cX5_takeWord 12 = .ok (.goto 8, 3) := by decide +kernel
theorem dX5_takeWord_15 : decode cX5_takeWord 15 = .ok (.aload_n 0, 1) := by decide +kernel
theorem dX5_takeWord_16 : decode cX5_takeWord 16 = .ok (.iconst 1, 1) := by decide +kernel
theorem dX5_takeWord_17 : decode cX5_takeWord 17 = .ok (.invokevirtual 75, 3) := by decide +kernel
theorem dX5_takeWord_20 : decode cX5_takeWord 20 = .ok (.return_, 1) := by decide +kernel
theorem dX5_takeSign_0 : decode cX5_takeSign 0 = .ok (.aload_n 0, 1) := by decide +kernel
theorem dX5_takeSign_1 : decode cX5_takeSign 1 = .ok (.iload_n 1, 1) := by decide +kernel
theorem dX5_takeSign_2 : decode cX5_takeSign 2 = .ok (.invokevirtual 79, 3) := by decide +kernel
theorem dX5_takeSign_5 : decode cX5_takeSign 5 = .ok (.ifCond .eq 10, 3) := by decide +kernel
theorem dX5_takeSign_8 : decode cX5_takeSign 8 = .ok (.aload_n 0, 1) := by decide +kernel
theorem dX5_takeSign_9 : decode cX5_takeSign 9 = .ok (.invokevirtual 37, 3) := by decide +kernel
theorem dX5_takeSign_12 : decode cX5_takeSign 12 = .ok (.goto 8, 3) := by decide +kernel
theorem dX5_takeSign_15 : decode cX5_takeSign 15 = .ok (.aload_n 0, 1) := by decide +kernel
theorem dX5_takeSign_16 : decode cX5_takeSign 16 = .ok (.iconst 1, 1) := by decide +kernel
theorem dX5_takeSign_17 : decode cX5_takeSign 17 = .ok (.invokevirtual 75, 3) := by decide +kernel
theorem dX5_takeSign_20 : decode cX5_takeSign 20 = .ok (.return_, 1) := by decide +kernel
theorem dX5_takeNumber_0 : decode cX5_takeNumber 0 = .ok (.aload_n 0, 1) := by decide +kernel
theorem dX5_takeNumber_1 : decode cX5_takeNumber 1 = .ok (.getfield 47, 3) := by decide +kernel
theorem dX5_takeNumber_4 : decode cX5_takeNumber 4 = .ok (.istore_n 3, 1) := by decide +kernel
theorem dX5_takeNumber_5 : decode cX5_takeNumber 5 = .ok (.aload_n 0, 1) := by decide +kernel
theorem dX5_takeNumber_6 : decode cX5_takeNumber 6 = .ok (.getfield 50, 3) := by decide +kernel
theorem dX5_takeNumber_9 : decode cX5_takeNumber 9 = .ok (.iconst 2, 1) := by decide +kernel
theorem dX5_takeNumber_10 : decode cX5_takeNumber 10 = .ok (.if_icmp .eq 10, 3) := by decide +kernel
theorem dX5_takeNumber_13 : decode cX5_takeNumber 13 = .ok (.aload_n 0, 1) := by decide +kernel
theorem dX5_takeNumber_14 : decode cX5_takeNumber 14 = .ok (.iconst 1, 1) := by decide +kernel
theorem dX5_takeNumber_15 : decode cX5_takeNumber 15 = .ok (.invokevirtual 75, 3) := by decide +kernel
theorem dX5_takeNumber_18 : decode cX5_takeNumber 18 = .ok (.iload_n 1, 1) := by decide +kernel
theorem dX5_takeNumber_19 : decode cX5_takeNumber 19 = .ok (.ireturn, 1) := by decide +kernel
theorem dX5_takeNumber_20 : decode cX5_takeNumber 20 = .ok (.iload_n 3, 1) := by decide +kernel
theorem dX5_takeNumber_21 : decode cX5_takeNumber 21 = .ok (.iload_n 1, 1) := by decide +kernel
theorem dX5_takeNumber_22 : decode cX5_takeNumber 22 = .ok (.if_icmp .lt 8, 3) := by decide +kernel
theorem dX5_takeNumber_25 : decode cX5_takeNumber 25 = .ok (.iload_n 3, 1) := by decide +kernel
theorem dX5_takeNumber_26 : decode cX5_takeNumber 26 = .ok (.iload_n 2, 1) := by decide +kernel
theorem dX5_takeNumber_27 : decode cX5_takeNumber 27 = .ok (.if_icmp .le 10, 3) := by decide +kernel
theorem dX5_takeNumber_30 : decode cX5_takeNumber 30 = .ok (.aload_n 0, 1) := by decide +kernel
theorem dX5_takeNumber_31 : decode cX5_takeNumber 31 = .ok (.iconst 2, 1) := by decide +kernel
theorem dX5_takeNumber_32 : decode cX5_takeNumber 32 = .ok (.invokevirtual 75, 3) := by decide +kernel
theorem dX5_takeNumber_35 : decode cX5_takeNumber 35 = .ok (.iload_n 1, 1) := by decide +kernel
theorem dX5_takeNumber_36 : decode cX5_takeNumber 36 = .ok (.ireturn, 1) := by decide +kernel
theorem dX5_takeNumber_37 : decode cX5_takeNumber 37 = .ok (.aload_n 0, 1) := by decide +kernel
theorem dX5_takeNumber_38 : decode cX5_takeNumber 38 = .ok (.invokevirtual 37, 3) := by decide +kernel
theorem dX5_takeNumber_41 : decode cX5_takeNumber 41 = .ok (.iload_n 3, 1) := by decide +kernel
theorem dX5_takeNumber_42 : decode cX5_takeNumber 42 = .ok (.ireturn, 1) := by decide +kernel
theorem dX5_takeSigned_0 : decode cX5_takeSigned 0 = .ok (.aload_n 0, 1) := by decide +kernel
theorem dX5_takeSigned_1 : decode cX5_takeSigned 1 = .ok (.bipush 45, 2) := by decide +kernel
theorem dX5_takeSigned_3 : decode cX5_takeSigned 3 = .ok (.invokevirtual 79, 3) := by decide +kernel
theorem dX5_takeSigned_6 : decode cX5_takeSigned 6 = .ok (.istore_n 1, 1) := by decide +kernel
theorem dX5_takeSigned_7 : decode cX5_takeSigned 7 = .ok (.iload_n 1, 1) := by decide +kernel
theorem dX5_takeSigned_8 : decode cX5_takeSigned 8 = .ok (.ifCond .eq 7, 3) := by decide +kernel
theorem dX5_takeSigned_11 : decode cX5_takeSigned 11 = .ok (.aload_n 0, 1) := by decide +kernel
theorem dX5_takeSigned_12 : decode cX5_takeSigned 12 = .ok (.invokevirtual 37, 3) := by decide +kernel
theorem dX5_takeSigned_15 : decode cX5_takeSigned 15 = .ok (.aload_n 0, 1) := by decide +kernel
theorem dX5_takeSigned_16 : decode cX5_takeSigned 16 = .ok (.iconst 0, 1) := by decide +kernel
theorem dX5_takeSigned_17 : decode cX5_takeSigned 17 = .ok (.sipush 9999, 3) := by decide +kernel
theorem dX5_takeSigned_20 : decode cX5_takeSigned 20 = .ok (.invokevirtual 83, 3) := by decide +kernel
theorem dX5_takeSigned_23 : decode cX5_takeSigned 23 = .ok (.istore_n 2, 1) := by decide +kernel
theorem dX5_takeSigned_24 : decode cX5_takeSigned 24 = .ok (.iload_n 1, 1) := by decide +kernel
theorem dX5_takeSigned_25 : decode cX5_takeSigned 25 = .ok (.ifCond .eq 8, 3) := by decide +kernel
theorem dX5_takeSigned_28 : decode cX5_takeSigned 28 = .ok (.iload_n 2, 1) := by decide +kernel
theorem dX5_takeSigned_29 : decode cX5_takeSigned 29 = .ok (.ineg, 1) := by decide +kernel
theorem dX5_takeSigned_30 : decode cX5_takeSigned 30 = .ok (.goto 4, 3) := by decide +kernel
theorem dX5_takeSigned_33 : decode cX5_takeSigned 33 = .ok (.iload_n 2, 1) := by decide +kernel
theorem dX5_takeSigned_34 : decode cX5_takeSigned 34 = .ok (.ireturn, 1) := by decide +kernel
theorem dX6_init_0 : decode cX6_init 0 = .ok (.aload_n 0, 1) := by decide +kernel
theorem dX6_init_1 : decode cX6_init 1 = .ok (.invokespecial 3, 3) := by decide +kernel
theorem dX6_init_4 : decode cX6_init 4 = .ok (.return_, 1) := by decide +kernel
theorem dX6_stand_0 : decode cX6_stand 0 = .ok (.aload_n 0, 1) := by decide +kernel
theorem dX6_stand_1 : decode cX6_stand 1 = .ok (.iload_n 1, 1) := by decide +kernel
theorem dX6_stand_2 : decode cX6_stand 2 = .ok (.putfield 9, 3) := by decide +kernel
theorem dX6_stand_5 : decode cX6_stand 5 = .ok (.aload_n 0, 1) := by decide +kernel
theorem dX6_stand_6 : decode cX6_stand 6 = .ok (.iload_n 2, 1) := by decide +kernel
theorem dX6_stand_7 : decode cX6_stand 7 = .ok (.putfield 15, 3) := by decide +kernel
theorem dX6_stand_10 : decode cX6_stand 10 = .ok (.aload_n 0, 1) := by decide +kernel
theorem dX6_stand_11 : decode cX6_stand 11 = .ok (.iconst 0, 1) := by decide +kernel
theorem dX6_stand_12 : decode cX6_stand 12 = .ok (.putfield 18, 3) := by decide +kernel
theorem dX6_stand_15 : decode cX6_stand 15 = .ok (.aload_n 0, 1) := by decide +kernel
theorem dX6_stand_16 : decode cX6_stand 16 = .ok (.iconst 0, 1) := by decide +kernel
theorem dX6_stand_17 : decode cX6_stand 17 = .ok (.putfield 21, 3) := by decide +kernel
theorem dX6_stand_20 : decode cX6_stand 20 = .ok (.return_, 1) := by decide +kernel
theorem dX6_shape_0 : decode cX6_shape 0 = .ok (.aload_n 0, 1) := by decide +kernel
theorem dX6_shape_1 : decode cX6_shape 1 = .ok (.iload_n 1, 1) := by decide +kernel
theorem dX6_shape_2 : decode cX6_shape 2 = .ok (.putfield 24, 3) := by decide +kernel
theorem dX6_shape_5 : decode cX6_shape 5 = .ok (.aload_n 0, 1) := by decide +kernel
theorem dX6_shape_6 : decode cX6_shape 6 = .ok (.iload_n 2, 1) := by decide +kernel
theorem dX6_shape_7 : decode cX6_shape 7 = .ok (.putfield 27, 3) := by decide +kernel
theorem dX6_shape_10 : decode cX6_shape 10 = .ok (.aload_n 0, 1) := by decide +kernel
theorem dX6_shape_11 : decode cX6_shape 11 = .ok (.iload_n 3, 1) := by decide +kernel
theorem dX6_shape_12 : decode cX6_shape 12 = .ok (.putfield 30, 3) := by decide +kernel
theorem dX6_shape_15 : decode cX6_shape 15 = .ok (.return_, 1) := by decide +kernel
theorem dX6_copyFrom_0 : decode cX6_copyFrom 0 = .ok (.aload_n 0, 1) := by decide +kernel
theorem dX6_copyFrom_1 : decode cX6_copyFrom 1 = .ok (.aload_n 1, 1) := by decide +kernel
theorem dX6_copyFrom_2 : decode cX6_copyFrom 2 = .ok (.getfield 9, 3) := by decide +kernel
theorem dX6_copyFrom_5 : decode cX6_copyFrom 5 = .ok (.aload_n 1, 1) := by decide +kernel
theorem dX6_copyFrom_6 : decode cX6_copyFrom 6 = .ok (.getfield 15, 3) := by decide +kernel
theorem dX6_copyFrom_9 : decode cX6_copyFrom 9 = .ok (.invokevirtual 33, 3) := by decide +kernel
theorem dX6_copyFrom_12 : decode cX6_copyFrom 12 = .ok (.aload_n 0, 1) := by decide +kernel
theorem dX6_copyFrom_13 : decode cX6_copyFrom 13 = .ok (.aload_n 1, 1) := by decide +kernel
theorem dX6_copyFrom_14 : decode cX6_copyFrom 14 = .ok (.getfield 24, 3) := by decide +kernel
theorem dX6_copyFrom_17 : decode cX6_copyFrom 17 = .ok (.aload_n 1, 1) := by decide +kernel
theorem dX6_copyFrom_18 : decode cX6_copyFrom 18 = .ok (.getfield 27, 3) := by decide +kernel
theorem dX6_copyFrom_21 : decode cX6_copyFrom 21 = .ok (.aload_n 1, 1) := by decide +kernel
theorem dX6_copyFrom_22 : decode cX6_copyFrom 22 = .ok (.getfield 30, 3) := by decide +kernel
theorem dX6_copyFrom_25 : decode cX6_copyFrom 25 = .ok (.invokevirtual 37, 3) := by decide +kernel
theorem dX6_copyFrom_28 : decode cX6_copyFrom 28 = .ok (.aload_n 0, 1) := by decide +kernel
theorem dX6_copyFrom_29 : decode cX6_copyFrom 29 = .ok (.aload_n 1, 1) := by decide +kernel
theorem dX6_copyFrom_30 : decode cX6_copyFrom 30 = .ok (.getfield 18, 3) := by decide +kernel
theorem dX6_copyFrom_33 : decode cX6_copyFrom 33 = .ok (.putfield 18, 3) := by decide +kernel
theorem dX6_copyFrom_36 : decode cX6_copyFrom 36 = .ok (.aload_n 0, 1) := by decide +kernel
theorem dX6_copyFrom_37 : decode cX6_copyFrom 37 = .ok (.aload_n 1, 1) := by decide +kernel
theorem dX6_copyFrom_38 : decode cX6_copyFrom 38 = .ok (.getfield 21, 3) := by decide +kernel
theorem dX6_copyFrom_41 : decode cX6_copyFrom 41 = .ok (.putfield 21, 3) := by decide +kernel
theorem dX6_copyFrom_44 : decode cX6_copyFrom 44 = .ok (.aload_n 0, 1) := by decide +kernel
theorem dX6_copyFrom_45 : decode cX6_copyFrom 45 = .ok (.aload_n 1, 1) := by decide +kernel
theorem dX6_copyFrom_46 : decode cX6_copyFrom 46 = .ok (.getfield 41, 3) := by decide +kernel
theorem dX6_copyFrom_49 : decode cX6_copyFrom 49 = .ok (.putfield 41, 3) := by decide +kernel
theorem dX6_copyFrom_52 : decode cX6_copyFrom 52 = .ok (.aload_n 0, 1) := by decide +kernel
theorem dX6_copyFrom_53 : decode cX6_copyFrom 53 = .ok (.aload_n 1, 1) := by decide +kernel
theorem dX6_copyFrom_54 : decode cX6_copyFrom 54 = .ok (.getfield 44, 3) := by decide +kernel
theorem dX6_copyFrom_57 : decode cX6_copyFrom 57 = .ok (.putfield 44, 3) := by decide +kernel
theorem dX6_copyFrom_60 : decode cX6_copyFrom 60 = .ok (.aload_n 0, 1) := by decide +kernel
theorem dX6_copyFrom_61 : decode cX6_copyFrom 61 = .ok (.aload_n 1, 1) := by decide +kernel
theorem dX6_copyFrom_62 : decode cX6_copyFrom 62 = .ok (.getfield 47, 3) := by decide +kernel
theorem dX6_copyFrom_65 : decode cX6_copyFrom 65 = .ok (.putfield 47, 3) := by decide +kernel
theorem dX6_copyFrom_68 : decode cX6_copyFrom 68 = .ok (.return_, 1) := by decide +kernel
theorem dX6_fullColumn_0 : decode cX6_fullColumn 0 = .ok (.bipush 100, 2) := by decide +kernel
theorem dX6_fullColumn_2 : decode cX6_fullColumn 2 = .ok (.aload_n 0, 1) := by decide +kernel
theorem dX6_fullColumn_3 : decode cX6_fullColumn 3 = .ok (.getfield 30, 3) := by decide +kernel
theorem dX6_fullColumn_6 : decode cX6_fullColumn 6 = .ok (.imul, 1) := by decide +kernel
theorem dX6_fullColumn_7 : decode cX6_fullColumn 7 = .ok (.ireturn, 1) := by decide +kernel
theorem dX6_fullVolume_0 : decode cX6_fullVolume 0 = .ok (.aload_n 0, 1) := by decide +kernel
theorem dX6_fullVolume_1 : decode cX6_fullVolume 1 = .ok (.invokevirtual 50, 3) := by decide +kernel
theorem dX6_fullVolume_4 : decode cX6_fullVolume 4 = .ok (.i2l, 1) := by decide +kernel
theorem dX6_fullVolume_5 : decode cX6_fullVolume 5 = .ok (.aload_n 0, 1) := by decide +kernel
theorem dX6_fullVolume_6 : decode cX6_fullVolume 6 = .ok (.getfield 24, 3) := by decide +kernel
theorem dX6_fullVolume_9 : decode cX6_fullVolume 9 = .ok (.i2l, 1) := by decide +kernel
theorem dX6_fullVolume_10 : decode cX6_fullVolume 10 = .ok (.lmul, 1) := by decide +kernel
theorem dX6_fullVolume_11 : decode cX6_fullVolume 11 = .ok (.aload_n 0, 1) := by decide +kernel
theorem dX6_fullVolume_12 : decode cX6_fullVolume 12 = .ok (.getfield 24, 3) := by decide +kernel
theorem dX6_fullVolume_15 : decode cX6_fullVolume 15 = .ok (.i2l, 1) := by decide +kernel
theorem dX6_fullVolume_16 : decode cX6_fullVolume 16 = .ok (.lmul, 1) := by decide +kernel
theorem dX6_fullVolume_17 : decode cX6_fullVolume 17 = .ok (.lreturn, 1) := by decide +kernel
theorem dX6_runAt_0 : decode cX6_runAt 0 = .ok (.aload_n 0, 1) := by decide +kernel
theorem dX6_runAt_1 : decode cX6_runAt 1 = .ok (.getfield 27, 3) := by decide +kernel
theorem dX6_runAt_4 : decode cX6_runAt 4 = .ok (.ifCond .ne 7, 3) := by decide +kernel
theorem dX6_runAt_7 : decode cX6_runAt 7 = .ok (.lconst 0, 1) := by decide +kernel
theorem dX6_runAt_8 : decode cX6_runAt 8 = .ok (.goto 26, 3) := by decide +kernel
theorem dX6_runAt_11 : decode cX6_runAt 11 = .ok (.lload_n 1, 1) := by decide +kernel
theorem dX6_runAt_12 : decode cX6_runAt 12 = .ok (.aload_n 0, 1) := by decide +kernel
theorem dX6_runAt_13 : decode cX6_runAt 13 = .ok (.getfield 41, 3) := by decide +kernel
theorem dX6_runAt_16 : decode cX6_runAt 16 = .ok (.i2l, 1) := by decide +kernel
theorem dX6_runAt_17 : decode cX6_runAt 17 = .ok (.ladd, 1) := by decide +kernel
theorem dX6_runAt_18 : decode cX6_runAt 18 = .ok (.aload_n 0, 1) := by decide +kernel
theorem dX6_runAt_19 : decode cX6_runAt 19 = .ok (.getfield 44, 3) := by decide +kernel
theorem dX6_runAt_22 : decode cX6_runAt 22 = .ok (.i2l, 1) := by decide +kernel
theorem dX6_runAt_23 : decode cX6_runAt 23 = .ok (.ladd, 1) := by decide +kernel
theorem dX6_runAt_24 : decode cX6_runAt 24 = .ok (.ldc2_w 54, 3) := by decide +kernel
theorem dX6_runAt_27 : decode cX6_runAt 27 = .ok (.lmul, 1) := by decide +kernel
theorem dX6_runAt_28 : decode cX6_runAt 28 = .ok (.aload_n 0, 1) := by decide +kernel
theorem dX6_runAt_29 : decode cX6_runAt 29 = .ok (.getfield 27, 3) := by decide +kernel
theorem dX6_runAt_32 : decode cX6_runAt 32 = .ok (.i2l, 1) := by decide +kernel
theorem dX6_runAt_33 : decode cX6_runAt 33 = .ok (.ldiv, 1) := by decide +kernel
theorem dX6_runAt_34 : decode cX6_runAt 34 = .ok (.lreturn, 1) := by decide +kernel
theorem dX6_columnAt_0 : decode cX6_columnAt 0 = .ok (.aload_n 0, 1) := by decide +kernel
theorem dX6_columnAt_1 : decode cX6_columnAt 1 = .ok (.getfield 21, 3) := by decide +kernel
theorem dX6_columnAt_4 : decode cX6_columnAt 4 = .ok (.ifCond .ne 23, 3) := by decide +kernel
theorem dX6_columnAt_7 : decode cX6_columnAt 7 = .ok (.lconst 0, 1) := by decide +kernel
theorem dX6_columnAt_8 : decode cX6_columnAt 8 = .ok (.aload_n 0, 1) := by decide +kernel
theorem dX6_columnAt_9 : decode cX6_columnAt 9 = .ok (.invokevirtual 50, 3) := by decide +kernel
theorem dX6_columnAt_12 : decode cX6_columnAt 12 = .ok (.i2l, 1) := by decide +kernel
theorem dX6_columnAt_13 : decode cX6_columnAt 13 = .ok (.aload_n 0, 1) := by decide +kernel
theorem dX6_columnAt_14 : decode cX6_columnAt 14 = .ok (.lload_n 1, 1) := by decide +kernel
theorem dX6_columnAt_15 : decode cX6_columnAt 15 = .ok (.invokevirtual 56, 3) := by decide +kernel
theorem dX6_columnAt_18 : decode cX6_columnAt 18 = .ok (.invokestatic 60, 3) := by decide +kernel
theorem dX6_columnAt_21 : decode cX6_columnAt 21 = .ok (.invokestatic 66, 3) := by decide +kernel
theorem dX6_columnAt_24 : decode cX6_columnAt 24 = .ok (.goto 4, 3) := by decide +kernel
theorem dX6_columnAt_27 : decode cX6_columnAt 27 = .ok (.lconst 0, 1) := by decide +kernel
theorem dX6_columnAt_28 : decode cX6_columnAt 28 = .ok (.lreturn, 1) := by decide +kernel
theorem dX6_shownReading_0 : decode cX6_shownReading 0 = .ok (.aload_n 0, 1) := by decide +kernel
theorem dX6_shownReading_1 : decode cX6_shownReading 1 = .ok (.getfield 47, 3) := by decide +kernel
theorem dX6_shownReading_4 : decode cX6_shownReading 4 = .ok (.bipush 10, 2) := by decide +kernel
theorem dX6_shownReading_6 : decode cX6_shownReading 6 = .ok (.idiv, 1) := by decide +kernel
theorem dX6_shownReading_7 : decode cX6_shownReading 7 = .ok (.aload_n 0, 1) := by decide +kernel
theorem dX6_shownReading_8 : decode cX6_shownReading 8 = .ok (.getfield 18, 3) := by decide +kernel
theorem dX6_shownReading_11 : decode cX6_shownReading 11 = .ok (.iadd, 1) := by decide +kernel
theorem dX6_shownReading_12 : decode cX6_shownReading 12 = .ok (.ireturn, 1) := by decide +kernel
theorem dX7_init_0 : decode cX7_init 0 = .ok (.aload_n 0, 1) := by decide +kernel
theorem dX7_init_1 : decode cX7_init 1 = .ok (.invokespecial 1, 3) := by decide +kernel
theorem dX7_init_4 : decode cX7_init 4 = .ok (.aload_n 0, 1) := by decide +kernel
theorem dX7_init_5 : decode cX7_init 5 = .ok (.new 7, 3) := by decide +kernel
theorem dX7_init_8 : decode cX7_init 8 = .ok (.dup, 1) := by decide +kernel
theorem dX7_init_9 : decode cX7_init 9 = .ok (.invokespecial 9, 3) := by decide +kernel
theorem dX7_init_12 : decode cX7_init 12 = .ok (.putfield 10, 3) := by decide +kernel
theorem dX7_init_15 : decode cX7_init 15 = .ok (.aload_n 0, 1) := by decide +kernel
theorem dX7_init_16 : decode cX7_init 16 = .ok (.new 7, 3) := by decide +kernel
theorem dX7_init_19 : decode cX7_init 19 = .ok (.dup, 1) := by decide +kernel
theorem dX7_init_20 : decode cX7_init 20 = .ok (.invokespecial 9, 3) := by decide +kernel
theorem dX7_init_23 : decode cX7_init 23 = .ok (.putfield 16, 3) := by decide +kernel
theorem dX7_init_26 : decode cX7_init 26 = .ok (.aload_n 0, 1) := by decide +kernel
theorem dX7_init_27 : decode cX7_init 27 = .ok (.new 7, 3) := by decide +kernel
theorem dX7_init_30 : decode cX7_init 30 = .ok (.dup, 1) := by decide +kernel
theorem dX7_init_31 : decode cX7_init 31 = .ok (.invokespecial 9, 3) := by decide +kernel
theorem dX7_init_34 : decode cX7_init 34 = .ok (.putfield 19, 3) := by decide +kernel
theorem dX7_init_37 : decode cX7_init 37 = .ok (.aload_n 0, 1) := by decide +kernel
theorem dX7_init_38 : decode cX7_init 38 = .ok (.new 22, 3) := by decide +kernel
theorem dX7_init_41 : decode cX7_init 41 = .ok (.dup, 1) := by decide +kernel
theorem dX7_init_42 : decode cX7_init 42 = .ok (.invokespecial 24, 3) := by decide +kernel
theorem dX7_init_45 : decode cX7_init 45 = .ok (.putfield 25, 3) := by decide +kernel
theorem dX7_init_48 : decode cX7_init 48 = .ok (.aload_n 0, 1) := by decide +kernel
theorem dX7_init_49 : decode cX7_init 49 = .ok (.new 29, 3) := by decide +kernel
theorem dX7_init_52 : decode cX7_init 52 = .ok (.dup, 1) := by decide +kernel
theorem dX7_init_53 : decode cX7_init 53 = .ok (.invokespecial 31, 3) := by decide +kernel
theorem dX7_init_56 : decode cX7_init 56 = .ok (.putfield 32, 3) := by decide +kernel
theorem dX7_init_59 : decode cX7_init 59 = .ok (.aload_n 0, 1) := by decide +kernel
theorem dX7_init_60 : decode cX7_init 60 = .ok (.new 36, 3) := by decide +kernel
theorem dX7_init_63 : decode cX7_init 63 = .ok (.dup, 1) := by decide +kernel
theorem dX7_init_64 : decode cX7_init 64 = .ok (.invokespecial 38, 3) := by decide +kernel
theorem dX7_init_67 : decode cX7_init 67 = .ok (.putfield 39, 3) := by decide +kernel
theorem dX7_init_70 : decode cX7_init 70 = .ok (.aload_n 0, 1) := by decide +kernel
theorem dX7_init_71 : decode cX7_init 71 = .ok (.getfield 10, 3) := by decide +kernel
theorem dX7_init_74 : decode cX7_init 74 = .ok (.iconst 2, 1) := by decide +kernel
theorem dX7_init_75 : decode cX7_init 75 = .ok (.ldc 43, 2) := by decide +kernel
theorem dX7_init_77 : decode cX7_init 77 = .ok (.invokevirtual 44, 3) := by decide +kernel
theorem dX7_init_80 : decode cX7_init 80 = .ok (.return_, 1) := by decide +kernel
theorem dX7_feed_0 : decode cX7_feed 0 = .ok (.aload_n 0, 1) := by decide +kernel
theorem dX7_feed_1 : decode cX7_feed 1 = .ok (.getfield 32, 3) := by decide +kernel
theorem dX7_feed_4 : decode cX7_feed 4 = .ok (.bipush 20, 2) := by decide +kernel
theorem dX7_feed_6 : decode cX7_feed 6 = .ok (.invokevirtual 48, 3) := by decide +kernel
theorem dX7_feed_9 : decode cX7_feed 9 = .ok (.ifCond .ne 5, 3) := by decide +kernel
theorem dX7_feed_12 : decode cX7_feed 12 = .ok (.iconst (-1), 1) := by decide +kernel
theorem dX7_feed_13 : decode cX7_feed 13 = .ok (.ireturn, 1) := by decide +kernel
theorem dX7_feed_14 : decode cX7_feed 14 = .ok (.aload_n 0, 1) := by decide +kernel
theorem dX7_feed_15 : decode cX7_feed 15 = .ok (.getfield 32, 3) := by decide +kernel
theorem dX7_feed_18 : decode cX7_feed 18 = .ok (.iload_n 1, 1) := by decide +kernel
theorem dX7_feed_19 : decode cX7_feed 19 = .ok (.invokevirtual 52, 3) := by decide +kernel
theorem dX7_feed_22 : decode cX7_feed 22 = .ok (.aload_n 0, 1) := by decide +kernel
theorem dX7_feed_23 : decode cX7_feed 23 = .ok (.getfield 32, 3) := by decide +kernel
theorem dX7_feed_26 : decode cX7_feed 26 = .ok (.iload_n 2, 1) := by decide +kernel
theorem dX7_feed_27 : decode cX7_feed 27 = .ok (.invokevirtual 52, 3) := by decide +kernel
theorem dX7_feed_30 : decode cX7_feed 30 = .ok (.aload_n 0, 1) := by decide +kernel
theorem dX7_feed_31 : decode cX7_feed 31 = .ok (.getfield 32, 3) := by decide +kernel
theorem dX7_feed_34 : decode cX7_feed 34 = .ok (.iload_n 3, 1) := by decide +kernel
theorem dX7_feed_35 : decode cX7_feed 35 = .ok (.invokevirtual 52, 3) := by decide +kernel
theorem dX7_feed_38 : decode cX7_feed 38 = .ok (.aload_n 0, 1) := by decide +kernel
theorem dX7_feed_39 : decode cX7_feed 39 = .ok (.getfield 32, 3) := by decide +kernel
theorem dX7_feed_42 : decode cX7_feed 42 = .ok (.iload 4, 2) := by decide +kernel
theorem dX7_feed_44 : decode cX7_feed 44 = .ok (.invokevirtual 52, 3) := by decide +kernel
theorem dX7_feed_47 : decode cX7_feed 47 = .ok (.aload_n 0, 1) := by decide +kernel
theorem dX7_feed_48 : decode cX7_feed 48 = .ok (.getfield 32, 3) := by decide +kernel
theorem dX7_feed_51 : decode cX7_feed 51 = .ok (.iload 5, 2) := by decide +kernel
theorem dX7_feed_53 : decode cX7_feed 53 = .ok (.invokevirtual 52, 3) := by decide +kernel
theorem dX7_feed_56 : decode cX7_feed 56 = .ok (.aload_n 0, 1) := by decide +kernel
theorem dX7_feed_57 : decode cX7_feed 57 = .ok (.getfield 32, 3) := by decide +kernel
theorem dX7_feed_60 : decode cX7_feed 60 = .ok (.getfield 56, 3) := by decide +kernel
theorem dX7_feed_63 : decode cX7_feed 63 = .ok (.ireturn, 1) := by decide +kernel
theorem dX7_load_0 : decode cX7_load 0 = .ok (.iload_n 1, 1) := by decide +kernel
theorem dX7_load_1 : decode cX7_load 1 = .ok (.iconst 0, 1) := by decide +kernel
theorem dX7_load_2 : decode cX7_load 2 = .ok (.aload_n 0, 1) := by decide +kernel
theorem dX7_load_3 : decode cX7_load 3 = .ok (.getfield 32, 3) := by decide +kernel
theorem dX7_load_6 : decode cX7_load 6 = .ok (.getfield 56, 3) := by decide +kernel
theorem dX7_load_9 : decode cX7_load 9 = .ok (.invokestatic 60, 3) := by decide +kernel
theorem dX7_load_12 : decode cX7_load 12 = .ok (.aload_n 0, 1) := by decide +kernel
theorem dX7_load_13 : decode cX7_load 13 = .ok (.getfield 32, 3) := by decide +kernel
theorem dX7_load_16 : decode cX7_load 16 = .ok (.iload_n 1, 1) := by decide +kernel
theorem dX7_load_17 : decode cX7_load 17 = .ok (.invokevirtual 64, 3) := by decide +kernel
theorem dX7_load_20 : decode cX7_load 20 = .ok (.new 67, 3) := by decide +kernel
theorem dX7_load_23 : decode cX7_load 23 = .ok (.dup, 1) := by decide +kernel
theorem dX7_load_24 : decode cX7_load 24 = .ok (.aload_n 0, 1) := by decide +kernel
theorem dX7_load_25 : decode cX7_load 25 = .ok (.getfield 32, 3) := by decide +kernel
theorem dX7_load_28 : decode cX7_load 28 = .ok (.aload_n 0, 1) := by decide +kernel
theorem dX7_load_29 : decode cX7_load 29 = .ok (.getfield 16, 3) := by decide +kernel
theorem dX7_load_32 : decode cX7_load 32 = .ok (.invokespecial 69, 3) := by decide +kernel
theorem dX7_load_35 : decode cX7_load 35 = .ok (.astore_n 2, 1) := by decide +kernel
theorem dX7_load_36 : decode cX7_load 36 = .ok (.aload_n 2, 1) := by decide +kernel
theorem dX7_load_37 : decode cX7_load 37 = .ok (.invokevirtual 72, 3) := by decide +kernel
theorem dX7_load_40 : decode cX7_load 40 = .ok (.aload_n 0, 1) := by decide +kernel
theorem dX7_load_41 : decode cX7_load 41 = .ok (.getfield 32, 3) := by decide +kernel
theorem dX7_load_44 : decode cX7_load 44 = .ok (.invokevirtual 75, 3) := by decide +kernel
theorem dX7_load_47 : decode cX7_load 47 = .ok (.aload_n 0, 1) := by decide +kernel
theorem dX7_load_48 : decode cX7_load 48 = .ok (.getfield 32, 3) := by decide +kernel
theorem dX7_load_51 : decode cX7_load 51 = .ok (.getfield 78, 3) := by decide +kernel
theorem dX7_load_54 : decode cX7_load 54 = .ok (.ifCond .eq 14, 3) := by decide +kernel
theorem dX7_load_57 : decode cX7_load 57 = .ok (.bipush (-10), 2) := by decide +kernel
theorem dX7_load_59 : decode cX7_load 59 = .ok (.aload_n 0, 1) := by decide +kernel
theorem dX7_load_60 : decode cX7_load 60 = .ok (.getfield 32, 3) := by decide +kernel
theorem dX7_load_63 : decode cX7_load 63 = .ok (.getfield 78, 3) := by decide +kernel
theorem dX7_load_66 : decode cX7_load 66 = .ok (.isub, 1) := by decide +kernel
theorem dX7_load_67 : decode cX7_load 67 = .ok (.ireturn, 1) := by decide +kernel
theorem dX7_load_68 : decode cX7_load 68 = .ok (.aload_n 0, 1) := by decide +kernel
theorem dX7_load_69 : decode cX7_load 69 = .ok (.getfield 10, 3) := by decide +kernel
theorem dX7_load_72 : decode cX7_load 72 = .ok (.aload_n 0, 1) := by decide +kernel
theorem dX7_load_73 : decode cX7_load 73 = .ok (.getfield 16, 3) := by decide +kernel
theorem dX7_load_76 : decode cX7_load 76 = .ok (.invokevirtual 81, 3) := by decide +kernel
theorem dX7_load_79 : decode cX7_load 79 = .ok (.aload_n 0, 1) := by decide +kernel
theorem dX7_load_80 : decode cX7_load 80 = .ok (.getfield 10, 3) := by decide +kernel
theorem dX7_load_83 : decode cX7_load 83 = .ok (.invokevirtual 85, 3) := by decide +kernel
theorem dX7_load_86 : decode cX7_load 86 = .ok (.pop, 1) := by decide +kernel
theorem dX7_load_87 : decode cX7_load 87 = .ok (.aload_n 0, 1) := by decide +kernel
theorem dX7_load_88 : decode cX7_load 88 = .ok (.getfield 25, 3) := by decide +kernel
theorem dX7_load_91 : decode cX7_load 91 = .ok (.invokevirtual 89, 3) := by decide +kernel
theorem dX7_load_94 : decode cX7_load 94 = .ok (.aload_n 0, 1) := by decide +kernel
theorem dX7_load_95 : decode cX7_load 95 = .ok (.iconst 0, 1) := by decide +kernel
theorem dX7_load_96 : decode cX7_load 96 = .ok (.putfield 91, 3) := by decide +kernel
theorem dX7_load_99 : decode cX7_load 99 = .ok (.aload_n 0, 1) := by decide +kernel
theorem dX7_load_100 : decode cX7_load 100 = .ok (.getfield 10, 3) := by decide +kernel
theorem dX7_load_103 : decode cX7_load 103 = .ok (.iconst 0, 1) := by decide +kernel
theorem dX7_load_104 : decode cX7_load 104 = .ok (.invokevirtual 95, 3) := by decide +kernel
theorem dX7_load_107 : decode cX7_load 107 = .ok (.ireturn, 1) := by decide +kernel
theorem dX7_errorPosition_0 : decode cX7_errorPosition 0 = .ok (.aload_n 0, 1) := by decide +kernel
theorem dX7_errorPosition_1 : decode cX7_errorPosition 1 = .ok (.getfield 32, 3) := by decide +kernel
theorem dX7_errorPosition_4 : decode cX7_errorPosition 4 = .ok (.getfield 99, 3) := by decide +kernel
theorem dX7_errorPosition_7 : decode cX7_errorPosition 7 = .ok (.ireturn, 1) := by decide +kernel
theorem dX7_size_0 : decode cX7_size 0 = .ok (.iload_n 1, 1) := by decide +kernel
theorem dX7_size_1 : decode cX7_size 1 = .ok (.tableswitch 116 0 7 #[47, 55, 63, 71, 80, 89, 98, 107], 47) := by decide +kernel
theorem dX7_size_48 : decode cX7_size 48 = .ok (.aload_n 0, 1) := by decide +kernel
theorem dX7_size_49 : decode cX7_size 49 = .ok (.getfield 10, 3) := by decide +kernel
theorem dX7_size_52 : decode cX7_size 52 = .ok (.getfield 102, 3) := by decide +kernel
theorem dX7_size_55 : decode cX7_size 55 = .ok (.ireturn, 1) := by decide +kernel
theorem dX7_size_56 : decode cX7_size 56 = .ok (.aload_n 0, 1) := by decide +kernel
theorem dX7_size_57 : decode cX7_size 57 = .ok (.getfield 10, 3) := by decide +kernel
theorem dX7_size_60 : decode cX7_size 60 = .ok (.getfield 105, 3) := by decide +kernel
theorem dX7_size_63 : decode cX7_size 63 = .ok (.ireturn, 1) := by decide +kernel
theorem dX7_size_64 : decode cX7_size 64 = .ok (.aload_n 0, 1) := by decide +kernel
theorem dX7_size_65 : decode cX7_size 65 = .ok (.getfield 10, 3) := by decide +kernel
theorem dX7_size_68 : decode cX7_size 68 = .ok (.getfield 108, 3) := by decide +kernel
theorem dX7_size_71 : decode cX7_size 71 = .ok (.ireturn, 1) := by decide +kernel
theorem dX7_size_72 : decode cX7_size 72 = .ok (.aload_n 0, 1) := by decide +kernel
theorem dX7_size_73 : decode cX7_size 73 = .ok (.getfield 10, 3) := by decide +kernel
theorem dX7_size_76 : decode cX7_size 76 = .ok (.iconst 0, 1) := by decide +kernel
theorem dX7_size_77 : decode cX7_size 77 = .ok (.invokevirtual 95, 3) := by decide +kernel
theorem dX7_size_80 : decode cX7_size 80 = .ok (.ireturn, 1) := by decide +kernel
theorem dX7_size_81 : decode cX7_size 81 = .ok (.aload_n 0, 1) := by decide +kernel
theorem dX7_size_82 : decode cX7_size 82 = .ok (.getfield 10, 3) := by decide +kernel
theorem dX7_size_85 : decode cX7_size 85 = .ok (.iconst 1, 1) := by decide +kernel
theorem dX7_size_86 : decode cX7_size 86 = .ok (.invokevirtual 95, 3) := by decide +kernel
theorem dX7_size_89 : decode cX7_size 89 = .ok (.ireturn, 1) := by decide +kernel
theorem dX7_size_90 : decode cX7_size 90 = .ok (.aload_n 0, 1) := by decide +kernel
theorem dX7_size_91 : decode cX7_size 91 = .ok (.getfield 10, 3) := by decide +kernel
theorem dX7_size_94 : decode cX7_size 94 = .ok (.iconst 2, 1) := by decide +kernel
theorem dX7_size_95 : decode cX7_size 95 = .ok (.invokevirtual 95, 3) := by decide +kernel
theorem dX7_size_98 : decode cX7_size 98 = .ok (.ireturn, 1) := by decide +kernel
theorem dX7_size_99 : decode cX7_size 99 = .ok (.aload_n 0, 1) := by decide +kernel
theorem dX7_size_100 : decode cX7_size 100 = .ok (.getfield 10, 3) := by decide +kernel
theorem dX7_size_103 : decode cX7_size 103 = .ok (.iconst 0, 1) := by decide +kernel
theorem dX7_size_104 : decode cX7_size 104 = .ok (.invokevirtual 111, 3) := by decide +kernel
theorem dX7_size_107 : decode cX7_size 107 = .ok (.ireturn, 1) := by decide +kernel
theorem dX7_size_108 : decode cX7_size 108 = .ok (.aload_n 0, 1) := by decide +kernel
theorem dX7_size_109 : decode cX7_size 109 = .ok (.getfield 10, 3) := by decide +kernel
theorem dX7_size_112 : decode cX7_size 112 = .ok (.iconst 1, 1) := by decide +kernel
theorem dX7_size_113 : decode cX7_size 113 = .ok (.invokevirtual 111, 3) := by decide +kernel
theorem dX7_size_116 : decode cX7_size 116 = .ok (.ireturn, 1) := by decide +kernel
theorem dX7_size_117 : decode cX7_size 117 = .ok (.new 114, 3) := by decide +kernel
theorem dX7_size_120 : decode cX7_size 120 = .ok (.dup, 1) := by decide +kernel
theorem dX7_size_121 : decode cX7_size 121 = .ok (.ldc 116, 2) := by decide +kernel
theorem dX7_size_123 : decode cX7_size 123 = .ok (.invokespecial 118, 3) := by decide +kernel
theorem dX7_size_126 : decode cX7_size 126 = .ok (.athrow, 1) := by decide +kernel
theorem dX7_pressure_0 : decode cX7_pressure 0 = .ok (.aload_n 0, 1) := by decide +kernel
theorem dX7_pressure_1 : decode cX7_pressure 1 = .ok (.iload_n 1, 1) := by decide +kernel
theorem dX7_pressure_2 : decode cX7_pressure 2 = .ok (.invokevirtual 121, 3) := by decide +kernel
theorem dX7_pressure_5 : decode cX7_pressure 5 = .ok (.aload_n 0, 1) := by decide +kernel
theorem dX7_pressure_6 : decode cX7_pressure 6 = .ok (.getfield 10, 3) := by decide +kernel
theorem dX7_pressure_9 : decode cX7_pressure 9 = .ok (.iload_n 1, 1) := by decide +kernel
theorem dX7_pressure_10 : decode cX7_pressure 10 = .ok (.invokevirtual 124, 3) := by decide +kernel
theorem dX7_pressure_13 : decode cX7_pressure 13 = .ok (.ireturn, 1) := by decide +kernel
theorem dX7_leg_0 : decode cX7_leg 0 = .ok (.iload_n 1, 1) := by decide +kernel
theorem dX7_leg_1 : decode cX7_leg 1 = .ok (.invokestatic 127, 3) := by decide +kernel
theorem dX7_leg_4 : decode cX7_leg 4 = .ok (.aload_n 0, 1) := by decide +kernel
theorem dX7_leg_5 : decode cX7_leg 5 = .ok (.getfield 10, 3) := by decide +kernel
theorem dX7_leg_8 : decode cX7_leg 8 = .ok (.iload_n 1, 1) := by decide +kernel
theorem dX7_leg_9 : decode cX7_leg 9 = .ok (.invokevirtual 130, 3) := by decide +kernel
theorem dX7_leg_12 : decode cX7_leg 12 = .ok (.astore_n 3, 1) := by decide +kernel
theorem dX7_leg_13 : decode cX7_leg 13 = .ok (.iload_n 2, 1) := by decide +kernel
theorem dX7_leg_14 : decode cX7_leg 14 = .ok (.tableswitch 51 0 3 #[30, 35, 40, 45], 30) := by decide +kernel
theorem dX7_leg_44 : decode cX7_leg 44 = .ok (.aload_n 3, 1) := by decide +kernel
theorem dX7_leg_45 : decode cX7_leg 45 = .ok (.getfield 134, 3) := by decide +kernel
theorem dX7_leg_48 : decode cX7_leg 48 = .ok (.ireturn, 1) := by decide +kernel
theorem dX7_leg_49 : decode cX7_leg 49 = .ok (.aload_n 3, 1) := by decide +kernel
theorem dX7_leg_50 : decode cX7_leg 50 = .ok (.getfield 139, 3) := by decide +kernel
theorem dX7_leg_53 : decode cX7_leg 53 = .ok (.ireturn, 1) := by decide +kernel
theorem dX7_leg_54 : decode cX7_leg 54 = .ok (.aload_n 3, 1) := by decide +kernel
theorem dX7_leg_55 : decode cX7_leg 55 = .ok (.getfield 142, 3) := by decide +kernel
theorem dX7_leg_58 : decode cX7_leg 58 = .ok (.ireturn, 1) := by decide +kernel
theorem dX7_leg_59 : decode cX7_leg 59 = .ok (.aload_n 3, 1) := by decide +kernel
theorem dX7_leg_60 : decode cX7_leg 60 = .ok (.getfield 145, 3) := by decide +kernel
theorem dX7_leg_63 : decode cX7_leg 63 = .ok (.l2i, 1) := by decide +kernel
theorem dX7_leg_64 : decode cX7_leg 64 = .ok (.ireturn, 1) := by decide +kernel
theorem dX7_leg_65 : decode cX7_leg 65 = .ok (.new 114, 3) := by decide +kernel
theorem dX7_leg_68 : decode cX7_leg 68 = .ok (.dup, 1) := by decide +kernel
theorem dX7_leg_69 : decode cX7_leg 69 = .ok (.ldc 149, 2) := by decide +kernel
theorem dX7_leg_71 : decode cX7_leg 71 = .ok (.invokespecial 118, 3) := by decide +kernel
theorem dX7_leg_74 : decode cX7_leg 74 = .ok (.athrow, 1) := by decide +kernel
theorem dX7_account_0 : decode cX7_account 0 = .ok (.iload_n 1, 1) := by decide +kernel
theorem dX7_account_1 : decode cX7_account 1 = .ok (.invokestatic 127, 3) := by decide +kernel
theorem dX7_account_4 : decode cX7_account 4 = .ok (.aload_n 0, 1) := by decide +kernel
theorem dX7_account_5 : decode cX7_account 5 = .ok (.getfield 10, 3) := by decide +kernel
theorem dX7_account_8 : decode cX7_account 8 = .ok (.iload_n 1, 1) := by decide +kernel
theorem dX7_account_9 : decode cX7_account 9 = .ok (.invokevirtual 130, 3) := by decide +kernel
theorem dX7_account_12 : decode cX7_account 12 = .ok (.astore_n 3, 1) := by decide +kernel
theorem dX7_account_13 : decode cX7_account 13 = .ok (.aload_n 0, 1) := by decide +kernel
theorem dX7_account_14 : decode cX7_account 14 = .ok (.getfield 10, 3) := by decide +kernel
theorem dX7_account_17 : decode cX7_account 17 = .ok (.iload_n 1, 1) := by decide +kernel
theorem dX7_account_18 : decode cX7_account 18 = .ok (.aload_n 3, 1) := by decide +kernel
theorem dX7_account_19 : decode cX7_account 19 = .ok (.getfield 145, 3) := by decide +kernel
theorem dX7_account_22 : decode cX7_account 22 = .ok (.invokevirtual 151, 3) := by decide +kernel
theorem dX7_account_25 : decode cX7_account 25 = .ok (.lstore 4, 2) := by decide +kernel
theorem dX7_account_27 : decode cX7_account 27 = .ok (.iload_n 2, 1) := by decide +kernel
theorem dX7_account_28 : decode cX7_account 28 = .ok (.tableswitch 73 0 4 #[36, 41, 44, 49, 54], 36) := by decide +kernel
theorem dX7_account_64 : decode cX7_account 64 = .ok (.aload_n 3, 1) := by decide +kernel
theorem dX7_account_65 : decode cX7_account 65 = .ok (.getfield 155, 3) := by decide +kernel
theorem dX7_account_68 : decode cX7_account 68 = .ok (.lreturn, 1) := by decide +kernel
theorem dX7_account_69 : decode cX7_account 69 = .ok (.lload 4, 2) := by decide +kernel
theorem dX7_account_71 : decode cX7_account 71 = .ok (.lreturn, 1) := by decide +kernel
theorem dX7_account_72 : decode cX7_account 72 = .ok (.aload_n 3, 1) := by decide +kernel
theorem dX7_account_73 : decode cX7_account 73 = .ok (.getfield 158, 3) := by decide +kernel
theorem dX7_account_76 : decode cX7_account 76 = .ok (.lreturn, 1) := by decide +kernel
theorem dX7_account_77 : decode cX7_account 77 = .ok (.aload_n 3, 1) := by decide +kernel
theorem dX7_account_78 : decode cX7_account 78 = .ok (.getfield 161, 3) := by decide +kernel
theorem dX7_account_81 : decode cX7_account 81 = .ok (.lreturn, 1) := by decide +kernel
theorem dX7_account_82 : decode cX7_account 82 = .ok (.aload_n 3, 1) := by decide +kernel
theorem dX7_account_83 : decode cX7_account 83 = .ok (.getfield 155, 3) := by decide +kernel
theorem dX7_account_86 : decode cX7_account 86 = .ok (.aload_n 3, 1) := by decide +kernel
theorem dX7_account_87 : decode cX7_account 87 = .ok (.getfield 139, 3) := by decide +kernel
theorem dX7_account_90 : decode cX7_account 90 = .ok (.i2l, 1) := by decide +kernel
theorem dX7_account_91 : decode cX7_account 91 = .ok (.aload_n 3, 1) := by decide +kernel
theorem dX7_account_92 : decode cX7_account 92 = .ok (.getfield 145, 3) := by decide +kernel
theorem dX7_account_95 : decode cX7_account 95 = .ok (.lmul, 1) := by decide +kernel
theorem dX7_account_96 : decode cX7_account 96 = .ok (.lsub, 1) := by decide +kernel
theorem dX7_account_97 : decode cX7_account 97 = .ok (.lload 4, 2) := by decide +kernel
theorem dX7_account_99 : decode cX7_account 99 = .ok (.lsub, 1) := by decide +kernel
theorem dX7_account_100 : decode cX7_account 100 = .ok (.lreturn, 1) := by decide +kernel
theorem dX7_account_101 : decode cX7_account 101 = .ok (.new 114, 3) := by decide +kernel
theorem dX7_account_104 : decode cX7_account 104 = .ok (.dup, 1) := by decide +kernel
theorem dX7_account_105 : decode cX7_account 105 = .ok (.ldc 164, 2) := by decide +kernel
theorem dX7_account_107 : decode cX7_account 107 = .ok (.invokespecial 118, 3) := by decide +kernel
theorem dX7_account_110 : decode cX7_account 110 = .ok (.athrow, 1) := by decide +kernel
theorem dX7_tube_0 : decode cX7_tube 0 = .ok (.aload_n 0, 1) := by decide +kernel
theorem dX7_tube_1 : decode cX7_tube 1 = .ok (.iload_n 1, 1) := by decide +kernel
theorem dX7_tube_2 : decode cX7_tube 2 = .ok (.invokevirtual 166, 3) := by decide +kernel
theorem dX7_tube_5 : decode cX7_tube 5 = .ok (.iload_n 2, 1) := by decide +kernel
theorem dX7_tube_6 : decode cX7_tube 6 = .ok (.ifCond .lt 9, 3) := by decide +kernel
theorem dX7_tube_9 : decode cX7_tube 9 = .ok (.iload_n 2, 1) := by decide +kernel
theorem dX7_tube_10 : decode cX7_tube 10 = .ok (.bipush 10, 2) := by decide +kernel
theorem dX7_tube_12 : decode cX7_tube 12 = .ok (.if_icmp .le 13, 3) := by decide +kernel
theorem dX7_tube_15 : decode cX7_tube 15 = .ok (.new 114, 3) := by decide +kernel
theorem dX7_tube_18 : decode cX7_tube 18 = .ok (.dup, 1) := by decide +kernel
theorem dX7_tube_19 : decode cX7_tube 19 = .ok (.ldc 169, 2) := by decide +kernel
theorem dX7_tube_21 : decode cX7_tube 21 = .ok (.invokespecial 118, 3) := by decide +kernel
theorem dX7_tube_24 : decode cX7_tube 24 = .ok (.athrow, 1) := by decide +kernel
theorem dX7_tube_25 : decode cX7_tube 25 = .ok (.aload_n 0, 1) := by decide +kernel
theorem dX7_tube_26 : decode cX7_tube 26 = .ok (.getfield 10, 3) := by decide +kernel
theorem dX7_tube_29 : decode cX7_tube 29 = .ok (.iload_n 1, 1) := by decide +kernel
theorem dX7_tube_30 : decode cX7_tube 30 = .ok (.iload_n 2, 1) := by decide +kernel
theorem dX7_tube_31 : decode cX7_tube 31 = .ok (.invokevirtual 171, 3) := by decide +kernel
theorem dX7_tube_34 : decode cX7_tube 34 = .ok (.ireturn, 1) := by decide +kernel
theorem dX7_room_0 : decode cX7_room 0 = .ok (.aload_n 0, 1) := by decide +kernel
theorem dX7_room_1 : decode cX7_room 1 = .ok (.iload_n 1, 1) := by decide +kernel
theorem dX7_room_2 : decode cX7_room 2 = .ok (.invokevirtual 166, 3) := by decide +kernel
theorem dX7_room_5 : decode cX7_room 5 = .ok (.aload_n 0, 1) := by decide +kernel
theorem dX7_room_6 : decode cX7_room 6 = .ok (.getfield 10, 3) := by decide +kernel
theorem dX7_room_9 : decode cX7_room 9 = .ok (.iload_n 1, 1) := by decide +kernel
theorem dX7_room_10 : decode cX7_room 10 = .ok (.invokevirtual 175, 3) := by decide +kernel
theorem dX7_room_13 : decode cX7_room 13 = .ok (.astore_n 2, 1) := by decide +kernel
theorem dX7_room_14 : decode cX7_room 14 = .ok (.aload_n 2, 1) := by decide +kernel
theorem dX7_room_15 : decode cX7_room 15 = .ok (.getfield 179, 3) := by decide +kernel
theorem dX7_room_18 : decode cX7_room 18 = .ok (.ifCond .ne 15, 3) := by decide +kernel
theorem dX7_room_21 : decode cX7_room 21 = .ok (.aload_n 2, 1) := by decide +kernel
theorem dX7_room_22 : decode cX7_room 22 = .ok (.invokevirtual 196, 3) := by decide +kernel
theorem dX7_room_25 : decode cX7_room 25 = .ok (.aload_n 2, 1) := by decide +kernel
theorem dX7_room_26 : decode cX7_room 26 = .ok (.getfield 199, 3) := by decide +kernel
theorem dX7_room_29 : decode cX7_room 29 = .ok (.isub, 1) := by decide +kernel
theorem dX7_room_30 : decode cX7_room 30 = .ok (.goto 4, 3) := by decide +kernel
theorem dX7_room_33 : decode cX7_room 33 = .ok (.iconst (-1), 1) := by decide +kernel
theorem dX7_room_34 : decode cX7_room 34 = .ok (.ireturn, 1) := by decide +kernel
theorem dX7_setPressure_0 : decode cX7_setPressure 0 = .ok (.aload_n 0, 1) := by decide +kernel
theorem dX7_setPressure_1 : decode cX7_setPressure 1 = .ok (.iload_n 1, 1) := by decide +kernel
theorem dX7_setPressure_2 : decode cX7_setPressure 2 = .ok (.invokevirtual 121, 3) := by decide +kernel
theorem dX7_setPressure_5 : decode cX7_setPressure 5 = .ok (.iload_n 2, 1) := by decide +kernel
theorem dX7_setPressure_6 : decode cX7_setPressure 6 = .ok (.iconst 0, 1) := by decide +kernel
theorem dX7_setPressure_7 : decode cX7_setPressure 7 = .ok (.ldc 207, 2) := by decide +kernel
theorem dX7_setPressure_9 : decode cX7_setPressure 9 = .ok (.invokestatic 60, 3) := by decide +kernel
theorem dX7_setPressure_12 : decode cX7_setPressure 12 = .ok (.aload_n 0, 1) := by decide +kernel
theorem dX7_setPressure_13 : decode cX7_setPressure 13 = .ok (.getfield 25, 3) := by decide +kernel
theorem dX7_setPressure_16 : decode cX7_setPressure 16 = .ok (.aload_n 0, 1) := by decide +kernel
theorem dX7_setPressure_17 : decode cX7_setPressure 17 = .ok (.getfield 10, 3) := by decide +kernel
theorem dX7_setPressure_20 : decode cX7_setPressure 20 = .ok (.invokevirtual 229, 3) := by decide +kernel
theorem dX7_setPressure_23 : decode cX7_setPressure 23 = .ok (.aload_n 0, 1) := by decide +kernel
theorem dX7_setPressure_24 : decode cX7_setPressure 24 = .ok (.getfield 10, 3) := by decide +kernel
theorem dX7_setPressure_27 : decode cX7_setPressure 27 = .ok (.iload_n 1, 1) := by decide +kernel
theorem dX7_setPressure_28 : decode cX7_setPressure 28 = .ok (.iload_n 2, 1) := by decide +kernel
theorem dX7_setPressure_29 : decode cX7_setPressure 29 = .ok (.invokevirtual 223, 3) := by decide +kernel
theorem dX7_setPressure_32 : decode cX7_setPressure 32 = .ok (.aload_n 0, 1) := by decide +kernel
theorem dX7_setPressure_33 : decode cX7_setPressure 33 = .ok (.getfield 10, 3) := by decide +kernel
theorem dX7_setPressure_36 : decode cX7_setPressure 36 = .ok (.invokevirtual 85, 3) := by decide +kernel
theorem dX7_setPressure_39 : decode cX7_setPressure 39 = .ok (.ireturn, 1) := by decide +kernel
theorem dX7_setReference_0 : decode cX7_setReference 0 = .ok (.iload_n 1, 1) := by decide +kernel
theorem dX7_setReference_1 : decode cX7_setReference 1 = .ok (.iconst 0, 1) := by decide +kernel
theorem dX7_setReference_2 : decode cX7_setReference 2 = .ok (.ldc 207, 2) := by decide +kernel
theorem dX7_setReference_4 : decode cX7_setReference 4 = .ok (.invokestatic 60, 3) := by decide +kernel
theorem dX7_setReference_7 : decode cX7_setReference 7 = .ok (.aload_n 0, 1) := by decide +kernel
theorem dX7_setReference_8 : decode cX7_setReference 8 = .ok (.getfield 25, 3) := by decide +kernel
theorem dX7_setReference_11 : decode cX7_setReference 11 = .ok (.aload_n 0, 1) := by decide +kernel
theorem dX7_setReference_12 : decode cX7_setReference 12 = .ok (.getfield 10, 3) := by decide +kernel
theorem dX7_setReference_15 : decode cX7_setReference 15 = .ok (.invokevirtual 229, 3) := by decide +kernel
theorem dX7_setReference_18 : decode cX7_setReference 18 = .ok (.aload_n 0, 1) := by decide +kernel
theorem dX7_setReference_19 : decode cX7_setReference 19 = .ok (.getfield 10, 3) := by decide +kernel
theorem dX7_setReference_22 : decode cX7_setReference 22 = .ok (.iload_n 1, 1) := by decide +kernel
theorem dX7_setReference_23 : decode cX7_setReference 23 = .ok (.putfield 105, 3) := by decide +kernel
theorem dX7_setReference_26 : decode cX7_setReference 26 = .ok (.aload_n 0, 1) := by decide +kernel
theorem dX7_setReference_27 : decode cX7_setReference 27 = .ok (.getfield 10, 3) := by decide +kernel
theorem dX7_setReference_30 : decode cX7_setReference 30 = .ok (.invokevirtual 85, 3) := by decide +kernel
theorem dX7_setReference_33 : decode cX7_setReference 33 = .ok (.ireturn, 1) := by decide +kernel
theorem dX7_sweep_0 : decode cX7_sweep 0 = .ok (.aload_n 0, 1) := by decide +kernel
theorem dX7_sweep_1 : decode cX7_sweep 1 = .ok (.iload_n 1, 1) := by decide +kernel
theorem dX7_sweep_2 : decode cX7_sweep 2 = .ok (.invokevirtual 121, 3) := by decide +kernel
theorem dX7_sweep_5 : decode cX7_sweep 5 = .ok (.iload_n 2, 1) := by decide +kernel
theorem dX7_sweep_6 : decode cX7_sweep 6 = .ok (.iconst 0, 1) := by decide +kernel
theorem dX7_sweep_7 : decode cX7_sweep 7 = .ok (.ldc 207, 2) := by decide +kernel
theorem dX7_sweep_9 : decode cX7_sweep 9 = .ok (.invokestatic 60, 3) := by decide +kernel
theorem dX7_sweep_12 : decode cX7_sweep 12 = .ok (.iload_n 3, 1) := by decide +kernel
theorem dX7_sweep_13 : decode cX7_sweep 13 = .ok (.iconst 1, 1) := by decide +kernel
theorem dX7_sweep_14 : decode cX7_sweep 14 = .ok (.bipush 50, 2) := by decide +kernel
theorem dX7_sweep_16 : decode cX7_sweep 16 = .ok (.invokestatic 60, 3) := by decide +kernel
theorem dX7_sweep_19 : decode cX7_sweep 19 = .ok (.aload_n 0, 1) := by decide +kernel
theorem dX7_sweep_20 : decode cX7_sweep 20 = .ok (.getfield 25, 3) := by decide +kernel
theorem dX7_sweep_23 : decode cX7_sweep 23 = .ok (.aload_n 0, 1) := by decide +kernel
theorem dX7_sweep_24 : decode cX7_sweep 24 = .ok (.getfield 10, 3) := by decide +kernel
theorem dX7_sweep_27 : decode cX7_sweep 27 = .ok (.invokevirtual 229, 3) := by decide +kernel
theorem dX7_sweep_30 : decode cX7_sweep 30 = .ok (.aload_n 0, 1) := by decide +kernel
theorem dX7_sweep_31 : decode cX7_sweep 31 = .ok (.getfield 10, 3) := by decide +kernel
theorem dX7_sweep_34 : decode cX7_sweep 34 = .ok (.iload_n 1, 1) := by decide +kernel
theorem dX7_sweep_35 : decode cX7_sweep 35 = .ok (.invokevirtual 124, 3) := by decide +kernel
theorem dX7_sweep_38 : decode cX7_sweep 38 = .ok (.istore 4, 2) := by decide +kernel
theorem dX7_sweep_40 : decode cX7_sweep 40 = .ok (.iconst 0, 1) := by decide +kernel
theorem dX7_sweep_41 : decode cX7_sweep 41 = .ok (.istore 5, 2) := by decide +kernel
theorem dX7_sweep_43 : decode cX7_sweep 43 = .ok (.iconst 1, 1) := by decide +kernel
theorem dX7_sweep_44 : decode cX7_sweep 44 = .ok (.istore 6, 2) := by decide +kernel
theorem dX7_sweep_46 : decode cX7_sweep 46 = .ok (.iload 6, 2) := by decide +kernel
theorem dX7_sweep_48 : decode cX7_sweep 48 = .ok (.iload_n 3, 1) := by decide +kernel
theorem dX7_sweep_49 : decode cX7_sweep 49 = .ok (.if_icmp .gt 41, 3) := by decide +kernel
theorem dX7_sweep_52 : decode cX7_sweep 52 = .ok (.aload_n 0, 1) := by decide +kernel
theorem dX7_sweep_53 : decode cX7_sweep 53 = .ok (.getfield 10, 3) := by decide +kernel
theorem dX7_sweep_56 : decode cX7_sweep 56 = .ok (.iload_n 1, 1) := by decide +kernel
theorem dX7_sweep_57 : decode cX7_sweep 57 = .ok (.iload 4, 2) := by decide +kernel
theorem dX7_sweep_59 : decode cX7_sweep 59 = .ok (.iload_n 2, 1) := by decide +kernel
theorem dX7_sweep_60 : decode cX7_sweep 60 = .ok (.iload 4, 2) := by decide +kernel
theorem dX7_sweep_62 : decode cX7_sweep 62 = .ok (.isub, 1) := by decide +kernel
theorem dX7_sweep_63 : decode cX7_sweep 63 = .ok (.iload 6, 2) := by decide +kernel
theorem dX7_sweep_65 : decode cX7_sweep 65 = .ok (.imul, 1) := by decide +kernel
theorem dX7_sweep_66 : decode cX7_sweep 66 = .ok (.iload_n 3, 1) := by decide +kernel
theorem dX7_sweep_67 : decode cX7_sweep 67 = .ok (.idiv, 1) := by decide +kernel
theorem dX7_sweep_68 : decode cX7_sweep 68 = .ok (.iadd, 1) := by decide +kernel
theorem dX7_sweep_69 : decode cX7_sweep 69 = .ok (.invokevirtual 223, 3) := by decide +kernel
theorem dX7_sweep_72 : decode cX7_sweep 72 = .ok (.iload 5, 2) := by decide +kernel
theorem dX7_sweep_74 : decode cX7_sweep 74 = .ok (.aload_n 0, 1) := by decide +kernel
theorem dX7_sweep_75 : decode cX7_sweep 75 = .ok (.getfield 10, 3) := by decide +kernel
theorem dX7_sweep_78 : decode cX7_sweep 78 = .ok (.invokevirtual 85, 3) := by decide +kernel
theorem dX7_sweep_81 : decode cX7_sweep 81 = .ok (.iadd, 1) := by decide +kernel
theorem dX7_sweep_82 : decode cX7_sweep 82 = .ok (.istore 5, 2) := by decide +kernel
theorem dX7_sweep_84 : decode cX7_sweep 84 = .ok (.iinc 6 1, 3) := by decide +kernel
theorem dX7_sweep_87 : decode cX7_sweep 87 = .ok (.goto (-41), 3) := by decide +kernel
theorem dX7_sweep_90 : decode cX7_sweep 90 = .ok (.iload 5, 2) := by decide +kernel
theorem dX7_sweep_92 : decode cX7_sweep 92 = .ok (.ireturn, 1) := by decide +kernel
theorem dX7_setSlant_0 : decode cX7_setSlant 0 = .ok (.aload_n 0, 1) := by decide +kernel
theorem dX7_setSlant_1 : decode cX7_setSlant 1 = .ok (.iload_n 1, 1) := by decide +kernel
theorem dX7_setSlant_2 : decode cX7_setSlant 2 = .ok (.invokevirtual 166, 3) := by decide +kernel
theorem dX7_setSlant_5 : decode cX7_setSlant 5 = .ok (.iload_n 2, 1) := by decide +kernel
theorem dX7_setSlant_6 : decode cX7_setSlant 6 = .ok (.bipush 50, 2) := by decide +kernel
theorem dX7_setSlant_8 : decode cX7_setSlant 8 = .ok (.sipush 1000, 3) := by decide +kernel
theorem dX7_setSlant_11 : decode cX7_setSlant 11 = .ok (.invokestatic 60, 3) := by decide +kernel
theorem dX7_setSlant_14 : decode cX7_setSlant 14 = .ok (.aload_n 0, 1) := by decide +kernel
theorem dX7_setSlant_15 : decode cX7_setSlant 15 = .ok (.getfield 25, 3) := by decide +kernel
theorem dX7_setSlant_18 : decode cX7_setSlant 18 = .ok (.aload_n 0, 1) := by decide +kernel
theorem dX7_setSlant_19 : decode cX7_setSlant 19 = .ok (.getfield 10, 3) := by decide +kernel
theorem dX7_setSlant_22 : decode cX7_setSlant 22 = .ok (.invokevirtual 229, 3) := by decide +kernel
theorem dX7_setSlant_25 : decode cX7_setSlant 25 = .ok (.aload_n 0, 1) := by decide +kernel
theorem dX7_setSlant_26 : decode cX7_setSlant 26 = .ok (.getfield 10, 3) := by decide +kernel
theorem dX7_setSlant_29 : decode cX7_setSlant 29 = .ok (.iload_n 1, 1) := by decide +kernel
theorem dX7_setSlant_30 : decode cX7_setSlant 30 = .ok (.invokevirtual 175, 3) := by decide +kernel
theorem dX7_setSlant_33 : decode cX7_setSlant 33 = .ok (.iload_n 2, 1) := by decide +kernel
theorem dX7_setSlant_34 : decode cX7_setSlant 34 = .ok (.putfield 226, 3) := by decide +kernel
theorem dX7_setSlant_37 : decode cX7_setSlant 37 = .ok (.aload_n 0, 1) := by decide +kernel
theorem dX7_setSlant_38 : decode cX7_setSlant 38 = .ok (.getfield 10, 3) := by decide +kernel
theorem dX7_setSlant_41 : decode cX7_setSlant 41 = .ok (.invokevirtual 85, 3) := by decide +kernel
theorem dX7_setSlant_44 : decode cX7_setSlant 44 = .ok (.ireturn, 1) := by decide +kernel
theorem dX7_setMark_0 : decode cX7_setMark 0 = .ok (.aload_n 0, 1) := by decide +kernel
theorem dX7_setMark_1 : decode cX7_setMark 1 = .ok (.iload_n 1, 1) := by decide +kernel
theorem dX7_setMark_2 : decode cX7_setMark 2 = .ok (.invokevirtual 166, 3) := by decide +kernel
theorem dX7_setMark_5 : decode cX7_setMark 5 = .ok (.aload_n 0, 1) := by decide +kernel
theorem dX7_setMark_6 : decode cX7_setMark 6 = .ok (.getfield 10, 3) := by decide +kernel
theorem dX7_setMark_9 : decode cX7_setMark 9 = .ok (.iload_n 1, 1) := by decide +kernel
theorem dX7_setMark_10 : decode cX7_setMark 10 = .ok (.invokevirtual 175, 3) := by decide +kernel
theorem dX7_setMark_13 : decode cX7_setMark 13 = .ok (.astore_n 2, 1) := by decide +kernel
theorem dX7_setMark_14 : decode cX7_setMark 14 = .ok (.aload_n 2, 1) := by decide +kernel
theorem dX7_setMark_15 : decode cX7_setMark 15 = .ok (.getfield 179, 3) := by decide +kernel
theorem dX7_setMark_18 : decode cX7_setMark 18 = .ok (.ifCond .eq 6, 3) := by decide +kernel
theorem dX7_setMark_21 : decode cX7_setMark 21 = .ok (.ldc 188, 2) := by decide +kernel
theorem dX7_setMark_23 : decode cX7_setMark 23 = .ok (.ireturn, 1) := by decide +kernel
theorem dX7_setMark_24 : decode cX7_setMark 24 = .ok (.aload_n 2, 1) := by decide +kernel
theorem dX7_setMark_25 : decode cX7_setMark 25 = .ok (.getfield 199, 3) := by decide +kernel
theorem dX7_setMark_28 : decode cX7_setMark 28 = .ok (.bipush 10, 2) := by decide +kernel
theorem dX7_setMark_30 : decode cX7_setMark 30 = .ok (.idiv, 1) := by decide +kernel
theorem dX7_setMark_31 : decode cX7_setMark 31 = .ok (.ineg, 1) := by decide +kernel
theorem dX7_setMark_32 : decode cX7_setMark 32 = .ok (.istore_n 3, 1) := by decide +kernel
theorem dX7_setMark_33 : decode cX7_setMark 33 = .ok (.iload_n 3, 1) := by decide +kernel
theorem dX7_setMark_34 : decode cX7_setMark 34 = .ok (.sipush (-9999), 3) := by decide +kernel
theorem dX7_setMark_37 : decode cX7_setMark 37 = .ok (.if_icmp .ge 6, 3) := by decide +kernel
theorem dX7_setMark_40 : decode cX7_setMark 40 = .ok (.ldc 232, 2) := by decide +kernel
theorem dX7_setMark_42 : decode cX7_setMark 42 = .ok (.ireturn, 1) := by decide +kernel
theorem dX7_setMark_43 : decode cX7_setMark 43 = .ok (.aload_n 0, 1) := by decide +kernel
theorem dX7_setMark_44 : decode cX7_setMark 44 = .ok (.getfield 25, 3) := by decide +kernel
theorem dX7_setMark_47 : decode cX7_setMark 47 = .ok (.aload_n 0, 1) := by decide +kernel
theorem dX7_setMark_48 : decode cX7_setMark 48 = .ok (.getfield 10, 3) := by decide +kernel
theorem dX7_setMark_51 : decode cX7_setMark 51 = .ok (.invokevirtual 229, 3) := by decide +kernel
theorem dX7_setMark_54 : decode cX7_setMark 54 = .ok (.aload_n 2, 1) := by decide +kernel
theorem dX7_setMark_55 : decode cX7_setMark 55 = .ok (.iload_n 3, 1) := by decide +kernel
theorem dX7_setMark_56 : decode cX7_setMark 56 = .ok (.putfield 233, 3) := by decide +kernel
theorem dX7_setMark_59 : decode cX7_setMark 59 = .ok (.iload_n 3, 1) := by decide +kernel
theorem dX7_setMark_60 : decode cX7_setMark 60 = .ok (.ireturn, 1) := by decide +kernel
theorem dX7_setCurve_0 : decode cX7_setCurve 0 = .ok (.iload_n 1, 1) := by decide +kernel
theorem dX7_setCurve_1 : decode cX7_setCurve 1 = .ok (.invokestatic 127, 3) := by decide +kernel
theorem dX7_setCurve_4 : decode cX7_setCurve 4 = .ok (.iload_n 2, 1) := by decide +kernel
theorem dX7_setCurve_5 : decode cX7_setCurve 5 = .ok (.sipush (-9999), 3) := by decide +kernel
theorem dX7_setCurve_8 : decode cX7_setCurve 8 = .ok (.sipush 9999, 3) := by decide +kernel
theorem dX7_setCurve_11 : decode cX7_setCurve 11 = .ok (.invokestatic 60, 3) := by decide +kernel
theorem dX7_setCurve_14 : decode cX7_setCurve 14 = .ok (.aload_n 0, 1) := by decide +kernel
theorem dX7_setCurve_15 : decode cX7_setCurve 15 = .ok (.getfield 25, 3) := by decide +kernel
theorem dX7_setCurve_18 : decode cX7_setCurve 18 = .ok (.aload_n 0, 1) := by decide +kernel
theorem dX7_setCurve_19 : decode cX7_setCurve 19 = .ok (.getfield 10, 3) := by decide +kernel
theorem dX7_setCurve_22 : decode cX7_setCurve 22 = .ok (.invokevirtual 229, 3) := by decide +kernel
theorem dX7_setCurve_25 : decode cX7_setCurve 25 = .ok (.aload_n 0, 1) := by decide +kernel
theorem dX7_setCurve_26 : decode cX7_setCurve 26 = .ok (.getfield 10, 3) := by decide +kernel
theorem dX7_setCurve_29 : decode cX7_setCurve 29 = .ok (.iload_n 1, 1) := by decide +kernel
theorem dX7_setCurve_30 : decode cX7_setCurve 30 = .ok (.invokevirtual 130, 3) := by decide +kernel
theorem dX7_setCurve_33 : decode cX7_setCurve 33 = .ok (.iload_n 2, 1) := by decide +kernel
theorem dX7_setCurve_34 : decode cX7_setCurve 34 = .ok (.putfield 142, 3) := by decide +kernel
theorem dX7_setCurve_37 : decode cX7_setCurve 37 = .ok (.aload_n 0, 1) := by decide +kernel
theorem dX7_setCurve_38 : decode cX7_setCurve 38 = .ok (.getfield 10, 3) := by decide +kernel
theorem dX7_setCurve_41 : decode cX7_setCurve 41 = .ok (.invokevirtual 85, 3) := by decide +kernel
theorem dX7_setCurve_44 : decode cX7_setCurve 44 = .ok (.ireturn, 1) := by decide +kernel
theorem dX7_mend_0 : decode cX7_mend 0 = .ok (.aload_n 0, 1) := by decide +kernel
theorem dX7_mend_1 : decode cX7_mend 1 = .ok (.iload_n 1, 1) := by decide +kernel
theorem dX7_mend_2 : decode cX7_mend 2 = .ok (.invokevirtual 166, 3) := by decide +kernel
theorem dX7_mend_5 : decode cX7_mend 5 = .ok (.aload_n 0, 1) := by decide +kernel
theorem dX7_mend_6 : decode cX7_mend 6 = .ok (.getfield 10, 3) := by decide +kernel
theorem dX7_mend_9 : decode cX7_mend 9 = .ok (.iload_n 1, 1) := by decide +kernel
theorem dX7_mend_10 : decode cX7_mend 10 = .ok (.invokevirtual 175, 3) := by decide +kernel
theorem dX7_mend_13 : decode cX7_mend 13 = .ok (.astore_n 2, 1) := by decide +kernel
theorem dX7_mend_14 : decode cX7_mend 14 = .ok (.aload_n 2, 1) := by decide +kernel
theorem dX7_mend_15 : decode cX7_mend 15 = .ok (.getfield 179, 3) := by decide +kernel
theorem dX7_mend_18 : decode cX7_mend 18 = .ok (.ifCond .ne 6, 3) := by decide +kernel
theorem dX7_mend_21 : decode cX7_mend 21 = .ok (.bipush (-2), 2) := by decide +kernel
theorem dX7_mend_23 : decode cX7_mend 23 = .ok (.ireturn, 1) := by decide +kernel
theorem dX7_mend_24 : decode cX7_mend 24 = .ok (.aload_n 0, 1) := by decide +kernel
theorem dX7_mend_25 : decode cX7_mend 25 = .ok (.getfield 25, 3) := by decide +kernel
theorem dX7_mend_28 : decode cX7_mend 28 = .ok (.aload_n 0, 1) := by decide +kernel
theorem dX7_mend_29 : decode cX7_mend 29 = .ok (.getfield 10, 3) := by decide +kernel
theorem dX7_mend_32 : decode cX7_mend 32 = .ok (.invokevirtual 229, 3) := by decide +kernel
theorem dX7_mend_35 : decode cX7_mend 35 = .ok (.aload_n 2, 1) := by decide +kernel
theorem dX7_mend_36 : decode cX7_mend 36 = .ok (.iconst 0, 1) := by decide +kernel
theorem dX7_mend_37 : decode cX7_mend 37 = .ok (.putfield 179, 3) := by decide +kernel
theorem dX7_mend_40 : decode cX7_mend 40 = .ok (.aload_n 0, 1) := by decide +kernel
theorem dX7_mend_41 : decode cX7_mend 41 = .ok (.getfield 10, 3) := by decide +kernel
theorem dX7_mend_44 : decode cX7_mend 44 = .ok (.invokevirtual 85, 3) := by decide +kernel
theorem dX7_mend_47 : decode cX7_mend 47 = .ok (.pop, 1) := by decide +kernel
theorem dX7_mend_48 : decode cX7_mend 48 = .ok (.aload_n 2, 1) := by decide +kernel
theorem dX7_mend_49 : decode cX7_mend 49 = .ok (.getfield 179, 3) := by decide +kernel
theorem dX7_mend_52 : decode cX7_mend 52 = .ok (.ireturn, 1) := by decide +kernel
theorem dX7_refill_0 : decode cX7_refill 0 = .ok (.iload_n 1, 1) := by decide +kernel
theorem dX7_refill_1 : decode cX7_refill 1 = .ok (.invokestatic 127, 3) := by decide +kernel
theorem dX7_refill_4 : decode cX7_refill 4 = .ok (.iload_n 2, 1) := by decide +kernel
theorem dX7_refill_5 : decode cX7_refill 5 = .ok (.iconst 1, 1) := by decide +kernel
theorem dX7_refill_6 : decode cX7_refill 6 = .ok (.ldc 236, 2) := by decide +kernel
theorem dX7_refill_8 : decode cX7_refill 8 = .ok (.invokestatic 60, 3) := by decide +kernel
theorem dX7_refill_11 : decode cX7_refill 11 = .ok (.aload_n 0, 1) := by decide +kernel
theorem dX7_refill_12 : decode cX7_refill 12 = .ok (.getfield 10, 3) := by decide +kernel
theorem dX7_refill_15 : decode cX7_refill 15 = .ok (.iload_n 1, 1) := by decide +kernel
theorem dX7_refill_16 : decode cX7_refill 16 = .ok (.invokevirtual 130, 3) := by decide +kernel
theorem dX7_refill_19 : decode cX7_refill 19 = .ok (.astore_n 3, 1) := by decide +kernel
theorem dX7_refill_20 : decode cX7_refill 20 = .ok (.aload_n 3, 1) := by decide +kernel
theorem dX7_refill_21 : decode cX7_refill 21 = .ok (.getfield 161, 3) := by decide +kernel
theorem dX7_refill_24 : decode cX7_refill 24 = .ok (.iload_n 2, 1) := by decide +kernel
theorem dX7_refill_25 : decode cX7_refill 25 = .ok (.i2l, 1) := by decide +kernel
theorem dX7_refill_26 : decode cX7_refill 26 = .ok (.ladd, 1) := by decide +kernel
theorem dX7_refill_27 : decode cX7_refill 27 = .ok (.ldc2_w 237, 3) := by decide +kernel
theorem dX7_refill_30 : decode cX7_refill 30 = .ok (.lcmp, 1) := by decide +kernel
theorem dX7_refill_31 : decode cX7_refill 31 = .ok (.ifCond .le 6, 3) := by decide +kernel
theorem dX7_refill_34 : decode cX7_refill 34 = .ok (.bipush (-2), 2) := by decide +kernel
theorem dX7_refill_36 : decode cX7_refill 36 = .ok (.ireturn, 1) := by decide +kernel
theorem dX7_refill_37 : decode cX7_refill 37 = .ok (.aload_n 0, 1) := by decide +kernel
theorem dX7_refill_38 : decode cX7_refill 38 = .ok (.getfield 25, 3) := by decide +kernel
theorem dX7_refill_41 : decode cX7_refill 41 = .ok (.aload_n 0, 1) := by decide +kernel
theorem dX7_refill_42 : decode cX7_refill 42 = .ok (.getfield 10, 3) := by decide +kernel
theorem dX7_refill_45 : decode cX7_refill 45 = .ok (.invokevirtual 229, 3) := by decide +kernel
theorem dX7_refill_48 : decode cX7_refill 48 = .ok (.aload_n 3, 1) := by decide +kernel
theorem dX7_refill_49 : decode cX7_refill 49 = .ok (.dup, 1) := by decide +kernel
theorem dX7_refill_50 : decode cX7_refill 50 = .ok (.getfield 155, 3) := by decide +kernel
theorem dX7_refill_53 : decode cX7_refill 53 = .ok (.iload_n 2, 1) := by decide +kernel
theorem dX7_refill_54 : decode cX7_refill 54 = .ok (.i2l, 1) := by decide +kernel
theorem dX7_refill_55 : decode cX7_refill 55 = .ok (.ladd, 1) := by decide +kernel
theorem dX7_refill_56 : decode cX7_refill 56 = .ok (.putfield 155, 3) := by decide +kernel
theorem dX7_refill_59 : decode cX7_refill 59 = .ok (.aload_n 3, 1) := by decide +kernel
theorem dX7_refill_60 : decode cX7_refill 60 = .ok (.dup, 1) := by decide +kernel
theorem dX7_refill_61 : decode cX7_refill 61 = .ok (.getfield 161, 3) := by decide +kernel
theorem dX7_refill_64 : decode cX7_refill 64 = .ok (.iload_n 2, 1) := by decide +kernel
theorem dX7_refill_65 : decode cX7_refill 65 = .ok (.i2l, 1) := by decide +kernel
theorem dX7_refill_66 : decode cX7_refill 66 = .ok (.ladd, 1) := by decide +kernel
theorem dX7_refill_67 : decode cX7_refill 67 = .ok (.putfield 161, 3) := by decide +kernel
theorem dX7_refill_70 : decode cX7_refill 70 = .ok (.aload_n 0, 1) := by decide +kernel
theorem dX7_refill_71 : decode cX7_refill 71 = .ok (.getfield 10, 3) := by decide +kernel
theorem dX7_refill_74 : decode cX7_refill 74 = .ok (.invokevirtual 85, 3) := by decide +kernel
theorem dX7_refill_77 : decode cX7_refill 77 = .ok (.ireturn, 1) := by decide +kernel
theorem dX7_addTube_0 : decode cX7_addTube 0 = .ok (.iload_n 1, 1) := by decide +kernel
theorem dX7_addTube_1 : decode cX7_addTube 1 = .ok (.invokestatic 127, 3) := by decide +kernel
theorem dX7_addTube_4 : decode cX7_addTube 4 = .ok (.aload_n 0, 1) := by decide +kernel
theorem dX7_addTube_5 : decode cX7_addTube 5 = .ok (.iload_n 2, 1) := by decide +kernel
theorem dX7_addTube_6 : decode cX7_addTube 6 = .ok (.invokevirtual 121, 3) := by decide +kernel
theorem dX7_addTube_9 : decode cX7_addTube 9 = .ok (.iload_n 3, 1) := by decide +kernel
theorem dX7_addTube_10 : decode cX7_addTube 10 = .ok (.iconst 1, 1) := by decide +kernel
theorem dX7_addTube_11 : decode cX7_addTube 11 = .ok (.bipush 20, 2) := by decide +kernel
theorem dX7_addTube_13 : decode cX7_addTube 13 = .ok (.invokestatic 60, 3) := by decide +kernel
theorem dX7_addTube_16 : decode cX7_addTube 16 = .ok (.iload 4, 2) := by decide +kernel
theorem dX7_addTube_18 : decode cX7_addTube 18 = .ok (.bipush 50, 2) := by decide +kernel
theorem dX7_addTube_20 : decode cX7_addTube 20 = .ok (.sipush 1000, 3) := by decide +kernel
theorem dX7_addTube_23 : decode cX7_addTube 23 = .ok (.invokestatic 60, 3) := by decide +kernel
theorem dX7_addTube_26 : decode cX7_addTube 26 = .ok (.iload 5, 2) := by decide +kernel
theorem dX7_addTube_28 : decode cX7_addTube 28 = .ok (.bipush 10, 2) := by decide +kernel
theorem dX7_addTube_30 : decode cX7_addTube 30 = .ok (.sipush 2000, 3) := by decide +kernel
theorem dX7_addTube_33 : decode cX7_addTube 33 = .ok (.invokestatic 60, 3) := by decide +kernel
theorem dX7_addTube_36 : decode cX7_addTube 36 = .ok (.aload_n 0, 1) := by decide +kernel
theorem dX7_addTube_37 : decode cX7_addTube 37 = .ok (.getfield 10, 3) := by decide +kernel
theorem dX7_addTube_40 : decode cX7_addTube 40 = .ok (.getfield 108, 3) := by decide +kernel
theorem dX7_addTube_43 : decode cX7_addTube 43 = .ok (.bipush 12, 2) := by decide +kernel
theorem dX7_addTube_45 : decode cX7_addTube 45 = .ok (.if_icmp .lt 6, 3) := by decide +kernel
theorem dX7_addTube_48 : decode cX7_addTube 48 = .ok (.bipush (-2), 2) := by decide +kernel
theorem dX7_addTube_50 : decode cX7_addTube 50 = .ok (.ireturn, 1) := by decide +kernel
theorem dX7_addTube_51 : decode cX7_addTube 51 = .ok (.aload_n 0, 1) := by decide +kernel
theorem dX7_addTube_52 : decode cX7_addTube 52 = .ok (.getfield 25, 3) := by decide +kernel
theorem dX7_addTube_55 : decode cX7_addTube 55 = .ok (.aload_n 0, 1) := by decide +kernel
theorem dX7_addTube_56 : decode cX7_addTube 56 = .ok (.getfield 10, 3) := by decide +kernel
theorem dX7_addTube_59 : decode cX7_addTube 59 = .ok (.invokevirtual 229, 3) := by decide +kernel
theorem dX7_addTube_62 : decode cX7_addTube 62 = .ok (.aload_n 0, 1) := by decide +kernel
theorem dX7_addTube_63 : decode cX7_addTube 63 = .ok (.getfield 10, 3) := by decide +kernel
theorem dX7_addTube_66 : decode cX7_addTube 66 = .ok (.invokevirtual 239, 3) := by decide +kernel
theorem dX7_addTube_69 : decode cX7_addTube 69 = .ok (.astore 6, 2) := by decide +kernel
theorem dX7_addTube_71 : decode cX7_addTube 71 = .ok (.aload 6, 2) := by decide +kernel
theorem dX7_addTube_73 : decode cX7_addTube 73 = .ok (.iload_n 1, 1) := by decide +kernel
theorem dX7_addTube_74 : decode cX7_addTube 74 = .ok (.iload_n 2, 1) := by decide +kernel
theorem dX7_addTube_75 : decode cX7_addTube 75 = .ok (.invokevirtual 242, 3) := by decide +kernel
theorem dX7_addTube_78 : decode cX7_addTube 78 = .ok (.aload 6, 2) := by decide +kernel
theorem dX7_addTube_80 : decode cX7_addTube 80 = .ok (.iload_n 3, 1) := by decide +kernel
theorem dX7_addTube_81 : decode cX7_addTube 81 = .ok (.iload 4, 2) := by decide +kernel
theorem dX7_addTube_83 : decode cX7_addTube 83 = .ok (.iload 5, 2) := by decide +kernel
theorem dX7_addTube_85 : decode cX7_addTube 85 = .ok (.invokevirtual 245, 3) := by decide +kernel
theorem dX7_addTube_88 : decode cX7_addTube 88 = .ok (.aload_n 0, 1) := by decide +kernel
theorem dX7_addTube_89 : decode cX7_addTube 89 = .ok (.getfield 10, 3) := by decide +kernel
theorem dX7_addTube_92 : decode cX7_addTube 92 = .ok (.invokevirtual 85, 3) := by decide +kernel
theorem dX7_addTube_95 : decode cX7_addTube 95 = .ok (.pop, 1) := by decide +kernel
theorem dX7_addTube_96 : decode cX7_addTube 96 = .ok (.aload_n 0, 1) := by decide +kernel
theorem dX7_addTube_97 : decode cX7_addTube 97 = .ok (.getfield 10, 3) := by decide +kernel
theorem dX7_addTube_100 : decode cX7_addTube 100 = .ok (.getfield 108, 3) := by decide +kernel
theorem dX7_addTube_103 : decode cX7_addTube 103 = .ok (.iconst 1, 1) := by decide +kernel
theorem dX7_addTube_104 : decode cX7_addTube 104 = .ok (.isub, 1) := by decide +kernel
theorem dX7_addTube_105 : decode cX7_addTube 105 = .ok (.ireturn, 1) := by decide +kernel
theorem dX7_dropTube_0 : decode cX7_dropTube 0 = .ok (.aload_n 0, 1) := by decide +kernel
theorem dX7_dropTube_1 : decode cX7_dropTube 1 = .ok (.iload_n 1, 1) := by decide +kernel
theorem dX7_dropTube_2 : decode cX7_dropTube 2 = .ok (.invokevirtual 166, 3) := by decide +kernel
theorem dX7_dropTube_5 : decode cX7_dropTube 5 = .ok (.aload_n 0, 1) := by decide +kernel
theorem dX7_dropTube_6 : decode cX7_dropTube 6 = .ok (.getfield 25, 3) := by decide +kernel
theorem dX7_dropTube_9 : decode cX7_dropTube 9 = .ok (.aload_n 0, 1) := by decide +kernel
theorem dX7_dropTube_10 : decode cX7_dropTube 10 = .ok (.getfield 10, 3) := by decide +kernel
theorem dX7_dropTube_13 : decode cX7_dropTube 13 = .ok (.invokevirtual 229, 3) := by decide +kernel
theorem dX7_dropTube_16 : decode cX7_dropTube 16 = .ok (.aload_n 0, 1) := by decide +kernel
theorem dX7_dropTube_17 : decode cX7_dropTube 17 = .ok (.getfield 10, 3) := by decide +kernel
theorem dX7_dropTube_20 : decode cX7_dropTube 20 = .ok (.iload_n 1, 1) := by decide +kernel
theorem dX7_dropTube_21 : decode cX7_dropTube 21 = .ok (.invokevirtual 248, 3) := by decide +kernel
theorem dX7_dropTube_24 : decode cX7_dropTube 24 = .ok (.aload_n 0, 1) := by decide +kernel
theorem dX7_dropTube_25 : decode cX7_dropTube 25 = .ok (.getfield 10, 3) := by decide +kernel
theorem dX7_dropTube_28 : decode cX7_dropTube 28 = .ok (.invokevirtual 85, 3) := by decide +kernel
theorem dX7_dropTube_31 : decode cX7_dropTube 31 = .ok (.pop, 1) := by decide +kernel
theorem dX7_dropTube_32 : decode cX7_dropTube 32 = .ok (.aload_n 0, 1) := by decide +kernel
theorem dX7_dropTube_33 : decode cX7_dropTube 33 = .ok (.getfield 10, 3) := by decide +kernel
theorem dX7_dropTube_36 : decode cX7_dropTube 36 = .ok (.getfield 108, 3) := by decide +kernel
theorem dX7_dropTube_39 : decode cX7_dropTube 39 = .ok (.ireturn, 1) := by decide +kernel
theorem dX7_requirePoint_0 : decode cX7_requirePoint 0 = .ok (.iload_n 1, 1) := by decide +kernel
theorem dX7_requirePoint_1 : decode cX7_requirePoint 1 = .ok (.ifCond .lt 14, 3) := by decide +kernel
theorem dX7_requirePoint_4 : decode cX7_requirePoint 4 = .ok (.iload_n 1, 1) := by decide +kernel
theorem dX7_requirePoint_5 : decode cX7_requirePoint 5 = .ok (.aload_n 0, 1) := by decide +kernel
theorem dX7_requirePoint_6 : decode cX7_requirePoint 6 = .ok (.getfield 10, 3) := by decide +kernel
theorem dX7_requirePoint_9 : decode cX7_requirePoint 9 = .ok (.getfield 102, 3) := by decide +kernel
theorem dX7_requirePoint_12 : decode cX7_requirePoint 12 = .ok (.if_icmp .lt 14, 3) := by decide +kernel
theorem dX7_requirePoint_15 : decode cX7_requirePoint 15 = .ok (.new 114, 3) := by decide +kernel
theorem dX7_requirePoint_18 : decode cX7_requirePoint 18 = .ok (.dup, 1) := by decide +kernel
theorem dX7_requirePoint_19 : decode cX7_requirePoint 19 = .ok (.ldc_w 304, 3) := by decide +kernel
theorem dX7_requirePoint_22 : decode cX7_requirePoint 22 = .ok (.invokespecial 118, 3) := by decide +kernel
theorem dX7_requirePoint_25 : decode cX7_requirePoint 25 = .ok (.athrow, 1) := by decide +kernel
theorem dX7_requirePoint_26 : decode cX7_requirePoint 26 = .ok (.return_, 1) := by decide +kernel
theorem dX7_requireTube_0 : decode cX7_requireTube 0 = .ok (.iload_n 1, 1) := by decide +kernel
theorem dX7_requireTube_1 : decode cX7_requireTube 1 = .ok (.ifCond .lt 14, 3) := by decide +kernel
theorem dX7_requireTube_4 : decode cX7_requireTube 4 = .ok (.iload_n 1, 1) := by decide +kernel
theorem dX7_requireTube_5 : decode cX7_requireTube 5 = .ok (.aload_n 0, 1) := by decide +kernel
theorem dX7_requireTube_6 : decode cX7_requireTube 6 = .ok (.getfield 10, 3) := by decide +kernel
theorem dX7_requireTube_9 : decode cX7_requireTube 9 = .ok (.getfield 108, 3) := by decide +kernel
theorem dX7_requireTube_12 : decode cX7_requireTube 12 = .ok (.if_icmp .lt 14, 3) := by decide +kernel
theorem dX7_requireTube_15 : decode cX7_requireTube 15 = .ok (.new 114, 3) := by decide +kernel
theorem dX7_requireTube_18 : decode cX7_requireTube 18 = .ok (.dup, 1) := by decide +kernel
theorem dX7_requireTube_19 : decode cX7_requireTube 19 = .ok (.ldc_w 306, 3) := by decide +kernel
theorem dX7_requireTube_22 : decode cX7_requireTube 22 = .ok (.invokespecial 118, 3) := by decide +kernel
theorem dX7_requireTube_25 : decode cX7_requireTube 25 = .ok (.athrow, 1) := by decide +kernel
theorem dX7_requireTube_26 : decode cX7_requireTube 26 = .ok (.return_, 1) := by decide +kernel
theorem dX7_requireLeg_0 : decode cX7_requireLeg 0 = .ok (.iload_n 0, 1) := by decide +kernel
theorem dX7_requireLeg_1 : decode cX7_requireLeg 1 = .ok (.ifCond .eq 19, 3) := by decide +kernel
theorem dX7_requireLeg_4 : decode cX7_requireLeg 4 = .ok (.iload_n 0, 1) := by decide +kernel
theorem dX7_requireLeg_5 : decode cX7_requireLeg 5 = .ok (.iconst 1, 1) := by decide +kernel
theorem dX7_requireLeg_6 : decode cX7_requireLeg 6 = .ok (.if_icmp .eq 14, 3) := by decide +kernel
theorem dX7_requireLeg_9 : decode cX7_requireLeg 9 = .ok (.new 114, 3) := by decide +kernel
theorem dX7_requireLeg_12 : decode cX7_requireLeg 12 = .ok (.dup, 1) := by decide +kernel
theorem dX7_requireLeg_13 : decode cX7_requireLeg 13 = .ok (.ldc_w 308, 3) := by decide +kernel
theorem dX7_requireLeg_16 : decode cX7_requireLeg 16 = .ok (.invokespecial 118, 3) := by decide +kernel
theorem dX7_requireLeg_19 : decode cX7_requireLeg 19 = .ok (.athrow, 1) := by decide +kernel
theorem dX7_requireLeg_20 : decode cX7_requireLeg 20 = .ok (.return_, 1) := by decide +kernel
theorem dX7_requireWithin_0 : decode cX7_requireWithin 0 = .ok (.iload_n 0, 1) := by decide +kernel
theorem dX7_requireWithin_1 : decode cX7_requireWithin 1 = .ok (.iload_n 1, 1) := by decide +kernel
theorem dX7_requireWithin_2 : decode cX7_requireWithin 2 = .ok (.if_icmp .lt 8, 3) := by decide +kernel
theorem dX7_requireWithin_5 : decode cX7_requireWithin 5 = .ok (.iload_n 0, 1) := by decide +kernel
theorem dX7_requireWithin_6 : decode cX7_requireWithin 6 = .ok (.iload_n 2, 1) := by decide +kernel
theorem dX7_requireWithin_7 : decode cX7_requireWithin 7 = .ok (.if_icmp .le 14, 3) := by decide +kernel
theorem dX7_requireWithin_10 : decode cX7_requireWithin 10 = .ok (.new 310, 3) := by decide +kernel
theorem dX7_requireWithin_13 : decode cX7_requireWithin 13 = .ok (.dup, 1) := by decide +kernel
theorem dX7_requireWithin_14 : decode cX7_requireWithin 14 = .ok (.ldc_w 312, 3) := by decide +kernel
theorem dX7_requireWithin_17 : decode cX7_requireWithin 17 = .ok (.invokespecial 314, 3) := by decide +kernel
theorem dX7_requireWithin_20 : decode cX7_requireWithin 20 = .ok (.athrow, 1) := by decide +kernel
theorem dX7_requireWithin_21 : decode cX7_requireWithin 21 = .ok (.return_, 1) := by decide +kernel
theorem dL_init_0 : decode cL_init 0 = .ok (.aload_n 0, 1) := by decide +kernel
theorem dL_init_1 : decode cL_init 1 = .ok (.invokespecial 1, 3) := by decide +kernel
theorem dL_init_4 : decode cL_init 4 = .ok (.aload_n 0, 1) := by decide +kernel
theorem dL_init_5 : decode cL_init 5 = .ok (.sipush 700, 3) := by decide +kernel
theorem dL_init_8 : decode cL_init 8 = .ok (.newarray .int, 2) := by decide +kernel
theorem dL_init_10 : decode cL_init 10 = .ok (.putfield 7, 3) := by decide +kernel
theorem dL_init_13 : decode cL_init 13 = .ok (.return_, 1) := by decide +kernel
theorem dL_writes_0 : decode cL_writes 0 = .ok (.iconst 0, 1) := by decide +kernel
theorem dL_writes_1 : decode cL_writes 1 = .ok (.istore_n 2, 1) := by decide +kernel
theorem dL_writes_2 : decode cL_writes 2 = .ok (.iload_n 2, 1) := by decide +kernel
theorem dL_writes_3 : decode cL_writes 3 = .ok (.aload_n 1, 1) := by decide +kernel
theorem dL_writes_4 : decode cL_writes 4 = .ok (.invokevirtual 13, 3) := by decide +kernel
theorem dL_writes_7 : decode cL_writes 7 = .ok (.if_icmp .ge 33, 3) := by decide +kernel
theorem dL_writes_10 : decode cL_writes 10 = .ok (.aload_n 0, 1) := by decide +kernel
theorem dL_writes_11 : decode cL_writes 11 = .ok (.getfield 7, 3) := by decide +kernel
theorem dL_writes_14 : decode cL_writes 14 = .ok (.aload_n 0, 1) := by decide +kernel
theorem dL_writes_15 : decode cL_writes 15 = .ok (.getfield 19, 3) := by decide +kernel
theorem dL_writes_18 : decode cL_writes 18 = .ok (.aload_n 1, 1) := by decide +kernel
theorem dL_writes_19 : decode cL_writes 19 = .ok (.iload_n 2, 1) := by decide +kernel
theorem dL_writes_20 : decode cL_writes 20 = .ok (.invokevirtual 23, 3) := by decide +kernel
theorem dL_writes_23 : decode cL_writes 23 = .ok (.iastore, 1) := by decide +kernel
theorem dL_writes_24 : decode cL_writes 24 = .ok (.aload_n 0, 1) := by decide +kernel
theorem dL_writes_25 : decode cL_writes 25 = .ok (.dup, 1) := by decide +kernel
theorem dL_writes_26 : decode cL_writes 26 = .ok (.getfield 19, 3) := by decide +kernel
theorem dL_writes_29 : decode cL_writes 29 = .ok (.iconst 1, 1) := by decide +kernel
theorem dL_writes_30 : decode cL_writes 30 = .ok (.iadd, 1) := by decide +kernel
theorem dL_writes_31 : decode cL_writes 31 = .ok (.putfield 19, 3) := by decide +kernel
theorem dL_writes_34 : decode cL_writes 34 = .ok (.iinc 2 1, 3) := by decide +kernel
theorem dL_writes_37 : decode cL_writes 37 = .ok (.goto (-35), 3) := by decide +kernel
theorem dL_writes_40 : decode cL_writes 40 = .ok (.return_, 1) := by decide +kernel
theorem dL_spaced_0 : decode cL_spaced 0 = .ok (.aload_n 0, 1) := by decide +kernel
theorem dL_spaced_1 : decode cL_spaced 1 = .ok (.iload_n 1, 1) := by decide +kernel
theorem dL_spaced_2 : decode cL_spaced 2 = .ok (.ifCond .ge 8, 3) := by decide +kernel
theorem dL_spaced_5 : decode cL_spaced 5 = .ok (.ldc 27, 2) := by decide +kernel
theorem dL_spaced_7 : decode cL_spaced 7 = .ok (.goto 5, 3) := by decide +kernel
theorem dL_spaced_10 : decode cL_spaced 10 = .ok (.ldc 29, 2) := by decide +kernel
theorem dL_spaced_12 : decode cL_spaced 12 = .ok (.invokevirtual 31, 3) := by decide +kernel
theorem dL_spaced_15 : decode cL_spaced 15 = .ok (.iload_n 1, 1) := by decide +kernel
theorem dL_spaced_16 : decode cL_spaced 16 = .ok (.ifCond .ge 8, 3) := by decide +kernel
theorem dL_spaced_19 : decode cL_spaced 19 = .ok (.iload_n 1, 1) := by decide +kernel
theorem dL_spaced_20 : decode cL_spaced 20 = .ok (.ineg, 1) := by decide +kernel
theorem dL_spaced_21 : decode cL_spaced 21 = .ok (.goto 4, 3) := by decide +kernel
theorem dL_spaced_24 : decode cL_spaced 24 = .ok (.iload_n 1, 1) := by decide +kernel
theorem dL_spaced_25 : decode cL_spaced 25 = .ok (.istore_n 2, 1) := by decide +kernel
theorem dL_spaced_26 : decode cL_spaced 26 = .ok (.iconst 1, 1) := by decide +kernel
theorem dL_spaced_27 : decode cL_spaced 27 = .ok (.istore_n 3, 1) := by decide +kernel
theorem dL_spaced_28 : decode cL_spaced 28 = .ok (.iload_n 2, 1) := by decide +kernel
theorem dL_spaced_29 : decode cL_spaced 29 = .ok (.iload_n 3, 1) := by decide +kernel
theorem dL_spaced_30 : decode cL_spaced 30 = .ok (.idiv, 1) := by decide +kernel
theorem dL_spaced_31 : decode cL_spaced 31 = .ok (.bipush 9, 2) := by decide +kernel
theorem dL_spaced_33 : decode cL_spaced 33 = .ok (.if_icmp .le 11, 3) := by decide +kernel
theorem dL_spaced_36 : decode cL_spaced 36 = .ok (.iload_n 3, 1) := by decide +kernel
theorem dL_spaced_37 : decode cL_spaced 37 = .ok (.bipush 10, 2) := by decide +kernel
theorem dL_spaced_39 : decode cL_spaced 39 = .ok (.imul, 1) := by decide +kernel
theorem dL_spaced_40 : decode cL_spaced 40 = .ok (.istore_n 3, 1) := by decide +kernel
theorem dL_spaced_41 : decode cL_spaced 41 = .ok (.goto (-13), 3) := by decide +kernel
theorem dL_spaced_44 : decode cL_spaced 44 = .ok (.iload_n 3, 1) := by decide +kernel
theorem dL_spaced_45 : decode cL_spaced 45 = .ok (.ifCond .le 39, 3) := by decide +kernel
theorem dL_spaced_48 : decode cL_spaced 48 = .ok (.aload_n 0, 1) := by decide +kernel
theorem dL_spaced_49 : decode cL_spaced 49 = .ok (.getfield 7, 3) := by decide +kernel
theorem dL_spaced_52 : decode cL_spaced 52 = .ok (.aload_n 0, 1) := by decide +kernel
theorem dL_spaced_53 : decode cL_spaced 53 = .ok (.getfield 19, 3) := by decide +kernel
theorem dL_spaced_56 : decode cL_spaced 56 = .ok (.bipush 48, 2) := by decide +kernel
theorem dL_spaced_58 : decode cL_spaced 58 = .ok (.iload_n 2, 1) := by decide +kernel
theorem dL_spaced_59 : decode cL_spaced 59 = .ok (.iload_n 3, 1) := by decide +kernel
theorem dL_spaced_60 : decode cL_spaced 60 = .ok (.idiv, 1) := by decide +kernel
theorem dL_spaced_61 : decode cL_spaced 61 = .ok (.bipush 10, 2) := by decide +kernel
theorem dL_spaced_63 : decode cL_spaced 63 = .ok (.irem, 1) := by decide +kernel
theorem dL_spaced_64 : decode cL_spaced 64 = .ok (.iadd, 1) := by decide +kernel
theorem dL_spaced_65 : decode cL_spaced 65 = .ok (.iastore, 1) := by decide +kernel
theorem dL_spaced_66 : decode cL_spaced 66 = .ok (.aload_n 0, 1) := by decide +kernel
theorem dL_spaced_67 : decode cL_spaced 67 = .ok (.dup, 1) := by decide +kernel
theorem dL_spaced_68 : decode cL_spaced 68 = .ok (.getfield 19, 3) := by decide +kernel
theorem dL_spaced_71 : decode cL_spaced 71 = .ok (.iconst 1, 1) := by decide +kernel
theorem dL_spaced_72 : decode cL_spaced 72 = .ok (.iadd, 1) := by decide +kernel
theorem dL_spaced_73 : decode cL_spaced 73 = .ok (.putfield 19, 3) := by decide +kernel
theorem dL_spaced_76 : decode cL_spaced 76 = .ok (.iload_n 3, 1) := by decide +kernel
theorem dL_spaced_77 : decode cL_spaced 77 = .ok (.bipush 10, 2) := by decide +kernel
theorem dL_spaced_79 : decode cL_spaced 79 = .ok (.idiv, 1) := by decide +kernel
theorem dL_spaced_80 : decode cL_spaced 80 = .ok (.istore_n 3, 1) := by decide +kernel
theorem dL_spaced_81 : decode cL_spaced 81 = .ok (.goto (-37), 3) := by decide +kernel
theorem dL_spaced_84 : decode cL_spaced 84 = .ok (.return_, 1) := by decide +kernel
theorem dL_cell_0 : decode cL_cell 0 = .ok (.iload_n 1, 1) := by decide +kernel
theorem dL_cell_1 : decode cL_cell 1 = .ok (.aload_n 0, 1) := by decide +kernel
theorem dL_cell_2 : decode cL_cell 2 = .ok (.arraylength, 1) := by decide +kernel
theorem dL_cell_3 : decode cL_cell 3 = .ok (.if_icmp .ge 12, 3) := by decide +kernel
theorem dL_cell_6 : decode cL_cell 6 = .ok (.aload_n 0, 1) := by decide +kernel
theorem dL_cell_7 : decode cL_cell 7 = .ok (.iload_n 1, 1) := by decide +kernel
theorem dL_cell_8 : decode cL_cell 8 = .ok (.iaload, 1) := by decide +kernel
theorem dL_cell_9 : decode cL_cell 9 = .ok (.ldc 35, 2) := by decide +kernel
theorem dL_cell_11 : decode cL_cell 11 = .ok (.iand, 1) := by decide +kernel
theorem dL_cell_12 : decode cL_cell 12 = .ok (.goto 4, 3) := by decide +kernel
theorem dL_cell_15 : decode cL_cell 15 = .ok (.iconst 0, 1) := by decide +kernel
theorem dL_cell_16 : decode cL_cell 16 = .ok (.ireturn, 1) := by decide +kernel
theorem dL_feeds_0 : decode cL_feeds 0 = .ok (.iconst 0, 1) := by decide +kernel
theorem dL_feeds_1 : decode cL_feeds 1 = .ok (.istore_n 2, 1) := by decide +kernel
theorem dL_feeds_2 : decode cL_feeds 2 = .ok (.iload_n 2, 1) := by decide +kernel
theorem dL_feeds_3 : decode cL_feeds 3 = .ok (.aload_n 0, 1) := by decide +kernel
theorem dL_feeds_4 : decode cL_feeds 4 = .ok (.getfield 19, 3) := by decide +kernel
theorem dL_feeds_7 : decode cL_feeds 7 = .ok (.if_icmp .ge 90, 3) := by decide +kernel
theorem dL_feeds_10 : decode cL_feeds 10 = .ok (.iconst 5, 1) := by decide +kernel
theorem dL_feeds_11 : decode cL_feeds 11 = .ok (.newarray .int, 2) := by decide +kernel
theorem dL_feeds_13 : decode cL_feeds 13 = .ok (.astore_n 3, 1) := by decide +kernel
theorem dL_feeds_14 : decode cL_feeds 14 = .ok (.iconst 0, 1) := by decide +kernel
theorem dL_feeds_15 : decode cL_feeds 15 = .ok (.istore 4, 2) := by decide +kernel
theorem dL_feeds_17 : decode cL_feeds 17 = .ok (.iload 4, 2) := by decide +kernel
theorem dL_feeds_19 : decode cL_feeds 19 = .ok (.bipush 20, 2) := by decide +kernel
theorem dL_feeds_21 : decode cL_feeds 21 = .ok (.if_icmp .ge 50, 3) := by decide +kernel
theorem dL_feeds_24 : decode cL_feeds 24 = .ok (.aload_n 3, 1) := by decide +kernel
theorem dL_feeds_25 : decode cL_feeds 25 = .ok (.iload 4, 2) := by decide +kernel
theorem dL_feeds_27 : decode cL_feeds 27 = .ok (.iconst 4, 1) := by decide +kernel
theorem dL_feeds_28 : decode cL_feeds 28 = .ok (.idiv, 1) := by decide +kernel
theorem dL_feeds_29 : decode cL_feeds 29 = .ok (.aload_n 3, 1) := by decide +kernel
theorem dL_feeds_30 : decode cL_feeds 30 = .ok (.iload 4, 2) := by decide +kernel
theorem dL_feeds_32 : decode cL_feeds 32 = .ok (.iconst 4, 1) := by decide +kernel
theorem dL_feeds_33 : decode cL_feeds 33 = .ok (.idiv, 1) := by decide +kernel
theorem dL_feeds_34 : decode cL_feeds 34 = .ok (.iaload, 1) := by decide +kernel
theorem dL_feeds_35 : decode cL_feeds 35 = .ok (.bipush 8, 2) := by decide +kernel
theorem dL_feeds_37 : decode cL_feeds 37 = .ok (.ishl, 1) := by decide +kernel
theorem dL_feeds_38 : decode cL_feeds 38 = .ok (.iload_n 2, 1) := by decide +kernel
theorem dL_feeds_39 : decode cL_feeds 39 = .ok (.iload 4, 2) := by decide +kernel
theorem dL_feeds_41 : decode cL_feeds 41 = .ok (.iadd, 1) := by decide +kernel
theorem dL_feeds_42 : decode cL_feeds 42 = .ok (.aload_n 0, 1) := by decide +kernel
theorem dL_feeds_43 : decode cL_feeds 43 = .ok (.getfield 19, 3) := by decide +kernel
theorem dL_feeds_46 : decode cL_feeds 46 = .ok (.if_icmp .ge 15, 3) := by decide +kernel
theorem dL_feeds_49 : decode cL_feeds 49 = .ok (.aload_n 0, 1) := by decide +kernel
theorem dL_feeds_50 : decode cL_feeds 50 = .ok (.getfield 7, 3) := by decide +kernel
theorem dL_feeds_53 : decode cL_feeds 53 = .ok (.iload_n 2, 1) := by decide +kernel
theorem dL_feeds_54 : decode cL_feeds 54 = .ok (.iload 4, 2) := by decide +kernel
theorem dL_feeds_56 : decode cL_feeds 56 = .ok (.iadd, 1) := by decide +kernel
theorem dL_feeds_57 : decode cL_feeds 57 = .ok (.iaload, 1) := by decide +kernel
theorem dL_feeds_58 : decode cL_feeds 58 = .ok (.goto 5, 3) := by decide +kernel
theorem dL_feeds_61 : decode cL_feeds 61 = .ok (.bipush 32, 2) := by decide +kernel
theorem dL_feeds_63 : decode cL_feeds 63 = .ok (.ior, 1) := by decide +kernel
theorem dL_feeds_64 : decode cL_feeds 64 = .ok (.iastore, 1) := by decide +kernel
theorem dL_feeds_65 : decode cL_feeds 65 = .ok (.iinc 4 1, 3) := by decide +kernel
theorem dL_feeds_68 : decode cL_feeds 68 = .ok (.goto (-51), 3) := by decide +kernel
theorem dL_feeds_71 : decode cL_feeds 71 = .ok (.aload_n 1, 1) := by decide +kernel
theorem dL_feeds_72 : decode cL_feeds 72 = .ok (.aload_n 3, 1) := by decide +kernel
theorem dL_feeds_73 : decode cL_feeds 73 = .ok (.iconst 0, 1) := by decide +kernel
theorem dL_feeds_74 : decode cL_feeds 74 = .ok (.iaload, 1) := by decide +kernel
theorem dL_feeds_75 : decode cL_feeds 75 = .ok (.aload_n 3, 1) := by decide +kernel
theorem dL_feeds_76 : decode cL_feeds 76 = .ok (.iconst 1, 1) := by decide +kernel
theorem dL_feeds_77 : decode cL_feeds 77 = .ok (.iaload, 1) := by decide +kernel
theorem dL_feeds_78 : decode cL_feeds 78 = .ok (.aload_n 3, 1) := by decide +kernel
theorem dL_feeds_79 : decode cL_feeds 79 = .ok (.iconst 2, 1) := by decide +kernel
theorem dL_feeds_80 : decode cL_feeds 80 = .ok (.iaload, 1) := by decide +kernel
theorem dL_feeds_81 : decode cL_feeds 81 = .ok (.aload_n 3, 1) := by decide +kernel
theorem dL_feeds_82 : decode cL_feeds 82 = .ok (.iconst 3, 1) := by decide +kernel
theorem dL_feeds_83 : decode cL_feeds 83 = .ok (.iaload, 1) := by decide +kernel
theorem dL_feeds_84 : decode cL_feeds 84 = .ok (.aload_n 3, 1) := by decide +kernel
theorem dL_feeds_85 : decode cL_feeds 85 = .ok (.iconst 4, 1) := by decide +kernel
theorem dL_feeds_86 : decode cL_feeds 86 = .ok (.iaload, 1) := by decide +kernel
theorem dL_feeds_87 : decode cL_feeds 87 = .ok (.invokevirtual 36, 3) := by decide +kernel
theorem dL_feeds_90 : decode cL_feeds 90 = .ok (.pop, 1) := by decide +kernel
theorem dL_feeds_91 : decode cL_feeds 91 = .ok (.iinc 2 20, 3) := by decide +kernel
theorem dL_feeds_94 : decode cL_feeds 94 = .ok (.goto (-92), 3) := by decide +kernel
theorem dL_feeds_97 : decode cL_feeds 97 = .ok (.aload_n 0, 1) := by decide +kernel
theorem dL_feeds_98 : decode cL_feeds 98 = .ok (.getfield 19, 3) := by decide +kernel
theorem dL_feeds_101 : decode cL_feeds 101 = .ok (.istore_n 2, 1) := by decide +kernel
theorem dL_feeds_102 : decode cL_feeds 102 = .ok (.aload_n 0, 1) := by decide +kernel
theorem dL_feeds_103 : decode cL_feeds 103 = .ok (.iconst 0, 1) := by decide +kernel
theorem dL_feeds_104 : decode cL_feeds 104 = .ok (.putfield 19, 3) := by decide +kernel
theorem dL_feeds_107 : decode cL_feeds 107 = .ok (.iload_n 2, 1) := by decide +kernel
theorem dL_feeds_108 : decode cL_feeds 108 = .ok (.ireturn, 1) := by decide +kernel
theorem dL_loads_0 : decode cL_loads 0 = .ok (.aload_n 2, 1) := by decide +kernel
theorem dL_loads_1 : decode cL_loads 1 = .ok (.iconst 0, 1) := by decide +kernel
theorem dL_loads_2 : decode cL_loads 2 = .ok (.invokestatic 42, 3) := by decide +kernel
theorem dL_loads_5 : decode cL_loads 5 = .ok (.istore_n 3, 1) := by decide +kernel
theorem dL_loads_6 : decode cL_loads 6 = .ok (.iconst 2, 1) := by decide +kernel
theorem dL_loads_7 : decode cL_loads 7 = .ok (.iload_n 3, 1) := by decide +kernel
theorem dL_loads_8 : decode cL_loads 8 = .ok (.iconst 4, 1) := by decide +kernel
theorem dL_loads_9 : decode cL_loads 9 = .ok (.irem, 1) := by decide +kernel
theorem dL_loads_10 : decode cL_loads 10 = .ok (.iadd, 1) := by decide +kernel
theorem dL_loads_11 : decode cL_loads 11 = .ok (.istore 4, 2) := by decide +kernel
theorem dL_loads_13 : decode cL_loads 13 = .ok (.aload_n 0, 1) := by decide +kernel
theorem dL_loads_14 : decode cL_loads 14 = .ok (.ldc 46, 2) := by decide +kernel
theorem dL_loads_16 : decode cL_loads 16 = .ok (.invokevirtual 31, 3) := by decide +kernel
theorem dL_loads_19 : decode cL_loads 19 = .ok (.aload_n 0, 1) := by decide +kernel
theorem dL_loads_20 : decode cL_loads 20 = .ok (.iload 4, 2) := by decide +kernel
theorem dL_loads_22 : decode cL_loads 22 = .ok (.invokevirtual 48, 3) := by decide +kernel
theorem dL_loads_25 : decode cL_loads 25 = .ok (.aload_n 0, 1) := by decide +kernel
theorem dL_loads_26 : decode cL_loads 26 = .ok (.ldc 52, 2) := by decide +kernel
theorem dL_loads_28 : decode cL_loads 28 = .ok (.invokevirtual 48, 3) := by decide +kernel
theorem dL_loads_31 : decode cL_loads 31 = .ok (.aload_n 0, 1) := by decide +kernel
theorem dL_loads_32 : decode cL_loads 32 = .ok (.ldc 53, 2) := by decide +kernel
theorem dL_loads_34 : decode cL_loads 34 = .ok (.invokevirtual 31, 3) := by decide +kernel
theorem dL_loads_37 : decode cL_loads 37 = .ok (.iconst 0, 1) := by decide +kernel
theorem dL_loads_38 : decode cL_loads 38 = .ok (.istore 5, 2) := by decide +kernel
theorem dL_loads_40 : decode cL_loads 40 = .ok (.iload 5, 2) := by decide +kernel
theorem dL_loads_42 : decode cL_loads 42 = .ok (.iconst 2, 1) := by decide +kernel
theorem dL_loads_43 : decode cL_loads 43 = .ok (.if_icmp .ge 99, 3) := by decide +kernel
theorem dL_loads_46 : decode cL_loads 46 = .ok (.aload_n 2, 1) := by decide +kernel
theorem dL_loads_47 : decode cL_loads 47 = .ok (.iconst 1, 1) := by decide +kernel
theorem dL_loads_48 : decode cL_loads 48 = .ok (.iload 5, 2) := by decide +kernel
theorem dL_loads_50 : decode cL_loads 50 = .ok (.iadd, 1) := by decide +kernel
theorem dL_loads_51 : decode cL_loads 51 = .ok (.invokestatic 42, 3) := by decide +kernel
theorem dL_loads_54 : decode cL_loads 54 = .ok (.istore 6, 2) := by decide +kernel
theorem dL_loads_56 : decode cL_loads 56 = .ok (.aload_n 0, 1) := by decide +kernel
theorem dL_loads_57 : decode cL_loads 57 = .ok (.ldc 55, 2) := by decide +kernel
theorem dL_loads_59 : decode cL_loads 59 = .ok (.invokevirtual 31, 3) := by decide +kernel
theorem dL_loads_62 : decode cL_loads 62 = .ok (.aload_n 0, 1) := by decide +kernel
theorem dL_loads_63 : decode cL_loads 63 = .ok (.iload 5, 2) := by decide +kernel
theorem dL_loads_65 : decode cL_loads 65 = .ok (.invokevirtual 48, 3) := by decide +kernel
theorem dL_loads_68 : decode cL_loads 68 = .ok (.aload_n 0, 1) := by decide +kernel
theorem dL_loads_69 : decode cL_loads 69 = .ok (.sipush 500, 3) := by decide +kernel
theorem dL_loads_72 : decode cL_loads 72 = .ok (.iload 6, 2) := by decide +kernel
theorem dL_loads_74 : decode cL_loads 74 = .ok (.sipush 3000, 3) := by decide +kernel
theorem dL_loads_77 : decode cL_loads 77 = .ok (.irem, 1) := by decide +kernel
theorem dL_loads_78 : decode cL_loads 78 = .ok (.iadd, 1) := by decide +kernel
theorem dL_loads_79 : decode cL_loads 79 = .ok (.invokevirtual 48, 3) := by decide +kernel
theorem dL_loads_82 : decode cL_loads 82 = .ok (.aload_n 0, 1) := by decide +kernel
theorem dL_loads_83 : decode cL_loads 83 = .ok (.sipush 1000, 3) := by decide +kernel
theorem dL_loads_86 : decode cL_loads 86 = .ok (.iload 6, 2) := by decide +kernel
theorem dL_loads_88 : decode cL_loads 88 = .ok (.sipush 3000, 3) := by decide +kernel
theorem dL_loads_91 : decode cL_loads 91 = .ok (.idiv, 1) := by decide +kernel
theorem dL_loads_92 : decode cL_loads 92 = .ok (.sipush 30000, 3) := by decide +kernel
theorem dL_loads_95 : decode cL_loads 95 = .ok (.irem, 1) := by decide +kernel
theorem dL_loads_96 : decode cL_loads 96 = .ok (.iadd, 1) := by decide +kernel
theorem dL_loads_97 : decode cL_loads 97 = .ok (.invokevirtual 48, 3) := by decide +kernel
theorem dL_loads_100 : decode cL_loads 100 = .ok (.aload_n 0, 1) := by decide +kernel
theorem dL_loads_101 : decode cL_loads 101 = .ok (.iload_n 3, 1) := by decide +kernel
theorem dL_loads_102 : decode cL_loads 102 = .ok (.iconst 4, 1) := by decide +kernel
theorem dL_loads_103 : decode cL_loads 103 = .ok (.idiv, 1) := by decide +kernel
theorem dL_loads_104 : decode cL_loads 104 = .ok (.iconst 3, 1) := by decide +kernel
theorem dL_loads_105 : decode cL_loads 105 = .ok (.irem, 1) := by decide +kernel
theorem dL_loads_106 : decode cL_loads 106 = .ok (.ifCond .ne 20, 3) := by decide +kernel
theorem dL_loads_109 : decode cL_loads 109 = .ok (.iload 6, 2) := by decide +kernel
theorem dL_loads_111 : decode cL_loads 111 = .ok (.sipush 1000, 3) := by decide +kernel
theorem dL_loads_114 : decode cL_loads 114 = .ok (.idiv, 1) := by decide +kernel
theorem dL_loads_115 : decode cL_loads 115 = .ok (.sipush 2001, 3) := by decide +kernel
theorem dL_loads_118 : decode cL_loads 118 = .ok (.irem, 1) := by decide +kernel
theorem dL_loads_119 : decode cL_loads 119 = .ok (.sipush 1000, 3) := by decide +kernel
theorem dL_loads_122 : decode cL_loads 122 = .ok (.isub, 1) := by decide +kernel
theorem dL_loads_123 : decode cL_loads 123 = .ok (.goto 4, 3) := by decide +kernel
theorem dL_loads_126 : decode cL_loads 126 = .ok (.iconst 0, 1) := by decide +kernel
theorem dL_loads_127 : decode cL_loads 127 = .ok (.invokevirtual 48, 3) := by decide +kernel
theorem dL_loads_130 : decode cL_loads 130 = .ok (.aload_n 0, 1) := by decide +kernel
theorem dL_loads_131 : decode cL_loads 131 = .ok (.ldc 53, 2) := by decide +kernel
theorem dL_loads_133 : decode cL_loads 133 = .ok (.invokevirtual 31, 3) := by decide +kernel
theorem dL_loads_136 : decode cL_loads 136 = .ok (.iinc 5 1, 3) := by decide +kernel
theorem dL_loads_139 : decode cL_loads 139 = .ok (.goto (-99), 3) := by decide +kernel
theorem dL_loads_142 : decode cL_loads 142 = .ok (.iconst 0, 1) := by decide +kernel
theorem dL_loads_143 : decode cL_loads 143 = .ok (.istore 5, 2) := by decide +kernel
theorem dL_loads_145 : decode cL_loads 145 = .ok (.iload 5, 2) := by decide +kernel
theorem dL_loads_147 : decode cL_loads 147 = .ok (.iload 4, 2) := by decide +kernel
theorem dL_loads_149 : decode cL_loads 149 = .ok (.if_icmp .ge 52, 3) := by decide +kernel
theorem dL_loads_152 : decode cL_loads 152 = .ok (.aload_n 0, 1) := by decide +kernel
theorem dL_loads_153 : decode cL_loads 153 = .ok (.ldc 57, 2) := by decide +kernel
theorem dL_loads_155 : decode cL_loads 155 = .ok (.invokevirtual 31, 3) := by decide +kernel
theorem dL_loads_158 : decode cL_loads 158 = .ok (.aload_n 0, 1) := by decide +kernel
theorem dL_loads_159 : decode cL_loads 159 = .ok (.iload 5, 2) := by decide +kernel
theorem dL_loads_161 : decode cL_loads 161 = .ok (.invokevirtual 48, 3) := by decide +kernel
theorem dL_loads_164 : decode cL_loads 164 = .ok (.aload_n 0, 1) := by decide +kernel
theorem dL_loads_165 : decode cL_loads 165 = .ok (.ldc 52, 2) := by decide +kernel
theorem dL_loads_167 : decode cL_loads 167 = .ok (.aload_n 2, 1) := by decide +kernel
theorem dL_loads_168 : decode cL_loads 168 = .ok (.iconst 3, 1) := by decide +kernel
theorem dL_loads_169 : decode cL_loads 169 = .ok (.invokestatic 42, 3) := by decide +kernel
theorem dL_loads_172 : decode cL_loads 172 = .ok (.iconst 1, 1) := by decide +kernel
theorem dL_loads_173 : decode cL_loads 173 = .ok (.iload 5, 2) := by decide +kernel
theorem dL_loads_175 : decode cL_loads 175 = .ok (.iadd, 1) := by decide +kernel
theorem dL_loads_176 : decode cL_loads 176 = .ok (.idiv, 1) := by decide +kernel
theorem dL_loads_177 : decode cL_loads 177 = .ok (.sipush 2000, 3) := by decide +kernel
theorem dL_loads_180 : decode cL_loads 180 = .ok (.irem, 1) := by decide +kernel
theorem dL_loads_181 : decode cL_loads 181 = .ok (.isub, 1) := by decide +kernel
theorem dL_loads_182 : decode cL_loads 182 = .ok (.sipush 200, 3) := by decide +kernel
theorem dL_loads_185 : decode cL_loads 185 = .ok (.iadd, 1) := by decide +kernel
theorem dL_loads_186 : decode cL_loads 186 = .ok (.invokevirtual 48, 3) := by decide +kernel
theorem dL_loads_189 : decode cL_loads 189 = .ok (.aload_n 0, 1) := by decide +kernel
theorem dL_loads_190 : decode cL_loads 190 = .ok (.ldc 53, 2) := by decide +kernel
theorem dL_loads_192 : decode cL_loads 192 = .ok (.invokevirtual 31, 3) := by decide +kernel
theorem dL_loads_195 : decode cL_loads 195 = .ok (.iinc 5 1, 3) := by decide +kernel
theorem dL_loads_198 : decode cL_loads 198 = .ok (.goto (-53), 3) := by decide +kernel
theorem dL_loads_201 : decode cL_loads 201 = .ok (.iload_n 3, 1) := by decide +kernel
theorem dL_loads_202 : decode cL_loads 202 = .ok (.bipush 12, 2) := by decide +kernel
theorem dL_loads_204 : decode cL_loads 204 = .ok (.idiv, 1) := by decide +kernel
theorem dL_loads_205 : decode cL_loads 205 = .ok (.bipush 8, 2) := by decide +kernel
theorem dL_loads_207 : decode cL_loads 207 = .ok (.irem, 1) := by decide +kernel
theorem dL_loads_208 : decode cL_loads 208 = .ok (.istore 5, 2) := by decide +kernel
theorem dL_loads_210 : decode cL_loads 210 = .ok (.iconst 0, 1) := by decide +kernel
theorem dL_loads_211 : decode cL_loads 211 = .ok (.istore 6, 2) := by decide +kernel
theorem dL_loads_213 : decode cL_loads 213 = .ok (.iload 6, 2) := by decide +kernel
theorem dL_loads_215 : decode cL_loads 215 = .ok (.iload 5, 2) := by decide +kernel
theorem dL_loads_217 : decode cL_loads 217 = .ok (.if_icmp .ge 127, 3) := by decide +kernel
theorem dL_loads_220 : decode cL_loads 220 = .ok (.aload_n 2, 1) := by decide +kernel
theorem dL_loads_221 : decode cL_loads 221 = .ok (.iconst 4, 1) := by decide +kernel
theorem dL_loads_222 : decode cL_loads 222 = .ok (.iload 6, 2) := by decide +kernel
theorem dL_loads_224 : decode cL_loads 224 = .ok (.iadd, 1) := by decide +kernel
theorem dL_loads_225 : decode cL_loads 225 = .ok (.invokestatic 42, 3) := by decide +kernel
theorem dL_loads_228 : decode cL_loads 228 = .ok (.istore 7, 2) := by decide +kernel
theorem dL_loads_230 : decode cL_loads 230 = .ok (.aload_n 0, 1) := by decide +kernel
theorem dL_loads_231 : decode cL_loads 231 = .ok (.ldc 59, 2) := by decide +kernel
theorem dL_loads_233 : decode cL_loads 233 = .ok (.invokevirtual 31, 3) := by decide +kernel
theorem dL_loads_236 : decode cL_loads 236 = .ok (.aload_n 0, 1) := by decide +kernel
theorem dL_loads_237 : decode cL_loads 237 = .ok (.iload 7, 2) := by decide +kernel
theorem dL_loads_239 : decode cL_loads 239 = .ok (.iconst 2, 1) := by decide +kernel
theorem dL_loads_240 : decode cL_loads 240 = .ok (.irem, 1) := by decide +kernel
theorem dL_loads_241 : decode cL_loads 241 = .ok (.invokevirtual 48, 3) := by decide +kernel
theorem dL_loads_244 : decode cL_loads 244 = .ok (.aload_n 0, 1) := by decide +kernel
theorem dL_loads_245 : decode cL_loads 245 = .ok (.iload 7, 2) := by decide +kernel
theorem dL_loads_247 : decode cL_loads 247 = .ok (.iconst 2, 1) := by decide +kernel
theorem dL_loads_248 : decode cL_loads 248 = .ok (.idiv, 1) := by decide +kernel
theorem dL_loads_249 : decode cL_loads 249 = .ok (.iload 4, 2) := by decide +kernel
theorem dL_loads_251 : decode cL_loads 251 = .ok (.irem, 1) := by decide +kernel
theorem dL_loads_252 : decode cL_loads 252 = .ok (.invokevirtual 48, 3) := by decide +kernel
theorem dL_loads_255 : decode cL_loads 255 = .ok (.aload_n 0, 1) := by decide +kernel
theorem dL_loads_256 : decode cL_loads 256 = .ok (.iconst 1, 1) := by decide +kernel
theorem dL_loads_257 : decode cL_loads 257 = .ok (.iload 7, 2) := by decide +kernel
theorem dL_loads_259 : decode cL_loads 259 = .ok (.bipush 16, 2) := by decide +kernel
theorem dL_loads_261 : decode cL_loads 261 = .ok (.idiv, 1) := by decide +kernel
theorem dL_loads_262 : decode cL_loads 262 = .ok (.bipush 10, 2) := by decide +kernel
theorem dL_loads_264 : decode cL_loads 264 = .ok (.irem, 1) := by decide +kernel
theorem dL_loads_265 : decode cL_loads 265 = .ok (.iadd, 1) := by decide +kernel
theorem dL_loads_266 : decode cL_loads 266 = .ok (.invokevirtual 48, 3) := by decide +kernel
theorem dL_loads_269 : decode cL_loads 269 = .ok (.aload_n 0, 1) := by decide +kernel
theorem dL_loads_270 : decode cL_loads 270 = .ok (.bipush 50, 2) := by decide +kernel
theorem dL_loads_272 : decode cL_loads 272 = .ok (.iload 7, 2) := by decide +kernel
theorem dL_loads_274 : decode cL_loads 274 = .ok (.sipush 160, 3) := by decide +kernel
theorem dL_loads_277 : decode cL_loads 277 = .ok (.idiv, 1) := by decide +kernel
theorem dL_loads_278 : decode cL_loads 278 = .ok (.sipush 951, 3) := by decide +kernel
theorem dL_loads_281 : decode cL_loads 281 = .ok (.irem, 1) := by decide +kernel
theorem dL_loads_282 : decode cL_loads 282 = .ok (.iadd, 1) := by decide +kernel
theorem dL_loads_283 : decode cL_loads 283 = .ok (.invokevirtual 48, 3) := by decide +kernel
theorem dL_loads_286 : decode cL_loads 286 = .ok (.aload_n 0, 1) := by decide +kernel
theorem dL_loads_287 : decode cL_loads 287 = .ok (.bipush 100, 2) := by decide +kernel
theorem dL_loads_289 : decode cL_loads 289 = .ok (.iload 7, 2) := by decide +kernel
theorem dL_loads_291 : decode cL_loads 291 = .ok (.ldc 61, 2) := by decide +kernel
theorem dL_loads_293 : decode cL_loads 293 = .ok (.idiv, 1) := by decide +kernel
theorem dL_loads_294 : decode cL_loads 294 = .ok (.sipush 1900, 3) := by decide +kernel
theorem dL_loads_297 : decode cL_loads 297 = .ok (.irem, 1) := by decide +kernel
theorem dL_loads_298 : decode cL_loads 298 = .ok (.iadd, 1) := by decide +kernel
theorem dL_loads_299 : decode cL_loads 299 = .ok (.invokevirtual 48, 3) := by decide +kernel
theorem dL_loads_302 : decode cL_loads 302 = .ok (.iload 7, 2) := by decide +kernel
theorem dL_loads_304 : decode cL_loads 304 = .ok (.iconst 3, 1) := by decide +kernel
theorem dL_loads_305 : decode cL_loads 305 = .ok (.irem, 1) := by decide +kernel
theorem dL_loads_306 : decode cL_loads 306 = .ok (.ifCond .ne 26, 3) := by decide +kernel
theorem dL_loads_309 : decode cL_loads 309 = .ok (.aload_n 0, 1) := by decide +kernel
theorem dL_loads_310 : decode cL_loads 310 = .ok (.ldc 62, 2) := by decide +kernel
theorem dL_loads_312 : decode cL_loads 312 = .ok (.invokevirtual 31, 3) := by decide +kernel
theorem dL_loads_315 : decode cL_loads 315 = .ok (.aload_n 0, 1) := by decide +kernel
theorem dL_loads_316 : decode cL_loads 316 = .ok (.iload 7, 2) := by decide +kernel
theorem dL_loads_318 : decode cL_loads 318 = .ok (.bipush 7, 2) := by decide +kernel
theorem dL_loads_320 : decode cL_loads 320 = .ok (.idiv, 1) := by decide +kernel
theorem dL_loads_321 : decode cL_loads 321 = .ok (.sipush 401, 3) := by decide +kernel
theorem dL_loads_324 : decode cL_loads 324 = .ok (.irem, 1) := by decide +kernel
theorem dL_loads_325 : decode cL_loads 325 = .ok (.sipush 200, 3) := by decide +kernel
theorem dL_loads_328 : decode cL_loads 328 = .ok (.isub, 1) := by decide +kernel
theorem dL_loads_329 : decode cL_loads 329 = .ok (.invokevirtual 48, 3) := by decide +kernel
theorem dL_loads_332 : decode cL_loads 332 = .ok (.aload_n 0, 1) := by decide +kernel
theorem dL_loads_333 : decode cL_loads 333 = .ok (.ldc 53, 2) := by decide +kernel
theorem dL_loads_335 : decode cL_loads 335 = .ok (.invokevirtual 31, 3) := by decide +kernel
theorem dL_loads_338 : decode cL_loads 338 = .ok (.iinc 6 1, 3) := by decide +kernel
theorem dL_loads_341 : decode cL_loads 341 = .ok (.goto (-128), 3) := by decide +kernel
theorem dL_loads_344 : decode cL_loads 344 = .ok (.aload_n 1, 1) := by decide +kernel
theorem dL_loads_345 : decode cL_loads 345 = .ok (.aload_n 0, 1) := by decide +kernel
theorem dL_loads_346 : decode cL_loads 346 = .ok (.aload_n 1, 1) := by decide +kernel
theorem dL_loads_347 : decode cL_loads 347 = .ok (.invokevirtual 64, 3) := by decide +kernel
theorem dL_loads_350 : decode cL_loads 350 = .ok (.invokevirtual 68, 3) := by decide +kernel
theorem dL_loads_353 : decode cL_loads 353 = .ok (.istore 6, 2) := by decide +kernel
theorem dL_loads_355 : decode cL_loads 355 = .ok (.iload 6, 2) := by decide +kernel
theorem dL_loads_357 : decode cL_loads 357 = .ok (.ifCond .lt 85, 3) := by decide +kernel
theorem dL_loads_360 : decode cL_loads 360 = .ok (.aload_n 1, 1) := by decide +kernel
theorem dL_loads_361 : decode cL_loads 361 = .ok (.invokevirtual 72, 3) := by decide +kernel
theorem dL_loads_364 : decode cL_loads 364 = .ok (.iconst (-1), 1) := by decide +kernel
theorem dL_loads_365 : decode cL_loads 365 = .ok (.if_icmp .ne 77, 3) := by decide +kernel
theorem dL_loads_368 : decode cL_loads 368 = .ok (.aload_n 1, 1) := by decide +kernel
theorem dL_loads_369 : decode cL_loads 369 = .ok (.iconst 0, 1) := by decide +kernel
theorem dL_loads_370 : decode cL_loads 370 = .ok (.invokevirtual 75, 3) := by decide +kernel
theorem dL_loads_373 : decode cL_loads 373 = .ok (.iload 4, 2) := by decide +kernel
theorem dL_loads_375 : decode cL_loads 375 = .ok (.if_icmp .ne 67, 3) := by decide +kernel
theorem dL_loads_378 : decode cL_loads 378 = .ok (.aload_n 1, 1) := by decide +kernel
theorem dL_loads_379 : decode cL_loads 379 = .ok (.iconst 2, 1) := by decide +kernel
theorem dL_loads_380 : decode cL_loads 380 = .ok (.invokevirtual 75, 3) := by decide +kernel
theorem dL_loads_383 : decode cL_loads 383 = .ok (.iload 5, 2) := by decide +kernel
theorem dL_loads_385 : decode cL_loads 385 = .ok (.if_icmp .ne 57, 3) := by decide +kernel
theorem dL_loads_388 : decode cL_loads 388 = .ok (.aload_n 1, 1) := by decide +kernel
theorem dL_loads_389 : decode cL_loads 389 = .ok (.iconst 3, 1) := by decide +kernel
theorem dL_loads_390 : decode cL_loads 390 = .ok (.invokevirtual 75, 3) := by decide +kernel
theorem dL_loads_393 : decode cL_loads 393 = .ok (.iload 6, 2) := by decide +kernel
theorem dL_loads_395 : decode cL_loads 395 = .ok (.if_icmp .ne 47, 3) := by decide +kernel
theorem dL_loads_398 : decode cL_loads 398 = .ok (.aload_n 1, 1) := by decide +kernel
theorem dL_loads_399 : decode cL_loads 399 = .ok (.iconst 3, 1) := by decide +kernel
theorem dL_loads_400 : decode cL_loads 400 = .ok (.invokevirtual 75, 3) := by decide +kernel
theorem dL_loads_403 : decode cL_loads 403 = .ok (.aload_n 1, 1) := by decide +kernel
theorem dL_loads_404 : decode cL_loads 404 = .ok (.iconst 4, 1) := by decide +kernel
theorem dL_loads_405 : decode cL_loads 405 = .ok (.invokevirtual 75, 3) := by decide +kernel
theorem dL_loads_408 : decode cL_loads 408 = .ok (.iadd, 1) := by decide +kernel
theorem dL_loads_409 : decode cL_loads 409 = .ok (.aload_n 1, 1) := by decide +kernel
theorem dL_loads_410 : decode cL_loads 410 = .ok (.iconst 5, 1) := by decide +kernel
theorem dL_loads_411 : decode cL_loads 411 = .ok (.invokevirtual 75, 3) := by decide +kernel
theorem dL_loads_414 : decode cL_loads 414 = .ok (.iadd, 1) := by decide +kernel
theorem dL_loads_415 : decode cL_loads 415 = .ok (.iload 5, 2) := by decide +kernel
theorem dL_loads_417 : decode cL_loads 417 = .ok (.if_icmp .ne 25, 3) := by decide +kernel
theorem dL_loads_420 : decode cL_loads 420 = .ok (.aload_n 1, 1) := by decide +kernel
theorem dL_loads_421 : decode cL_loads 421 = .ok (.bipush 6, 2) := by decide +kernel
theorem dL_loads_423 : decode cL_loads 423 = .ok (.invokevirtual 75, 3) := by decide +kernel
theorem dL_loads_426 : decode cL_loads 426 = .ok (.aload_n 1, 1) := by decide +kernel
theorem dL_loads_427 : decode cL_loads 427 = .ok (.bipush 7, 2) := by decide +kernel
theorem dL_loads_429 : decode cL_loads 429 = .ok (.invokevirtual 75, 3) := by decide +kernel
theorem dL_loads_432 : decode cL_loads 432 = .ok (.iadd, 1) := by decide +kernel
theorem dL_loads_433 : decode cL_loads 433 = .ok (.iload 5, 2) := by decide +kernel
theorem dL_loads_435 : decode cL_loads 435 = .ok (.if_icmp .ne 7, 3) := by decide +kernel
theorem dL_loads_438 : decode cL_loads 438 = .ok (.iconst 1, 1) := by decide +kernel
theorem dL_loads_439 : decode cL_loads 439 = .ok (.goto 4, 3) := by decide +kernel
theorem dL_loads_442 : decode cL_loads 442 = .ok (.iconst 0, 1) := by decide +kernel
theorem dL_loads_443 : decode cL_loads 443 = .ok (.ireturn, 1) := by decide +kernel
theorem dL_acts_0 : decode cL_acts 0 = .ok (.iload_n 1, 1) := by decide +kernel
theorem dL_acts_1 : decode cL_acts 1 = .ok (.bipush 12, 2) := by decide +kernel
theorem dL_acts_3 : decode cL_acts 3 = .ok (.idiv, 1) := by decide +kernel
theorem dL_acts_4 : decode cL_acts 4 = .ok (.istore_n 2, 1) := by decide +kernel
theorem dL_acts_5 : decode cL_acts 5 = .ok (.aload_n 0, 1) := by decide +kernel
theorem dL_acts_6 : decode cL_acts 6 = .ok (.iconst 2, 1) := by decide +kernel
theorem dL_acts_7 : decode cL_acts 7 = .ok (.invokevirtual 75, 3) := by decide +kernel
theorem dL_acts_10 : decode cL_acts 10 = .ok (.istore_n 3, 1) := by decide +kernel
theorem dL_acts_11 : decode cL_acts 11 = .ok (.iload_n 1, 1) := by decide +kernel
theorem dL_acts_12 : decode cL_acts 12 = .ok (.bipush 12, 2) := by decide +kernel
theorem dL_acts_14 : decode cL_acts 14 = .ok (.irem, 1) := by decide +kernel
theorem dL_acts_15 : decode cL_acts 15 = .ok (.tableswitch 280 0 10 #[57, 57, 80, 93, 122, 150, 178, 197, 214, 214, 230], 57) := by decide +kernel
theorem dL_acts_72 : decode cL_acts 72 = .ok (.aload_n 0, 1) := by decide +kernel
theorem dL_acts_73 : decode cL_acts 73 = .ok (.iload_n 2, 1) := by decide +kernel
theorem dL_acts_74 : decode cL_acts 74 = .ok (.aload_n 0, 1) := by decide +kernel
theorem dL_acts_75 : decode cL_acts 75 = .ok (.iconst 0, 1) := by decide +kernel
theorem dL_acts_76 : decode cL_acts 76 = .ok (.invokevirtual 75, 3) := by decide +kernel
theorem dL_acts_79 : decode cL_acts 79 = .ok (.irem, 1) := by decide +kernel
theorem dL_acts_80 : decode cL_acts 80 = .ok (.ldc 77, 2) := by decide +kernel
theorem dL_acts_82 : decode cL_acts 82 = .ok (.iload_n 2, 1) := by decide +kernel
theorem dL_acts_83 : decode cL_acts 83 = .ok (.bipush 8, 2) := by decide +kernel
theorem dL_acts_85 : decode cL_acts 85 = .ok (.idiv, 1) := by decide +kernel
theorem dL_acts_86 : decode cL_acts 86 = .ok (.sipush 2500, 3) := by decide +kernel
theorem dL_acts_89 : decode cL_acts 89 = .ok (.irem, 1) := by decide +kernel
theorem dL_acts_90 : decode cL_acts 90 = .ok (.iadd, 1) := by decide +kernel
theorem dL_acts_91 : decode cL_acts 91 = .ok (.invokevirtual 78, 3) := by decide +kernel
theorem dL_acts_94 : decode cL_acts 94 = .ok (.ireturn, 1) := by decide +kernel
theorem dL_acts_95 : decode cL_acts 95 = .ok (.aload_n 0, 1) := by decide +kernel
theorem dL_acts_96 : decode cL_acts 96 = .ok (.ldc 82, 2) := by decide +kernel
theorem dL_acts_98 : decode cL_acts 98 = .ok (.iload_n 2, 1) := by decide +kernel
theorem dL_acts_99 : decode cL_acts 99 = .ok (.sipush 2000, 3) := by decide +kernel
theorem dL_acts_102 : decode cL_acts 102 = .ok (.irem, 1) := by decide +kernel
theorem dL_acts_103 : decode cL_acts 103 = .ok (.iadd, 1) := by decide +kernel
theorem dL_acts_104 : decode cL_acts 104 = .ok (.invokevirtual 83, 3) := by decide +kernel
theorem dL_acts_107 : decode cL_acts 107 = .ok (.ireturn, 1) := by decide +kernel
theorem dL_acts_108 : decode cL_acts 108 = .ok (.aload_n 0, 1) := by decide +kernel
theorem dL_acts_109 : decode cL_acts 109 = .ok (.iload_n 2, 1) := by decide +kernel
theorem dL_acts_110 : decode cL_acts 110 = .ok (.aload_n 0, 1) := by decide +kernel
theorem dL_acts_111 : decode cL_acts 111 = .ok (.iconst 0, 1) := by decide +kernel
theorem dL_acts_112 : decode cL_acts 112 = .ok (.invokevirtual 75, 3) := by decide +kernel
theorem dL_acts_115 : decode cL_acts 115 = .ok (.irem, 1) := by decide +kernel
theorem dL_acts_116 : decode cL_acts 116 = .ok (.ldc 86, 2) := by decide +kernel
theorem dL_acts_118 : decode cL_acts 118 = .ok (.iload_n 2, 1) := by decide +kernel
theorem dL_acts_119 : decode cL_acts 119 = .ok (.bipush 8, 2) := by decide +kernel
theorem dL_acts_121 : decode cL_acts 121 = .ok (.idiv, 1) := by decide +kernel
theorem dL_acts_122 : decode cL_acts 122 = .ok (.sipush 2000, 3) := by decide +kernel
theorem dL_acts_125 : decode cL_acts 125 = .ok (.irem, 1) := by decide +kernel
theorem dL_acts_126 : decode cL_acts 126 = .ok (.iadd, 1) := by decide +kernel
theorem dL_acts_127 : decode cL_acts 127 = .ok (.iconst 1, 1) := by decide +kernel
theorem dL_acts_128 : decode cL_acts 128 = .ok (.iload_n 2, 1) := by decide +kernel
theorem dL_acts_129 : decode cL_acts 129 = .ok (.bipush 9, 2) := by decide +kernel
theorem dL_acts_131 : decode cL_acts 131 = .ok (.irem, 1) := by decide +kernel
theorem dL_acts_132 : decode cL_acts 132 = .ok (.iadd, 1) := by decide +kernel
theorem dL_acts_133 : decode cL_acts 133 = .ok (.invokevirtual 87, 3) := by decide +kernel
theorem dL_acts_136 : decode cL_acts 136 = .ok (.ireturn, 1) := by decide +kernel
theorem dL_acts_137 : decode cL_acts 137 = .ok (.iload_n 3, 1) := by decide +kernel
theorem dL_acts_138 : decode cL_acts 138 = .ok (.ifCond .ne 8, 3) := by decide +kernel
theorem dL_acts_141 : decode cL_acts 141 = .ok (.bipush (-9), 2) := by decide +kernel
theorem dL_acts_143 : decode cL_acts 143 = .ok (.goto 21, 3) := by decide +kernel
theorem dL_acts_146 : decode cL_acts 146 = .ok (.aload_n 0, 1) := by decide +kernel
theorem dL_acts_147 : decode cL_acts 147 = .ok (.iload_n 2, 1) := by decide +kernel
theorem dL_acts_148 : decode cL_acts 148 = .ok (.iload_n 3, 1) := by decide +kernel
theorem dL_acts_149 : decode cL_acts 149 = .ok (.irem, 1) := by decide +kernel
theorem dL_acts_150 : decode cL_acts 150 = .ok (.bipush 50, 2) := by decide +kernel
theorem dL_acts_152 : decode cL_acts 152 = .ok (.iload_n 2, 1) := by decide +kernel
theorem dL_acts_153 : decode cL_acts 153 = .ok (.bipush 16, 2) := by decide +kernel
theorem dL_acts_155 : decode cL_acts 155 = .ok (.idiv, 1) := by decide +kernel
theorem dL_acts_156 : decode cL_acts 156 = .ok (.sipush 951, 3) := by decide +kernel
theorem dL_acts_159 : decode cL_acts 159 = .ok (.irem, 1) := by decide +kernel
theorem dL_acts_160 : decode cL_acts 160 = .ok (.iadd, 1) := by decide +kernel
theorem dL_acts_161 : decode cL_acts 161 = .ok (.invokevirtual 91, 3) := by decide +kernel
theorem dL_acts_164 : decode cL_acts 164 = .ok (.ireturn, 1) := by decide +kernel
theorem dL_acts_165 : decode cL_acts 165 = .ok (.iload_n 3, 1) := by decide +kernel
theorem dL_acts_166 : decode cL_acts 166 = .ok (.ifCond .ne 8, 3) := by decide +kernel
theorem dL_acts_169 : decode cL_acts 169 = .ok (.bipush (-9), 2) := by decide +kernel
theorem dL_acts_171 : decode cL_acts 171 = .ok (.goto 21, 3) := by decide +kernel
theorem dL_acts_174 : decode cL_acts 174 = .ok (.aload_n 0, 1) := by decide +kernel
theorem dL_acts_175 : decode cL_acts 175 = .ok (.iload_n 2, 1) := by decide +kernel
theorem dL_acts_176 : decode cL_acts 176 = .ok (.iload_n 3, 1) := by decide +kernel
theorem dL_acts_177 : decode cL_acts 177 = .ok (.irem, 1) := by decide +kernel
theorem dL_acts_178 : decode cL_acts 178 = .ok (.invokevirtual 94, 3) := by decide +kernel
theorem dL_acts_181 : decode cL_acts 181 = .ok (.ldc 97, 2) := by decide +kernel
theorem dL_acts_183 : decode cL_acts 183 = .ok (.if_icmp .gt 8, 3) := by decide +kernel
theorem dL_acts_186 : decode cL_acts 186 = .ok (.bipush (-8), 2) := by decide +kernel
theorem dL_acts_188 : decode cL_acts 188 = .ok (.goto 4, 3) := by decide +kernel
theorem dL_acts_191 : decode cL_acts 191 = .ok (.iconst 1, 1) := by decide +kernel
theorem dL_acts_192 : decode cL_acts 192 = .ok (.ireturn, 1) := by decide +kernel
theorem dL_acts_193 : decode cL_acts 193 = .ok (.aload_n 0, 1) := by decide +kernel
theorem dL_acts_194 : decode cL_acts 194 = .ok (.iload_n 2, 1) := by decide +kernel
theorem dL_acts_195 : decode cL_acts 195 = .ok (.iconst 2, 1) := by decide +kernel
theorem dL_acts_196 : decode cL_acts 196 = .ok (.irem, 1) := by decide +kernel
theorem dL_acts_197 : decode cL_acts 197 = .ok (.iload_n 2, 1) := by decide +kernel
theorem dL_acts_198 : decode cL_acts 198 = .ok (.iconst 2, 1) := by decide +kernel
theorem dL_acts_199 : decode cL_acts 199 = .ok (.idiv, 1) := by decide +kernel
theorem dL_acts_200 : decode cL_acts 200 = .ok (.sipush 2001, 3) := by decide +kernel
theorem dL_acts_203 : decode cL_acts 203 = .ok (.irem, 1) := by decide +kernel
theorem dL_acts_204 : decode cL_acts 204 = .ok (.sipush 1000, 3) := by decide +kernel
theorem dL_acts_207 : decode cL_acts 207 = .ok (.isub, 1) := by decide +kernel
theorem dL_acts_208 : decode cL_acts 208 = .ok (.invokevirtual 98, 3) := by decide +kernel
theorem dL_acts_211 : decode cL_acts 211 = .ok (.ireturn, 1) := by decide +kernel
theorem dL_acts_212 : decode cL_acts 212 = .ok (.iload_n 3, 1) := by decide +kernel
theorem dL_acts_213 : decode cL_acts 213 = .ok (.ifCond .ne 8, 3) := by decide +kernel
theorem dL_acts_216 : decode cL_acts 216 = .ok (.bipush (-9), 2) := by decide +kernel
theorem dL_acts_218 : decode cL_acts 218 = .ok (.goto 10, 3) := by decide +kernel
theorem dL_acts_221 : decode cL_acts 221 = .ok (.aload_n 0, 1) := by decide +kernel
theorem dL_acts_222 : decode cL_acts 222 = .ok (.iload_n 2, 1) := by decide +kernel
theorem dL_acts_223 : decode cL_acts 223 = .ok (.iload_n 3, 1) := by decide +kernel
theorem dL_acts_224 : decode cL_acts 224 = .ok (.irem, 1) := by decide +kernel
theorem dL_acts_225 : decode cL_acts 225 = .ok (.invokevirtual 101, 3) := by decide +kernel
theorem dL_acts_228 : decode cL_acts 228 = .ok (.ireturn, 1) := by decide +kernel
theorem dL_acts_229 : decode cL_acts 229 = .ok (.aload_n 0, 1) := by decide +kernel
theorem dL_acts_230 : decode cL_acts 230 = .ok (.iload_n 2, 1) := by decide +kernel
theorem dL_acts_231 : decode cL_acts 231 = .ok (.iconst 2, 1) := by decide +kernel
theorem dL_acts_232 : decode cL_acts 232 = .ok (.irem, 1) := by decide +kernel
theorem dL_acts_233 : decode cL_acts 233 = .ok (.iconst 1, 1) := by decide +kernel
theorem dL_acts_234 : decode cL_acts 234 = .ok (.iload_n 2, 1) := by decide +kernel
theorem dL_acts_235 : decode cL_acts 235 = .ok (.iconst 2, 1) := by decide +kernel
theorem dL_acts_236 : decode cL_acts 236 = .ok (.idiv, 1) := by decide +kernel
theorem dL_acts_237 : decode cL_acts 237 = .ok (.ldc 104, 2) := by decide +kernel
theorem dL_acts_239 : decode cL_acts 239 = .ok (.irem, 1) := by decide +kernel
theorem dL_acts_240 : decode cL_acts 240 = .ok (.iadd, 1) := by decide +kernel
theorem dL_acts_241 : decode cL_acts 241 = .ok (.invokevirtual 105, 3) := by decide +kernel
theorem dL_acts_244 : decode cL_acts 244 = .ok (.ireturn, 1) := by decide +kernel
theorem dL_acts_245 : decode cL_acts 245 = .ok (.aload_n 0, 1) := by decide +kernel
theorem dL_acts_246 : decode cL_acts 246 = .ok (.iload_n 2, 1) := by decide +kernel
theorem dL_acts_247 : decode cL_acts 247 = .ok (.iconst 2, 1) := by decide +kernel
theorem dL_acts_248 : decode cL_acts 248 = .ok (.irem, 1) := by decide +kernel
theorem dL_acts_249 : decode cL_acts 249 = .ok (.iload_n 2, 1) := by decide +kernel
theorem dL_acts_250 : decode cL_acts 250 = .ok (.iconst 2, 1) := by decide +kernel
theorem dL_acts_251 : decode cL_acts 251 = .ok (.idiv, 1) := by decide +kernel
theorem dL_acts_252 : decode cL_acts 252 = .ok (.aload_n 0, 1) := by decide +kernel
theorem dL_acts_253 : decode cL_acts 253 = .ok (.iconst 0, 1) := by decide +kernel
theorem dL_acts_254 : decode cL_acts 254 = .ok (.invokevirtual 75, 3) := by decide +kernel
theorem dL_acts_257 : decode cL_acts 257 = .ok (.irem, 1) := by decide +kernel
theorem dL_acts_258 : decode cL_acts 258 = .ok (.iconst 1, 1) := by decide +kernel
theorem dL_acts_259 : decode cL_acts 259 = .ok (.iload_n 2, 1) := by decide +kernel
theorem dL_acts_260 : decode cL_acts 260 = .ok (.bipush 16, 2) := by decide +kernel
theorem dL_acts_262 : decode cL_acts 262 = .ok (.idiv, 1) := by decide +kernel
theorem dL_acts_263 : decode cL_acts 263 = .ok (.bipush 10, 2) := by decide +kernel
theorem dL_acts_265 : decode cL_acts 265 = .ok (.irem, 1) := by decide +kernel
theorem dL_acts_266 : decode cL_acts 266 = .ok (.iadd, 1) := by decide +kernel
theorem dL_acts_267 : decode cL_acts 267 = .ok (.bipush 50, 2) := by decide +kernel
theorem dL_acts_269 : decode cL_acts 269 = .ok (.iload_n 2, 1) := by decide +kernel
theorem dL_acts_270 : decode cL_acts 270 = .ok (.sipush 160, 3) := by decide +kernel
theorem dL_acts_273 : decode cL_acts 273 = .ok (.idiv, 1) := by decide +kernel
theorem dL_acts_274 : decode cL_acts 274 = .ok (.sipush 951, 3) := by decide +kernel
theorem dL_acts_277 : decode cL_acts 277 = .ok (.irem, 1) := by decide +kernel
theorem dL_acts_278 : decode cL_acts 278 = .ok (.iadd, 1) := by decide +kernel
theorem dL_acts_279 : decode cL_acts 279 = .ok (.bipush 100, 2) := by decide +kernel
theorem dL_acts_281 : decode cL_acts 281 = .ok (.iload_n 2, 1) := by decide +kernel
theorem dL_acts_282 : decode cL_acts 282 = .ok (.sipush 300, 3) := by decide +kernel
theorem dL_acts_285 : decode cL_acts 285 = .ok (.idiv, 1) := by decide +kernel
theorem dL_acts_286 : decode cL_acts 286 = .ok (.sipush 1900, 3) := by decide +kernel
theorem dL_acts_289 : decode cL_acts 289 = .ok (.irem, 1) := by decide +kernel
theorem dL_acts_290 : decode cL_acts 290 = .ok (.iadd, 1) := by decide +kernel
theorem dL_acts_291 : decode cL_acts 291 = .ok (.invokevirtual 108, 3) := by decide +kernel
theorem dL_acts_294 : decode cL_acts 294 = .ok (.ireturn, 1) := by decide +kernel
theorem dL_acts_295 : decode cL_acts 295 = .ok (.iload_n 3, 1) := by decide +kernel
theorem dL_acts_296 : decode cL_acts 296 = .ok (.ifCond .ne 8, 3) := by decide +kernel
theorem dL_acts_299 : decode cL_acts 299 = .ok (.bipush (-9), 2) := by decide +kernel
theorem dL_acts_301 : decode cL_acts 301 = .ok (.goto 10, 3) := by decide +kernel
theorem dL_acts_304 : decode cL_acts 304 = .ok (.aload_n 0, 1) := by decide +kernel
theorem dL_acts_305 : decode cL_acts 305 = .ok (.iload_n 2, 1) := by decide +kernel
theorem dL_acts_306 : decode cL_acts 306 = .ok (.iload_n 3, 1) := by decide +kernel
theorem dL_acts_307 : decode cL_acts 307 = .ok (.irem, 1) := by decide +kernel
theorem dL_acts_308 : decode cL_acts 308 = .ok (.invokevirtual 111, 3) := by decide +kernel
theorem dL_acts_311 : decode cL_acts 311 = .ok (.ireturn, 1) := by decide +kernel
theorem dL_run_0 : decode cL_run 0 = .ok (.lload_n 2, 1) := by decide +kernel
theorem dL_run_1 : decode cL_run 1 = .ok (.aload_n 0, 1) := by decide +kernel
theorem dL_run_2 : decode cL_run 2 = .ok (.iload_n 1, 1) := by decide +kernel
theorem dL_run_3 : decode cL_run 3 = .ok (.bipush 9, 2) := by decide +kernel
theorem dL_run_5 : decode cL_run 5 = .ok (.invokevirtual 114, 3) := by decide +kernel
theorem dL_run_8 : decode cL_run 8 = .ok (.i2l, 1) := by decide +kernel
theorem dL_run_9 : decode cL_run 9 = .ok (.ladd, 1) := by decide +kernel
theorem dL_run_10 : decode cL_run 10 = .ok (.aload_n 0, 1) := by decide +kernel
theorem dL_run_11 : decode cL_run 11 = .ok (.iload_n 1, 1) := by decide +kernel
theorem dL_run_12 : decode cL_run 12 = .ok (.bipush 10, 2) := by decide +kernel
theorem dL_run_14 : decode cL_run 14 = .ok (.invokevirtual 114, 3) := by decide +kernel
theorem dL_run_17 : decode cL_run 17 = .ok (.i2l, 1) := by decide +kernel
theorem dL_run_18 : decode cL_run 18 = .ok (.ladd, 1) := by decide +kernel
theorem dL_run_19 : decode cL_run 19 = .ok (.ldc2_w 116, 3) := by decide +kernel
theorem dL_run_22 : decode cL_run 22 = .ok (.lmul, 1) := by decide +kernel
theorem dL_run_23 : decode cL_run 23 = .ok (.aload_n 0, 1) := by decide +kernel
theorem dL_run_24 : decode cL_run 24 = .ok (.iload_n 1, 1) := by decide +kernel
theorem dL_run_25 : decode cL_run 25 = .ok (.iconst 3, 1) := by decide +kernel
theorem dL_run_26 : decode cL_run 26 = .ok (.invokevirtual 114, 3) := by decide +kernel
theorem dL_run_29 : decode cL_run 29 = .ok (.i2l, 1) := by decide +kernel
theorem dL_run_30 : decode cL_run 30 = .ok (.ldiv, 1) := by decide +kernel
theorem dL_run_31 : decode cL_run 31 = .ok (.lreturn, 1) := by decide +kernel
theorem dL_law_0 : decode cL_law 0 = .ok (.new 8, 3) := by decide +kernel
theorem dL_law_3 : decode cL_law 3 = .ok (.dup, 1) := by decide +kernel
theorem dL_law_4 : decode cL_law 4 = .ok (.invokespecial 118, 3) := by decide +kernel
theorem dL_law_7 : decode cL_law 7 = .ok (.astore_n 1, 1) := by decide +kernel
theorem dL_law_8 : decode cL_law 8 = .ok (.new 37, 3) := by decide +kernel
theorem dL_law_11 : decode cL_law 11 = .ok (.dup, 1) := by decide +kernel
theorem dL_law_12 : decode cL_law 12 = .ok (.invokespecial 119, 3) := by decide +kernel
theorem dL_law_15 : decode cL_law 15 = .ok (.astore_n 2, 1) := by decide +kernel
theorem dL_law_16 : decode cL_law 16 = .ok (.aload_n 1, 1) := by decide +kernel
theorem dL_law_17 : decode cL_law 17 = .ok (.aload_n 2, 1) := by decide +kernel
theorem dL_law_18 : decode cL_law 18 = .ok (.aload_n 0, 1) := by decide +kernel
theorem dL_law_19 : decode cL_law 19 = .ok (.invokevirtual 120, 3) := by decide +kernel
theorem dL_law_22 : decode cL_law 22 = .ok (.ifCond .eq 15, 3) := by decide +kernel
theorem dL_law_25 : decode cL_law 25 = .ok (.aload_n 2, 1) := by decide +kernel
theorem dL_law_26 : decode cL_law 26 = .ok (.aload_n 0, 1) := by decide +kernel
theorem dL_law_27 : decode cL_law 27 = .ok (.invokestatic 124, 3) := by decide +kernel
theorem dL_law_30 : decode cL_law 30 = .ok (.ifCond .eq 7, 3) := by decide +kernel
theorem dL_law_33 : decode cL_law 33 = .ok (.iconst 1, 1) := by decide +kernel
theorem dL_law_34 : decode cL_law 34 = .ok (.goto 4, 3) := by decide +kernel
theorem dL_law_37 : decode cL_law 37 = .ok (.iconst 0, 1) := by decide +kernel
theorem dL_law_38 : decode cL_law 38 = .ok (.ireturn, 1) := by decide +kernel
theorem dL_holds_0 : decode cL_holds 0 = .ok (.bipush 12, 2) := by decide +kernel
theorem dL_holds_2 : decode cL_holds 2 = .ok (.istore_n 2, 1) := by decide +kernel
theorem dL_holds_3 : decode cL_holds 3 = .ok (.iload_n 2, 1) := by decide +kernel
theorem dL_holds_4 : decode cL_holds 4 = .ok (.bipush 30, 2) := by decide +kernel
theorem dL_holds_6 : decode cL_holds 6 = .ok (.if_icmp .ge 44, 3) := by decide +kernel
theorem dL_holds_9 : decode cL_holds 9 = .ok (.aload_n 0, 1) := by decide +kernel
theorem dL_holds_10 : decode cL_holds 10 = .ok (.invokestatic 127, 3) := by decide +kernel
theorem dL_holds_13 : decode cL_holds 13 = .ok (.ifCond .eq 19, 3) := by decide +kernel
theorem dL_holds_16 : decode cL_holds 16 = .ok (.aload_n 0, 1) := by decide +kernel
theorem dL_holds_17 : decode cL_holds 17 = .ok (.iconst 0, 1) := by decide +kernel
theorem dL_holds_18 : decode cL_holds 18 = .ok (.invokestatic 131, 3) := by decide +kernel
theorem dL_holds_21 : decode cL_holds 21 = .ok (.ifCond .eq 11, 3) := by decide +kernel
theorem dL_holds_24 : decode cL_holds 24 = .ok (.aload_n 0, 1) := by decide +kernel
theorem dL_holds_25 : decode cL_holds 25 = .ok (.iconst 1, 1) := by decide +kernel
theorem dL_holds_26 : decode cL_holds 26 = .ok (.invokestatic 131, 3) := by decide +kernel
theorem dL_holds_29 : decode cL_holds 29 = .ok (.ifCond .ne 5, 3) := by decide +kernel
theorem dL_holds_32 : decode cL_holds 32 = .ok (.iconst 0, 1) := by decide +kernel
theorem dL_holds_33 : decode cL_holds 33 = .ok (.ireturn, 1) := by decide +kernel
theorem dL_holds_34 : decode cL_holds 34 = .ok (.aload_n 0, 1) := by decide +kernel
theorem dL_holds_35 : decode cL_holds 35 = .ok (.aload_n 1, 1) := by decide +kernel
theorem dL_holds_36 : decode cL_holds 36 = .ok (.iload_n 2, 1) := by decide +kernel
theorem dL_holds_37 : decode cL_holds 37 = .ok (.invokestatic 42, 3) := by decide +kernel
theorem dL_holds_40 : decode cL_holds 40 = .ok (.invokestatic 135, 3) := by decide +kernel
theorem dL_holds_43 : decode cL_holds 43 = .ok (.istore_n 3, 1) := by decide +kernel
theorem dL_holds_44 : decode cL_holds 44 = .ok (.iinc 2 1, 3) := by decide +kernel
theorem dL_holds_47 : decode cL_holds 47 = .ok (.goto (-44), 3) := by decide +kernel
theorem dL_holds_50 : decode cL_holds 50 = .ok (.aload_n 0, 1) := by decide +kernel
theorem dL_holds_51 : decode cL_holds 51 = .ok (.invokestatic 127, 3) := by decide +kernel
theorem dL_holds_54 : decode cL_holds 54 = .ok (.ifCond .eq 23, 3) := by decide +kernel
theorem dL_holds_57 : decode cL_holds 57 = .ok (.aload_n 0, 1) := by decide +kernel
theorem dL_holds_58 : decode cL_holds 58 = .ok (.iconst 0, 1) := by decide +kernel
theorem dL_holds_59 : decode cL_holds 59 = .ok (.invokestatic 131, 3) := by decide +kernel
theorem dL_holds_62 : decode cL_holds 62 = .ok (.ifCond .eq 15, 3) := by decide +kernel
theorem dL_holds_65 : decode cL_holds 65 = .ok (.aload_n 0, 1) := by decide +kernel
theorem dL_holds_66 : decode cL_holds 66 = .ok (.iconst 1, 1) := by decide +kernel
theorem dL_holds_67 : decode cL_holds 67 = .ok (.invokestatic 131, 3) := by decide +kernel
theorem dL_holds_70 : decode cL_holds 70 = .ok (.ifCond .eq 7, 3) := by decide +kernel
theorem dL_holds_73 : decode cL_holds 73 = .ok (.iconst 1, 1) := by decide +kernel
theorem dL_holds_74 : decode cL_holds 74 = .ok (.goto 4, 3) := by decide +kernel
theorem dL_holds_77 : decode cL_holds 77 = .ok (.iconst 0, 1) := by decide +kernel
theorem dL_holds_78 : decode cL_holds 78 = .ok (.ireturn, 1) := by decide +kernel
theorem dL_areTubes_0 : decode cL_areTubes 0 = .ok (.iconst 3, 1) := by decide +kernel
theorem dL_areTubes_1 : decode cL_areTubes 1 = .ok (.newarray .int, 2) := by decide +kernel
theorem dL_areTubes_3 : decode cL_areTubes 3 = .ok (.astore_n 1, 1) := by decide +kernel
theorem dL_areTubes_4 : decode cL_areTubes 4 = .ok (.iconst 0, 1) := by decide +kernel
theorem dL_areTubes_5 : decode cL_areTubes 5 = .ok (.istore_n 2, 1) := by decide +kernel
theorem dL_areTubes_6 : decode cL_areTubes 6 = .ok (.iload_n 2, 1) := by decide +kernel
theorem dL_areTubes_7 : decode cL_areTubes 7 = .ok (.aload_n 0, 1) := by decide +kernel
theorem dL_areTubes_8 : decode cL_areTubes 8 = .ok (.iconst 2, 1) := by decide +kernel
theorem dL_areTubes_9 : decode cL_areTubes 9 = .ok (.invokevirtual 75, 3) := by decide +kernel
theorem dL_areTubes_12 : decode cL_areTubes 12 = .ok (.if_icmp .ge 226, 3) := by decide +kernel
theorem dL_areTubes_15 : decode cL_areTubes 15 = .ok (.aload_n 0, 1) := by decide +kernel
theorem dL_areTubes_16 : decode cL_areTubes 16 = .ok (.iload_n 2, 1) := by decide +kernel
theorem dL_areTubes_17 : decode cL_areTubes 17 = .ok (.iconst 0, 1) := by decide +kernel
theorem dL_areTubes_18 : decode cL_areTubes 18 = .ok (.invokevirtual 114, 3) := by decide +kernel
theorem dL_areTubes_21 : decode cL_areTubes 21 = .ok (.istore_n 3, 1) := by decide +kernel
theorem dL_areTubes_22 : decode cL_areTubes 22 = .ok (.aload_n 0, 1) := by decide +kernel
theorem dL_areTubes_23 : decode cL_areTubes 23 = .ok (.iload_n 2, 1) := by decide +kernel
theorem dL_areTubes_24 : decode cL_areTubes 24 = .ok (.bipush 6, 2) := by decide +kernel
theorem dL_areTubes_26 : decode cL_areTubes 26 = .ok (.invokevirtual 114, 3) := by decide +kernel
theorem dL_areTubes_29 : decode cL_areTubes 29 = .ok (.istore 4, 2) := by decide +kernel
theorem dL_areTubes_31 : decode cL_areTubes 31 = .ok (.aload_n 1, 1) := by decide +kernel
theorem dL_areTubes_32 : decode cL_areTubes 32 = .ok (.iload 4, 2) := by decide +kernel
theorem dL_areTubes_34 : decode cL_areTubes 34 = .ok (.dup2, 1) := by decide +kernel
theorem dL_areTubes_35 : decode cL_areTubes 35 = .ok (.iaload, 1) := by decide +kernel
theorem dL_areTubes_36 : decode cL_areTubes 36 = .ok (.iconst 1, 1) := by decide +kernel
theorem dL_areTubes_37 : decode cL_areTubes 37 = .ok (.iadd, 1) := by decide +kernel
theorem dL_areTubes_38 : decode cL_areTubes 38 = .ok (.iastore, 1) := by decide +kernel
theorem dL_areTubes_39 : decode cL_areTubes 39 = .ok (.aload_n 0, 1) := by decide +kernel
theorem dL_areTubes_40 : decode cL_areTubes 40 = .ok (.iload_n 2, 1) := by decide +kernel
theorem dL_areTubes_41 : decode cL_areTubes 41 = .ok (.bipush 9, 2) := by decide +kernel
theorem dL_areTubes_43 : decode cL_areTubes 43 = .ok (.invokevirtual 114, 3) := by decide +kernel
theorem dL_areTubes_46 : decode cL_areTubes 46 = .ok (.aload_n 0, 1) := by decide +kernel
theorem dL_areTubes_47 : decode cL_areTubes 47 = .ok (.iconst 1, 1) := by decide +kernel
theorem dL_areTubes_48 : decode cL_areTubes 48 = .ok (.invokevirtual 75, 3) := by decide +kernel
theorem dL_areTubes_51 : decode cL_areTubes 51 = .ok (.aload_n 0, 1) := by decide +kernel
theorem dL_areTubes_52 : decode cL_areTubes 52 = .ok (.aload_n 0, 1) := by decide +kernel
theorem dL_areTubes_53 : decode cL_areTubes 53 = .ok (.iload_n 2, 1) := by decide +kernel
theorem dL_areTubes_54 : decode cL_areTubes 54 = .ok (.iconst 1, 1) := by decide +kernel
theorem dL_areTubes_55 : decode cL_areTubes 55 = .ok (.invokevirtual 114, 3) := by decide +kernel
theorem dL_areTubes_58 : decode cL_areTubes 58 = .ok (.invokevirtual 139, 3) := by decide +kernel
theorem dL_areTubes_61 : decode cL_areTubes 61 = .ok (.isub, 1) := by decide +kernel
theorem dL_areTubes_62 : decode cL_areTubes 62 = .ok (.sipush 1000, 3) := by decide +kernel
theorem dL_areTubes_65 : decode cL_areTubes 65 = .ok (.imul, 1) := by decide +kernel
theorem dL_areTubes_66 : decode cL_areTubes 66 = .ok (.aload_n 0, 1) := by decide +kernel
theorem dL_areTubes_67 : decode cL_areTubes 67 = .ok (.iload_n 3, 1) := by decide +kernel
theorem dL_areTubes_68 : decode cL_areTubes 68 = .ok (.iconst 0, 1) := by decide +kernel
theorem dL_areTubes_69 : decode cL_areTubes 69 = .ok (.invokevirtual 141, 3) := by decide +kernel
theorem dL_areTubes_72 : decode cL_areTubes 72 = .ok (.idiv, 1) := by decide +kernel
theorem dL_areTubes_73 : decode cL_areTubes 73 = .ok (.if_icmp .ne 26, 3) := by decide +kernel
theorem dL_areTubes_76 : decode cL_areTubes 76 = .ok (.aload_n 0, 1) := by decide +kernel
theorem dL_areTubes_77 : decode cL_areTubes 77 = .ok (.iload_n 2, 1) := by decide +kernel
theorem dL_areTubes_78 : decode cL_areTubes 78 = .ok (.bipush 10, 2) := by decide +kernel
theorem dL_areTubes_80 : decode cL_areTubes 80 = .ok (.invokevirtual 114, 3) := by decide +kernel
theorem dL_areTubes_83 : decode cL_areTubes 83 = .ok (.aload_n 0, 1) := by decide +kernel
theorem dL_areTubes_84 : decode cL_areTubes 84 = .ok (.iload_n 3, 1) := by decide +kernel
theorem dL_areTubes_85 : decode cL_areTubes 85 = .ok (.iconst 2, 1) := by decide +kernel
theorem dL_areTubes_86 : decode cL_areTubes 86 = .ok (.invokevirtual 141, 3) := by decide +kernel
theorem dL_areTubes_89 : decode cL_areTubes 89 = .ok (.aload_n 0, 1) := by decide +kernel
theorem dL_areTubes_90 : decode cL_areTubes 90 = .ok (.iload_n 2, 1) := by decide +kernel
theorem dL_areTubes_91 : decode cL_areTubes 91 = .ok (.iconst 2, 1) := by decide +kernel
theorem dL_areTubes_92 : decode cL_areTubes 92 = .ok (.invokevirtual 114, 3) := by decide +kernel
theorem dL_areTubes_95 : decode cL_areTubes 95 = .ok (.idiv, 1) := by decide +kernel
theorem dL_areTubes_96 : decode cL_areTubes 96 = .ok (.if_icmp .eq 5, 3) := by decide +kernel
theorem dL_areTubes_99 : decode cL_areTubes 99 = .ok (.iconst 0, 1) := by decide +kernel
theorem dL_areTubes_100 : decode cL_areTubes 100 = .ok (.ireturn, 1) := by decide +kernel
theorem dL_areTubes_101 : decode cL_areTubes 101 = .ok (.aload_n 0, 1) := by decide +kernel
theorem dL_areTubes_102 : decode cL_areTubes 102 = .ok (.iload_n 2, 1) := by decide +kernel
theorem dL_areTubes_103 : decode cL_areTubes 103 = .ok (.aload_n 0, 1) := by decide +kernel
theorem dL_areTubes_104 : decode cL_areTubes 104 = .ok (.iload_n 3, 1) := by decide +kernel
theorem dL_areTubes_105 : decode cL_areTubes 105 = .ok (.iconst 3, 1) := by decide +kernel
theorem dL_areTubes_106 : decode cL_areTubes 106 = .ok (.invokevirtual 141, 3) := by decide +kernel
theorem dL_areTubes_109 : decode cL_areTubes 109 = .ok (.i2l, 1) := by decide +kernel
theorem dL_areTubes_110 : decode cL_areTubes 110 = .ok (.invokestatic 143, 3) := by decide +kernel
theorem dL_areTubes_113 : decode cL_areTubes 113 = .ok (.lstore 5, 2) := by decide +kernel
theorem dL_areTubes_115 : decode cL_areTubes 115 = .ok (.bipush 100, 2) := by decide +kernel
theorem dL_areTubes_117 : decode cL_areTubes 117 = .ok (.aload_n 0, 1) := by decide +kernel
theorem dL_areTubes_118 : decode cL_areTubes 118 = .ok (.iload_n 2, 1) := by decide +kernel
theorem dL_areTubes_119 : decode cL_areTubes 119 = .ok (.iconst 4, 1) := by decide +kernel
theorem dL_areTubes_120 : decode cL_areTubes 120 = .ok (.invokevirtual 114, 3) := by decide +kernel
theorem dL_areTubes_123 : decode cL_areTubes 123 = .ok (.imul, 1) := by decide +kernel
theorem dL_areTubes_124 : decode cL_areTubes 124 = .ok (.istore 7, 2) := by decide +kernel
theorem dL_areTubes_126 : decode cL_areTubes 126 = .ok (.iload 4, 2) := by decide +kernel
theorem dL_areTubes_128 : decode cL_areTubes 128 = .ok (.ifCond .ne 54, 3) := by decide +kernel
theorem dL_areTubes_131 : decode cL_areTubes 131 = .ok (.lload 5, 2) := by decide +kernel
theorem dL_areTubes_133 : decode cL_areTubes 133 = .ok (.lconst 0, 1) := by decide +kernel
theorem dL_areTubes_134 : decode cL_areTubes 134 = .ok (.lcmp, 1) := by decide +kernel
theorem dL_areTubes_135 : decode cL_areTubes 135 = .ok (.ifCond .lt 66, 3) := by decide +kernel
theorem dL_areTubes_138 : decode cL_areTubes 138 = .ok (.lload 5, 2) := by decide +kernel
theorem dL_areTubes_140 : decode cL_areTubes 140 = .ok (.iload 7, 2) := by decide +kernel
theorem dL_areTubes_142 : decode cL_areTubes 142 = .ok (.i2l, 1) := by decide +kernel
theorem dL_areTubes_143 : decode cL_areTubes 143 = .ok (.lcmp, 1) := by decide +kernel
theorem dL_areTubes_144 : decode cL_areTubes 144 = .ok (.ifCond .gt 57, 3) := by decide +kernel
theorem dL_areTubes_147 : decode cL_areTubes 147 = .ok (.aload_n 0, 1) := by decide +kernel
theorem dL_areTubes_148 : decode cL_areTubes 148 = .ok (.iload_n 2, 1) := by decide +kernel
theorem dL_areTubes_149 : decode cL_areTubes 149 = .ok (.bipush 7, 2) := by decide +kernel
theorem dL_areTubes_151 : decode cL_areTubes 151 = .ok (.invokevirtual 114, 3) := by decide +kernel
theorem dL_areTubes_154 : decode cL_areTubes 154 = .ok (.i2l, 1) := by decide +kernel
theorem dL_areTubes_155 : decode cL_areTubes 155 = .ok (.lload 5, 2) := by decide +kernel
theorem dL_areTubes_157 : decode cL_areTubes 157 = .ok (.lcmp, 1) := by decide +kernel
theorem dL_areTubes_158 : decode cL_areTubes 158 = .ok (.ifCond .ne 43, 3) := by decide +kernel
theorem dL_areTubes_161 : decode cL_areTubes 161 = .ok (.aload_n 0, 1) := by decide +kernel
theorem dL_areTubes_162 : decode cL_areTubes 162 = .ok (.iload_n 2, 1) := by decide +kernel
theorem dL_areTubes_163 : decode cL_areTubes 163 = .ok (.invokevirtual 147, 3) := by decide +kernel
theorem dL_areTubes_166 : decode cL_areTubes 166 = .ok (.iload 7, 2) := by decide +kernel
theorem dL_areTubes_168 : decode cL_areTubes 168 = .ok (.aload_n 0, 1) := by decide +kernel
theorem dL_areTubes_169 : decode cL_areTubes 169 = .ok (.iload_n 2, 1) := by decide +kernel
theorem dL_areTubes_170 : decode cL_areTubes 170 = .ok (.bipush 7, 2) := by decide +kernel
theorem dL_areTubes_172 : decode cL_areTubes 172 = .ok (.invokevirtual 114, 3) := by decide +kernel
theorem dL_areTubes_175 : decode cL_areTubes 175 = .ok (.isub, 1) := by decide +kernel
theorem dL_areTubes_176 : decode cL_areTubes 176 = .ok (.if_icmp .eq 27, 3) := by decide +kernel
theorem dL_areTubes_179 : decode cL_areTubes 179 = .ok (.goto 22, 3) := by decide +kernel
theorem dL_areTubes_182 : decode cL_areTubes 182 = .ok (.aload_n 0, 1) := by decide +kernel
theorem dL_areTubes_183 : decode cL_areTubes 183 = .ok (.iload_n 2, 1) := by decide +kernel
theorem dL_areTubes_184 : decode cL_areTubes 184 = .ok (.bipush 7, 2) := by decide +kernel
theorem dL_areTubes_186 : decode cL_areTubes 186 = .ok (.invokevirtual 114, 3) := by decide +kernel
theorem dL_areTubes_189 : decode cL_areTubes 189 = .ok (.ifCond .ne 12, 3) := by decide +kernel
theorem dL_areTubes_192 : decode cL_areTubes 192 = .ok (.aload_n 0, 1) := by decide +kernel
theorem dL_areTubes_193 : decode cL_areTubes 193 = .ok (.iload_n 2, 1) := by decide +kernel
theorem dL_areTubes_194 : decode cL_areTubes 194 = .ok (.invokevirtual 147, 3) := by decide +kernel
theorem dL_areTubes_197 : decode cL_areTubes 197 = .ok (.iconst (-1), 1) := by decide +kernel
theorem dL_areTubes_198 : decode cL_areTubes 198 = .ok (.if_icmp .eq 5, 3) := by decide +kernel
theorem dL_areTubes_201 : decode cL_areTubes 201 = .ok (.iconst 0, 1) := by decide +kernel
theorem dL_areTubes_202 : decode cL_areTubes 202 = .ok (.ireturn, 1) := by decide +kernel
theorem dL_areTubes_203 : decode cL_areTubes 203 = .ok (.aload_n 0, 1) := by decide +kernel
theorem dL_areTubes_204 : decode cL_areTubes 204 = .ok (.iload_n 2, 1) := by decide +kernel
theorem dL_areTubes_205 : decode cL_areTubes 205 = .ok (.bipush 8, 2) := by decide +kernel
theorem dL_areTubes_207 : decode cL_areTubes 207 = .ok (.invokevirtual 114, 3) := by decide +kernel
theorem dL_areTubes_210 : decode cL_areTubes 210 = .ok (.aload_n 0, 1) := by decide +kernel
theorem dL_areTubes_211 : decode cL_areTubes 211 = .ok (.iload_n 2, 1) := by decide +kernel
theorem dL_areTubes_212 : decode cL_areTubes 212 = .ok (.bipush 7, 2) := by decide +kernel
theorem dL_areTubes_214 : decode cL_areTubes 214 = .ok (.invokevirtual 114, 3) := by decide +kernel
theorem dL_areTubes_217 : decode cL_areTubes 217 = .ok (.bipush 10, 2) := by decide +kernel
theorem dL_areTubes_219 : decode cL_areTubes 219 = .ok (.idiv, 1) := by decide +kernel
theorem dL_areTubes_220 : decode cL_areTubes 220 = .ok (.aload_n 0, 1) := by decide +kernel
theorem dL_areTubes_221 : decode cL_areTubes 221 = .ok (.iload_n 2, 1) := by decide +kernel
theorem dL_areTubes_222 : decode cL_areTubes 222 = .ok (.iconst 5, 1) := by decide +kernel
theorem dL_areTubes_223 : decode cL_areTubes 223 = .ok (.invokevirtual 114, 3) := by decide +kernel
theorem dL_areTubes_226 : decode cL_areTubes 226 = .ok (.iadd, 1) := by decide +kernel
theorem dL_areTubes_227 : decode cL_areTubes 227 = .ok (.if_icmp .eq 5, 3) := by decide +kernel
theorem dL_areTubes_230 : decode cL_areTubes 230 = .ok (.iconst 0, 1) := by decide +kernel
theorem dL_areTubes_231 : decode cL_areTubes 231 = .ok (.ireturn, 1) := by decide +kernel
theorem dL_areTubes_232 : decode cL_areTubes 232 = .ok (.iinc 2 1, 3) := by decide +kernel
theorem dL_areTubes_235 : decode cL_areTubes 235 = .ok (.goto (-229), 3) := by decide +kernel
theorem dL_areTubes_238 : decode cL_areTubes 238 = .ok (.aload_n 0, 1) := by decide +kernel
theorem dL_areTubes_239 : decode cL_areTubes 239 = .ok (.iconst 3, 1) := by decide +kernel
theorem dL_areTubes_240 : decode cL_areTubes 240 = .ok (.invokevirtual 75, 3) := by decide +kernel
theorem dL_areTubes_243 : decode cL_areTubes 243 = .ok (.aload_n 1, 1) := by decide +kernel
theorem dL_areTubes_244 : decode cL_areTubes 244 = .ok (.iconst 0, 1) := by decide +kernel
theorem dL_areTubes_245 : decode cL_areTubes 245 = .ok (.iaload, 1) := by decide +kernel
theorem dL_areTubes_246 : decode cL_areTubes 246 = .ok (.if_icmp .ne 29, 3) := by decide +kernel
theorem dL_areTubes_249 : decode cL_areTubes 249 = .ok (.aload_n 0, 1) := by decide +kernel
theorem dL_areTubes_250 : decode cL_areTubes 250 = .ok (.iconst 4, 1) := by decide +kernel
theorem dL_areTubes_251 : decode cL_areTubes 251 = .ok (.invokevirtual 75, 3) := by decide +kernel
theorem dL_areTubes_254 : decode cL_areTubes 254 = .ok (.aload_n 1, 1) := by decide +kernel
theorem dL_areTubes_255 : decode cL_areTubes 255 = .ok (.iconst 1, 1) := by decide +kernel
theorem dL_areTubes_256 : decode cL_areTubes 256 = .ok (.iaload, 1) := by decide +kernel
theorem dL_areTubes_257 : decode cL_areTubes 257 = .ok (.if_icmp .ne 18, 3) := by decide +kernel
theorem dL_areTubes_260 : decode cL_areTubes 260 = .ok (.aload_n 0, 1) := by decide +kernel
theorem dL_areTubes_261 : decode cL_areTubes 261 = .ok (.iconst 5, 1) := by decide +kernel
theorem dL_areTubes_262 : decode cL_areTubes 262 = .ok (.invokevirtual 75, 3) := by decide +kernel
theorem dL_areTubes_265 : decode cL_areTubes 265 = .ok (.aload_n 1, 1) := by decide +kernel
theorem dL_areTubes_266 : decode cL_areTubes 266 = .ok (.iconst 2, 1) := by decide +kernel
theorem dL_areTubes_267 : decode cL_areTubes 267 = .ok (.iaload, 1) := by decide +kernel
theorem dL_areTubes_268 : decode cL_areTubes 268 = .ok (.if_icmp .ne 7, 3) := by decide +kernel
theorem dL_areTubes_271 : decode cL_areTubes 271 = .ok (.iconst 1, 1) := by decide +kernel
theorem dL_areTubes_272 : decode cL_areTubes 272 = .ok (.goto 4, 3) := by decide +kernel
theorem dL_areTubes_275 : decode cL_areTubes 275 = .ok (.iconst 0, 1) := by decide +kernel
theorem dL_areTubes_276 : decode cL_areTubes 276 = .ok (.ireturn, 1) := by decide +kernel
theorem dL_isLevel_0 : decode cL_isLevel 0 = .ok (.aload_n 0, 1) := by decide +kernel
theorem dL_isLevel_1 : decode cL_isLevel 1 = .ok (.iload_n 1, 1) := by decide +kernel
theorem dL_isLevel_2 : decode cL_isLevel 2 = .ok (.iconst 3, 1) := by decide +kernel
theorem dL_isLevel_3 : decode cL_isLevel 3 = .ok (.invokevirtual 141, 3) := by decide +kernel
theorem dL_isLevel_6 : decode cL_isLevel 6 = .ok (.i2l, 1) := by decide +kernel
theorem dL_isLevel_7 : decode cL_isLevel 7 = .ok (.lstore_n 2, 1) := by decide +kernel
theorem dL_isLevel_8 : decode cL_isLevel 8 = .ok (.aload_n 0, 1) := by decide +kernel
theorem dL_isLevel_9 : decode cL_isLevel 9 = .ok (.iload_n 1, 1) := by decide +kernel
theorem dL_isLevel_10 : decode cL_isLevel 10 = .ok (.iconst 1, 1) := by decide +kernel
theorem dL_isLevel_11 : decode cL_isLevel 11 = .ok (.invokevirtual 141, 3) := by decide +kernel
theorem dL_isLevel_14 : decode cL_isLevel 14 = .ok (.i2l, 1) := by decide +kernel
theorem dL_isLevel_15 : decode cL_isLevel 15 = .ok (.lstore 4, 2) := by decide +kernel
theorem dL_isLevel_17 : decode cL_isLevel 17 = .ok (.lconst 0, 1) := by decide +kernel
theorem dL_isLevel_18 : decode cL_isLevel 18 = .ok (.lstore 6, 2) := by decide +kernel
theorem dL_isLevel_20 : decode cL_isLevel 20 = .ok (.lconst 0, 1) := by decide +kernel
theorem dL_isLevel_21 : decode cL_isLevel 21 = .ok (.lstore 8, 2) := by decide +kernel
theorem dL_isLevel_23 : decode cL_isLevel 23 = .ok (.iconst 0, 1) := by decide +kernel
theorem dL_isLevel_24 : decode cL_isLevel 24 = .ok (.istore 10, 2) := by decide +kernel
theorem dL_isLevel_26 : decode cL_isLevel 26 = .ok (.iload 10, 2) := by decide +kernel
theorem dL_isLevel_28 : decode cL_isLevel 28 = .ok (.aload_n 0, 1) := by decide +kernel
theorem dL_isLevel_29 : decode cL_isLevel 29 = .ok (.iconst 2, 1) := by decide +kernel
theorem dL_isLevel_30 : decode cL_isLevel 30 = .ok (.invokevirtual 75, 3) := by decide +kernel
theorem dL_isLevel_33 : decode cL_isLevel 33 = .ok (.if_icmp .ge 105, 3) := by decide +kernel
theorem dL_isLevel_36 : decode cL_isLevel 36 = .ok (.aload_n 0, 1) := by decide +kernel
theorem dL_isLevel_37 : decode cL_isLevel 37 = .ok (.iload 10, 2) := by decide +kernel
theorem dL_isLevel_39 : decode cL_isLevel 39 = .ok (.iconst 0, 1) := by decide +kernel
theorem dL_isLevel_40 : decode cL_isLevel 40 = .ok (.invokevirtual 114, 3) := by decide +kernel
theorem dL_isLevel_43 : decode cL_isLevel 43 = .ok (.iload_n 1, 1) := by decide +kernel
theorem dL_isLevel_44 : decode cL_isLevel 44 = .ok (.if_icmp .ne 88, 3) := by decide +kernel
theorem dL_isLevel_47 : decode cL_isLevel 47 = .ok (.aload_n 0, 1) := by decide +kernel
theorem dL_isLevel_48 : decode cL_isLevel 48 = .ok (.iload 10, 2) := by decide +kernel
theorem dL_isLevel_50 : decode cL_isLevel 50 = .ok (.bipush 6, 2) := by decide +kernel
theorem dL_isLevel_52 : decode cL_isLevel 52 = .ok (.invokevirtual 114, 3) := by decide +kernel
theorem dL_isLevel_55 : decode cL_isLevel 55 = .ok (.ifCond .eq 6, 3) := by decide +kernel
theorem dL_isLevel_58 : decode cL_isLevel 58 = .ok (.goto 74, 3) := by decide +kernel
theorem dL_isLevel_61 : decode cL_isLevel 61 = .ok (.aload_n 0, 1) := by decide +kernel
theorem dL_isLevel_62 : decode cL_isLevel 62 = .ok (.iload 10, 2) := by decide +kernel
theorem dL_isLevel_64 : decode cL_isLevel 64 = .ok (.iconst 2, 1) := by decide +kernel
theorem dL_isLevel_65 : decode cL_isLevel 65 = .ok (.invokevirtual 114, 3) := by decide +kernel
theorem dL_isLevel_68 : decode cL_isLevel 68 = .ok (.aload_n 0, 1) := by decide +kernel
theorem dL_isLevel_69 : decode cL_isLevel 69 = .ok (.iload 10, 2) := by decide +kernel
theorem dL_isLevel_71 : decode cL_isLevel 71 = .ok (.iconst 2, 1) := by decide +kernel
theorem dL_isLevel_72 : decode cL_isLevel 72 = .ok (.invokevirtual 114, 3) := by decide +kernel
theorem dL_isLevel_75 : decode cL_isLevel 75 = .ok (.imul, 1) := by decide +kernel
theorem dL_isLevel_76 : decode cL_isLevel 76 = .ok (.i2l, 1) := by decide +kernel
theorem dL_isLevel_77 : decode cL_isLevel 77 = .ok (.lstore 11, 2) := by decide +kernel
theorem dL_isLevel_79 : decode cL_isLevel 79 = .ok (.lload 6, 2) := by decide +kernel
theorem dL_isLevel_81 : decode cL_isLevel 81 = .ok (.aload_n 0, 1) := by decide +kernel
theorem dL_isLevel_82 : decode cL_isLevel 82 = .ok (.iload 10, 2) := by decide +kernel
theorem dL_isLevel_84 : decode cL_isLevel 84 = .ok (.bipush 7, 2) := by decide +kernel
theorem dL_isLevel_86 : decode cL_isLevel 86 = .ok (.invokevirtual 114, 3) := by decide +kernel
theorem dL_isLevel_89 : decode cL_isLevel 89 = .ok (.i2l, 1) := by decide +kernel
theorem dL_isLevel_90 : decode cL_isLevel 90 = .ok (.lload 11, 2) := by decide +kernel
theorem dL_isLevel_92 : decode cL_isLevel 92 = .ok (.lmul, 1) := by decide +kernel
theorem dL_isLevel_93 : decode cL_isLevel 93 = .ok (.ladd, 1) := by decide +kernel
theorem dL_isLevel_94 : decode cL_isLevel 94 = .ok (.lstore 6, 2) := by decide +kernel
theorem dL_isLevel_96 : decode cL_isLevel 96 = .ok (.lload 8, 2) := by decide +kernel
theorem dL_isLevel_98 : decode cL_isLevel 98 = .ok (.lconst 0, 1) := by decide +kernel
theorem dL_isLevel_99 : decode cL_isLevel 99 = .ok (.ldc2_w 150, 3) := by decide +kernel
theorem dL_isLevel_102 : decode cL_isLevel 102 = .ok (.aload_n 0, 1) := by decide +kernel
theorem dL_isLevel_103 : decode cL_isLevel 103 = .ok (.iload 10, 2) := by decide +kernel
theorem dL_isLevel_105 : decode cL_isLevel 105 = .ok (.iconst 4, 1) := by decide +kernel
theorem dL_isLevel_106 : decode cL_isLevel 106 = .ok (.invokevirtual 114, 3) := by decide +kernel
theorem dL_isLevel_109 : decode cL_isLevel 109 = .ok (.i2l, 1) := by decide +kernel
theorem dL_isLevel_110 : decode cL_isLevel 110 = .ok (.lmul, 1) := by decide +kernel
theorem dL_isLevel_111 : decode cL_isLevel 111 = .ok (.aload_n 0, 1) := by decide +kernel
theorem dL_isLevel_112 : decode cL_isLevel 112 = .ok (.iload 10, 2) := by decide +kernel
theorem dL_isLevel_114 : decode cL_isLevel 114 = .ok (.lload_n 2, 1) := by decide +kernel
theorem dL_isLevel_115 : decode cL_isLevel 115 = .ok (.lconst 1, 1) := by decide +kernel
theorem dL_isLevel_116 : decode cL_isLevel 116 = .ok (.ladd, 1) := by decide +kernel
theorem dL_isLevel_117 : decode cL_isLevel 117 = .ok (.invokestatic 143, 3) := by decide +kernel
theorem dL_isLevel_120 : decode cL_isLevel 120 = .ok (.invokestatic 152, 3) := by decide +kernel
theorem dL_isLevel_123 : decode cL_isLevel 123 = .ok (.invokestatic 158, 3) := by decide +kernel
theorem dL_isLevel_126 : decode cL_isLevel 126 = .ok (.lload 11, 2) := by decide +kernel
theorem dL_isLevel_128 : decode cL_isLevel 128 = .ok (.lmul, 1) := by decide +kernel
theorem dL_isLevel_129 : decode cL_isLevel 129 = .ok (.ladd, 1) := by decide +kernel
theorem dL_isLevel_130 : decode cL_isLevel 130 = .ok (.lstore 8, 2) := by decide +kernel
theorem dL_isLevel_132 : decode cL_isLevel 132 = .ok (.iinc 10 1, 3) := by decide +kernel
theorem dL_isLevel_135 : decode cL_isLevel 135 = .ok (.goto (-109), 3) := by decide +kernel
theorem dL_isLevel_138 : decode cL_isLevel 138 = .ok (.aload_n 0, 1) := by decide +kernel
theorem dL_isLevel_139 : decode cL_isLevel 139 = .ok (.iload_n 1, 1) := by decide +kernel
theorem dL_isLevel_140 : decode cL_isLevel 140 = .ok (.iconst 0, 1) := by decide +kernel
theorem dL_isLevel_141 : decode cL_isLevel 141 = .ok (.invokevirtual 161, 3) := by decide +kernel
theorem dL_isLevel_144 : decode cL_isLevel 144 = .ok (.lstore 10, 2) := by decide +kernel
theorem dL_isLevel_146 : decode cL_isLevel 146 = .ok (.aload_n 0, 1) := by decide +kernel
theorem dL_isLevel_147 : decode cL_isLevel 147 = .ok (.iload_n 1, 1) := by decide +kernel
theorem dL_isLevel_148 : decode cL_isLevel 148 = .ok (.iconst 1, 1) := by decide +kernel
theorem dL_isLevel_149 : decode cL_isLevel 149 = .ok (.invokevirtual 161, 3) := by decide +kernel
theorem dL_isLevel_152 : decode cL_isLevel 152 = .ok (.lload 6, 2) := by decide +kernel
theorem dL_isLevel_154 : decode cL_isLevel 154 = .ok (.lcmp, 1) := by decide +kernel
theorem dL_isLevel_155 : decode cL_isLevel 155 = .ok (.ifCond .ne 34, 3) := by decide +kernel
theorem dL_isLevel_158 : decode cL_isLevel 158 = .ok (.aload_n 0, 1) := by decide +kernel
theorem dL_isLevel_159 : decode cL_isLevel 159 = .ok (.iload_n 1, 1) := by decide +kernel
theorem dL_isLevel_160 : decode cL_isLevel 160 = .ok (.iconst 4, 1) := by decide +kernel
theorem dL_isLevel_161 : decode cL_isLevel 161 = .ok (.invokevirtual 161, 3) := by decide +kernel
theorem dL_isLevel_164 : decode cL_isLevel 164 = .ok (.lload 10, 2) := by decide +kernel
theorem dL_isLevel_166 : decode cL_isLevel 166 = .ok (.lload 4, 2) := by decide +kernel
theorem dL_isLevel_168 : decode cL_isLevel 168 = .ok (.lload_n 2, 1) := by decide +kernel
theorem dL_isLevel_169 : decode cL_isLevel 169 = .ok (.lmul, 1) := by decide +kernel
theorem dL_isLevel_170 : decode cL_isLevel 170 = .ok (.lsub, 1) := by decide +kernel
theorem dL_isLevel_171 : decode cL_isLevel 171 = .ok (.lload 6, 2) := by decide +kernel
theorem dL_isLevel_173 : decode cL_isLevel 173 = .ok (.lsub, 1) := by decide +kernel
theorem dL_isLevel_174 : decode cL_isLevel 174 = .ok (.lcmp, 1) := by decide +kernel
theorem dL_isLevel_175 : decode cL_isLevel 175 = .ok (.ifCond .ne 14, 3) := by decide +kernel
theorem dL_isLevel_178 : decode cL_isLevel 178 = .ok (.aload_n 0, 1) := by decide +kernel
theorem dL_isLevel_179 : decode cL_isLevel 179 = .ok (.iload_n 1, 1) := by decide +kernel
theorem dL_isLevel_180 : decode cL_isLevel 180 = .ok (.iconst 4, 1) := by decide +kernel
theorem dL_isLevel_181 : decode cL_isLevel 181 = .ok (.invokevirtual 161, 3) := by decide +kernel
theorem dL_isLevel_184 : decode cL_isLevel 184 = .ok (.lconst 0, 1) := by decide +kernel
theorem dL_isLevel_185 : decode cL_isLevel 185 = .ok (.lcmp, 1) := by decide +kernel
theorem dL_isLevel_186 : decode cL_isLevel 186 = .ok (.ifCond .ge 5, 3) := by decide +kernel
theorem dL_isLevel_189 : decode cL_isLevel 189 = .ok (.iconst 0, 1) := by decide +kernel
theorem dL_isLevel_190 : decode cL_isLevel 190 = .ok (.ireturn, 1) := by decide +kernel
theorem dL_isLevel_191 : decode cL_isLevel 191 = .ok (.lload 4, 2) := by decide +kernel
theorem dL_isLevel_193 : decode cL_isLevel 193 = .ok (.lload_n 2, 1) := by decide +kernel
theorem dL_isLevel_194 : decode cL_isLevel 194 = .ok (.lconst 1, 1) := by decide +kernel
theorem dL_isLevel_195 : decode cL_isLevel 195 = .ok (.ladd, 1) := by decide +kernel
theorem dL_isLevel_196 : decode cL_isLevel 196 = .ok (.lmul, 1) := by decide +kernel
theorem dL_isLevel_197 : decode cL_isLevel 197 = .ok (.lload 8, 2) := by decide +kernel
theorem dL_isLevel_199 : decode cL_isLevel 199 = .ok (.ladd, 1) := by decide +kernel
theorem dL_isLevel_200 : decode cL_isLevel 200 = .ok (.lload 10, 2) := by decide +kernel
theorem dL_isLevel_202 : decode cL_isLevel 202 = .ok (.lcmp, 1) := by decide +kernel
theorem dL_isLevel_203 : decode cL_isLevel 203 = .ok (.ifCond .le 26, 3) := by decide +kernel
theorem dL_isLevel_206 : decode cL_isLevel 206 = .ok (.lload 10, 2) := by decide +kernel
theorem dL_isLevel_208 : decode cL_isLevel 208 = .ok (.aload_n 0, 1) := by decide +kernel
theorem dL_isLevel_209 : decode cL_isLevel 209 = .ok (.iload_n 1, 1) := by decide +kernel
theorem dL_isLevel_210 : decode cL_isLevel 210 = .ok (.iconst 3, 1) := by decide +kernel
theorem dL_isLevel_211 : decode cL_isLevel 211 = .ok (.invokevirtual 161, 3) := by decide +kernel
theorem dL_isLevel_214 : decode cL_isLevel 214 = .ok (.aload_n 0, 1) := by decide +kernel
theorem dL_isLevel_215 : decode cL_isLevel 215 = .ok (.iload_n 1, 1) := by decide +kernel
theorem dL_isLevel_216 : decode cL_isLevel 216 = .ok (.iconst 2, 1) := by decide +kernel
theorem dL_isLevel_217 : decode cL_isLevel 217 = .ok (.invokevirtual 161, 3) := by decide +kernel
theorem dL_isLevel_220 : decode cL_isLevel 220 = .ok (.lsub, 1) := by decide +kernel
theorem dL_isLevel_221 : decode cL_isLevel 221 = .ok (.lcmp, 1) := by decide +kernel
theorem dL_isLevel_222 : decode cL_isLevel 222 = .ok (.ifCond .ne 7, 3) := by decide +kernel
theorem dL_isLevel_225 : decode cL_isLevel 225 = .ok (.iconst 1, 1) := by decide +kernel
theorem dL_isLevel_226 : decode cL_isLevel 226 = .ok (.goto 4, 3) := by decide +kernel
theorem dL_isLevel_229 : decode cL_isLevel 229 = .ok (.iconst 0, 1) := by decide +kernel
theorem dL_isLevel_230 : decode cL_isLevel 230 = .ok (.ireturn, 1) := by decide +kernel
theorem dJ0_length_8abf5_0 : decode cJ0_length_8abf5 0 = .ok (.aload_n 0, 1) := by decide +kernel
theorem dJ0_length_8abf5_1 : decode cJ0_length_8abf5 1 = .ok (.getfield 9, 3) := by decide +kernel
theorem dJ0_length_8abf5_4 : decode cJ0_length_8abf5 4 = .ok (.arraylength, 1) := by decide +kernel
theorem dJ0_length_8abf5_5 : decode cJ0_length_8abf5 5 = .ok (.aload_n 0, 1) := by decide +kernel
theorem dJ0_length_8abf5_6 : decode cJ0_length_8abf5 6 = .ok (.invokevirtual 335, 3) := by decide +kernel
theorem dJ0_length_8abf5_9 : decode cJ0_length_8abf5 9 = .ok (.ishr, 1) := by decide +kernel
theorem dJ0_length_8abf5_10 : decode cJ0_length_8abf5 10 = .ok (.ireturn, 1) := by decide +kernel
theorem dJ0_coder_7d493_0 : decode cJ0_coder_7d493 0 = .ok (.getstatic 38, 3) := by decide +kernel
theorem dJ0_coder_7d493_3 : decode cJ0_coder_7d493 3 = .ok (.ifCond .eq 10, 3) := by decide +kernel
theorem dJ0_coder_7d493_6 : decode cJ0_coder_7d493 6 = .ok (.aload_n 0, 1) := by decide +kernel
theorem dJ0_coder_7d493_7 : decode cJ0_coder_7d493 7 = .ok (.getfield 15, 3) := by decide +kernel
theorem dJ0_coder_7d493_10 : decode cJ0_coder_7d493 10 = .ok (.goto 4, 3) := by decide +kernel
theorem dJ0_coder_7d493_13 : decode cJ0_coder_7d493 13 = .ok (.iconst 1, 1) := by decide +kernel
theorem dJ0_coder_7d493_14 : decode cJ0_coder_7d493 14 = .ok (.ireturn, 1) := by decide +kernel
theorem dJ0_charAt_5068e_0 : decode cJ0_charAt_5068e 0 = .ok (.aload_n 0, 1) := by decide +kernel
theorem dJ0_charAt_5068e_1 : decode cJ0_charAt_5068e 1 = .ok (.invokevirtual 492, 3) := by decide +kernel
theorem dJ0_charAt_5068e_4 : decode cJ0_charAt_5068e 4 = .ok (.ifCond .eq 12, 3) := by decide +kernel
theorem dJ0_charAt_5068e_7 : decode cJ0_charAt_5068e 7 = .ok (.aload_n 0, 1) := by decide +kernel
theorem dJ0_charAt_5068e_8 : decode cJ0_charAt_5068e 8 = .ok (.getfield 9, 3) := by decide +kernel
theorem dJ0_charAt_5068e_11 : decode cJ0_charAt_5068e 11 = .ok (.iload_n 1, 1) := by decide +kernel
theorem dJ0_charAt_5068e_12 : decode cJ0_charAt_5068e 12 = .ok (.invokestatic 495, 3) := by decide +kernel
theorem dJ0_charAt_5068e_15 : decode cJ0_charAt_5068e 15 = .ok (.ireturn, 1) := by decide +kernel
theorem dJ0_charAt_5068e_16 : decode cJ0_charAt_5068e 16 = .ok (.aload_n 0, 1) := by decide +kernel
theorem dJ0_charAt_5068e_17 : decode cJ0_charAt_5068e 17 = .ok (.getfield 9, 3) := by decide +kernel
theorem dJ0_charAt_5068e_20 : decode cJ0_charAt_5068e 20 = .ok (.iload_n 1, 1) := by decide +kernel
theorem dJ0_charAt_5068e_21 : decode cJ0_charAt_5068e 21 = .ok (.invokestatic 498, 3) := by decide +kernel
theorem dJ0_charAt_5068e_24 : decode cJ0_charAt_5068e 24 = .ok (.ireturn, 1) := by decide +kernel
theorem dJ0_isLatin1_aae02_0 : decode cJ0_isLatin1_aae02 0 = .ok (.getstatic 38, 3) := by decide +kernel
theorem dJ0_isLatin1_aae02_3 : decode cJ0_isLatin1_aae02 3 = .ok (.ifCond .eq 14, 3) := by decide +kernel
theorem dJ0_isLatin1_aae02_6 : decode cJ0_isLatin1_aae02 6 = .ok (.aload_n 0, 1) := by decide +kernel
theorem dJ0_isLatin1_aae02_7 : decode cJ0_isLatin1_aae02 7 = .ok (.getfield 15, 3) := by decide +kernel
theorem dJ0_isLatin1_aae02_10 : decode cJ0_isLatin1_aae02 10 = .ok (.ifCond .ne 7, 3) := by decide +kernel
theorem dJ0_isLatin1_aae02_13 : decode cJ0_isLatin1_aae02 13 = .ok (.iconst 1, 1) := by decide +kernel
theorem dJ0_isLatin1_aae02_14 : decode cJ0_isLatin1_aae02 14 = .ok (.goto 4, 3) := by decide +kernel
theorem dJ0_isLatin1_aae02_17 : decode cJ0_isLatin1_aae02 17 = .ok (.iconst 0, 1) := by decide +kernel
theorem dJ0_isLatin1_aae02_18 : decode cJ0_isLatin1_aae02 18 = .ok (.ireturn, 1) := by decide +kernel
theorem dJ0_checkIndex_df160_0 : decode cJ0_checkIndex_df160 0 = .ok (.iload_n 0, 1) := by decide +kernel
theorem dJ0_checkIndex_df160_1 : decode cJ0_checkIndex_df160 1 = .ok (.iload_n 1, 1) := by decide +kernel
theorem dJ0_checkIndex_df160_2 : decode cJ0_checkIndex_df160 2 = .ok (.getstatic 1053, 3) := by decide +kernel
theorem dJ0_checkIndex_df160_5 : decode cJ0_checkIndex_df160 5 = .ok (.invokestatic 1059, 3) := by decide +kernel
theorem dJ0_checkIndex_df160_8 : decode cJ0_checkIndex_df160 8 = .ok (.pop, 1) := by decide +kernel
theorem dJ0_checkIndex_df160_9 : decode cJ0_checkIndex_df160 9 = .ok (.return_, 1) := by decide +kernel
theorem dJ1_charAt_3b067_0 : decode cJ1_charAt_3b067 0 = .ok (.iload_n 1, 1) := by decide +kernel
theorem dJ1_charAt_3b067_1 : decode cJ1_charAt_3b067 1 = .ok (.aload_n 0, 1) := by decide +kernel
theorem dJ1_charAt_3b067_2 : decode cJ1_charAt_3b067 2 = .ok (.arraylength, 1) := by decide +kernel
theorem dJ1_charAt_3b067_3 : decode cJ1_charAt_3b067 3 = .ok (.invokestatic 9, 3) := by decide +kernel
theorem dJ1_charAt_3b067_6 : decode cJ1_charAt_3b067 6 = .ok (.aload_n 0, 1) := by decide +kernel
theorem dJ1_charAt_3b067_7 : decode cJ1_charAt_3b067 7 = .ok (.iload_n 1, 1) := by decide +kernel
theorem dJ1_charAt_3b067_8 : decode cJ1_charAt_3b067 8 = .ok (.baload, 1) := by decide +kernel
theorem dJ1_charAt_3b067_9 : decode cJ1_charAt_3b067 9 = .ok (.sipush 255, 3) := by decide +kernel
theorem dJ1_charAt_3b067_12 : decode cJ1_charAt_3b067 12 = .ok (.iand, 1) := by decide +kernel
theorem dJ1_charAt_3b067_13 : decode cJ1_charAt_3b067 13 = .ok (.i2c, 1) := by decide +kernel
theorem dJ1_charAt_3b067_14 : decode cJ1_charAt_3b067 14 = .ok (.ireturn, 1) := by decide +kernel
theorem dJ3_checkIndex_8e157_0 : decode cJ3_checkIndex_8e157 0 = .ok (.iload_n 0, 1) := by decide +kernel
theorem dJ3_checkIndex_8e157_1 : decode cJ3_checkIndex_8e157 1 = .ok (.ifCond .lt 8, 3) := by decide +kernel
theorem dJ3_checkIndex_8e157_4 : decode cJ3_checkIndex_8e157 4 = .ok (.iload_n 0, 1) := by decide +kernel
theorem dJ3_checkIndex_8e157_5 : decode cJ3_checkIndex_8e157 5 = .ok (.iload_n 1, 1) := by decide +kernel
theorem dJ3_checkIndex_8e157_6 : decode cJ3_checkIndex_8e157 6 = .ok (.if_icmp .lt 10, 3) := by decide +kernel
theorem dJ3_checkIndex_8e157_9 : decode cJ3_checkIndex_8e157 9 = .ok (.aload_n 2, 1) := by decide +kernel
theorem dJ3_checkIndex_8e157_10 : decode cJ3_checkIndex_8e157 10 = .ok (.iload_n 0, 1) := by decide +kernel
theorem dJ3_checkIndex_8e157_11 : decode cJ3_checkIndex_8e157 11 = .ok (.iload_n 1, 1) := by decide +kernel
theorem dJ3_checkIndex_8e157_12 : decode cJ3_checkIndex_8e157 12 = .ok (.invokestatic 95, 3) := by decide +kernel
theorem dJ3_checkIndex_8e157_15 : decode cJ3_checkIndex_8e157 15 = .ok (.athrow, 1) := by decide +kernel
theorem dJ3_checkIndex_8e157_16 : decode cJ3_checkIndex_8e157 16 = .ok (.iload_n 0, 1) := by decide +kernel
theorem dJ3_checkIndex_8e157_17 : decode cJ3_checkIndex_8e157 17 = .ok (.ireturn, 1) := by decide +kernel
theorem dJ4_init_da8c8_0 : decode cJ4_init_da8c8 0 = .ok (.aload_n 0, 1) := by decide +kernel
theorem dJ4_init_da8c8_1 : decode cJ4_init_da8c8 1 = .ok (.bipush 16, 2) := by decide +kernel
theorem dJ4_init_da8c8_3 : decode cJ4_init_da8c8 3 = .ok (.invokespecial 1, 3) := by decide +kernel
theorem dJ4_init_da8c8_6 : decode cJ4_init_da8c8 6 = .ok (.return_, 1) := by decide +kernel
theorem dJ5_init_d00df_0 : decode cJ5_init_d00df 0 = .ok (.aload_n 0, 1) := by decide +kernel
theorem dJ5_init_d00df_1 : decode cJ5_init_d00df 1 = .ok (.invokespecial 3, 3) := by decide +kernel
theorem dJ5_init_d00df_4 : decode cJ5_init_d00df 4 = .ok (.getstatic 18, 3) := by decide +kernel
theorem dJ5_init_d00df_7 : decode cJ5_init_d00df 7 = .ok (.ifCond .eq 18, 3) := by decide +kernel
theorem dJ5_init_d00df_10 : decode cJ5_init_d00df 10 = .ok (.aload_n 0, 1) := by decide +kernel
theorem dJ5_init_d00df_11 : decode cJ5_init_d00df 11 = .ok (.iload_n 1, 1) := by decide +kernel
theorem dJ5_init_d00df_12 : decode cJ5_init_d00df 12 = .ok (.newarray .byte, 2) := by decide +kernel
theorem dJ5_init_d00df_14 : decode cJ5_init_d00df 14 = .ok (.putfield 15, 3) := by decide +kernel
theorem dJ5_init_d00df_17 : decode cJ5_init_d00df 17 = .ok (.aload_n 0, 1) := by decide +kernel
theorem dJ5_init_d00df_18 : decode cJ5_init_d00df 18 = .ok (.iconst 0, 1) := by decide +kernel
theorem dJ5_init_d00df_19 : decode cJ5_init_d00df 19 = .ok (.putfield 22, 3) := by decide +kernel
theorem dJ5_init_d00df_22 : decode cJ5_init_d00df 22 = .ok (.goto 16, 3) := by decide +kernel
theorem dJ5_init_d00df_25 : decode cJ5_init_d00df 25 = .ok (.aload_n 0, 1) := by decide +kernel
theorem dJ5_init_d00df_26 : decode cJ5_init_d00df 26 = .ok (.iload_n 1, 1) := by decide +kernel
theorem dJ5_init_d00df_27 : decode cJ5_init_d00df 27 = .ok (.invokestatic 26, 3) := by decide +kernel
theorem dJ5_init_d00df_30 : decode cJ5_init_d00df 30 = .ok (.putfield 15, 3) := by decide +kernel
theorem dJ5_init_d00df_33 : decode cJ5_init_d00df 33 = .ok (.aload_n 0, 1) := by decide +kernel
theorem dJ5_init_d00df_34 : decode cJ5_init_d00df 34 = .ok (.iconst 1, 1) := by decide +kernel
theorem dJ5_init_d00df_35 : decode cJ5_init_d00df 35 = .ok (.putfield 22, 3) := by decide +kernel
theorem dJ5_init_d00df_38 : decode cJ5_init_d00df 38 = .ok (.return_, 1) := by decide +kernel
theorem dJ9_floorDiv_f86c9_0 : decode cJ9_floorDiv_f86c9 0 = .ok (.lload_n 0, 1) := by decide +kernel
theorem dJ9_floorDiv_f86c9_1 : decode cJ9_floorDiv_f86c9 1 = .ok (.lload_n 2, 1) := by decide +kernel
theorem dJ9_floorDiv_f86c9_2 : decode cJ9_floorDiv_f86c9 2 = .ok (.ldiv, 1) := by decide +kernel
theorem dJ9_floorDiv_f86c9_3 : decode cJ9_floorDiv_f86c9 3 = .ok (.lstore 4, 2) := by decide +kernel
theorem dJ9_floorDiv_f86c9_5 : decode cJ9_floorDiv_f86c9 5 = .ok (.lload_n 0, 1) := by decide +kernel
theorem dJ9_floorDiv_f86c9_6 : decode cJ9_floorDiv_f86c9 6 = .ok (.lload_n 2, 1) := by decide +kernel
theorem dJ9_floorDiv_f86c9_7 : decode cJ9_floorDiv_f86c9 7 = .ok (.lxor, 1) := by decide +kernel
theorem dJ9_floorDiv_f86c9_8 : decode cJ9_floorDiv_f86c9 8 = .ok (.lconst 0, 1) := by decide +kernel
theorem dJ9_floorDiv_f86c9_9 : decode cJ9_floorDiv_f86c9 9 = .ok (.lcmp, 1) := by decide +kernel
theorem dJ9_floorDiv_f86c9_10 : decode cJ9_floorDiv_f86c9 10 = .ok (.ifCond .ge 17, 3) := by decide +kernel
theorem dJ9_floorDiv_f86c9_13 : decode cJ9_floorDiv_f86c9 13 = .ok (.lload 4, 2) := by decide +kernel
theorem dJ9_floorDiv_f86c9_15 : decode cJ9_floorDiv_f86c9 15 = .ok (.lload_n 2, 1) := by decide +kernel
theorem dJ9_floorDiv_f86c9_16 : decode cJ9_floorDiv_f86c9 16 = .ok (.lmul, 1) := by decide +kernel
theorem dJ9_floorDiv_f86c9_17 : decode cJ9_floorDiv_f86c9 17 = .ok (.lload_n 0, 1) := by decide +kernel
theorem dJ9_floorDiv_f86c9_18 : decode cJ9_floorDiv_f86c9 18 = .ok (.lcmp, 1) := by decide +kernel
theorem dJ9_floorDiv_f86c9_19 : decode cJ9_floorDiv_f86c9 19 = .ok (.ifCond .eq 8, 3) := by decide +kernel
theorem dJ9_floorDiv_f86c9_22 : decode cJ9_floorDiv_f86c9 22 = .ok (.lload 4, 2) := by decide +kernel
theorem dJ9_floorDiv_f86c9_24 : decode cJ9_floorDiv_f86c9 24 = .ok (.lconst 1, 1) := by decide +kernel
theorem dJ9_floorDiv_f86c9_25 : decode cJ9_floorDiv_f86c9 25 = .ok (.lsub, 1) := by decide +kernel
theorem dJ9_floorDiv_f86c9_26 : decode cJ9_floorDiv_f86c9 26 = .ok (.lreturn, 1) := by decide +kernel
theorem dJ9_floorDiv_f86c9_27 : decode cJ9_floorDiv_f86c9 27 = .ok (.lload 4, 2) := by decide +kernel
theorem dJ9_floorDiv_f86c9_29 : decode cJ9_floorDiv_f86c9 29 = .ok (.lreturn, 1) := by decide +kernel
theorem dJ9_floorMod_7cf53_0 : decode cJ9_floorMod_7cf53 0 = .ok (.iload_n 0, 1) := by decide +kernel
theorem dJ9_floorMod_7cf53_1 : decode cJ9_floorMod_7cf53 1 = .ok (.iload_n 1, 1) := by decide +kernel
theorem dJ9_floorMod_7cf53_2 : decode cJ9_floorMod_7cf53 2 = .ok (.irem, 1) := by decide +kernel
theorem dJ9_floorMod_7cf53_3 : decode cJ9_floorMod_7cf53 3 = .ok (.istore_n 2, 1) := by decide +kernel
theorem dJ9_floorMod_7cf53_4 : decode cJ9_floorMod_7cf53 4 = .ok (.iload_n 0, 1) := by decide +kernel
theorem dJ9_floorMod_7cf53_5 : decode cJ9_floorMod_7cf53 5 = .ok (.iload_n 1, 1) := by decide +kernel
theorem dJ9_floorMod_7cf53_6 : decode cJ9_floorMod_7cf53 6 = .ok (.ixor, 1) := by decide +kernel
theorem dJ9_floorMod_7cf53_7 : decode cJ9_floorMod_7cf53 7 = .ok (.ifCond .ge 11, 3) := by decide +kernel
theorem dJ9_floorMod_7cf53_10 : decode cJ9_floorMod_7cf53 10 = .ok (.iload_n 2, 1) := by decide +kernel
theorem dJ9_floorMod_7cf53_11 : decode cJ9_floorMod_7cf53 11 = .ok (.ifCond .eq 7, 3) := by decide +kernel
theorem dJ9_floorMod_7cf53_14 : decode cJ9_floorMod_7cf53 14 = .ok (.iload_n 2, 1) := by decide +kernel
theorem dJ9_floorMod_7cf53_15 : decode cJ9_floorMod_7cf53 15 = .ok (.iload_n 1, 1) := by decide +kernel
theorem dJ9_floorMod_7cf53_16 : decode cJ9_floorMod_7cf53 16 = .ok (.iadd, 1) := by decide +kernel
theorem dJ9_floorMod_7cf53_17 : decode cJ9_floorMod_7cf53 17 = .ok (.ireturn, 1) := by decide +kernel
theorem dJ9_floorMod_7cf53_18 : decode cJ9_floorMod_7cf53 18 = .ok (.iload_n 2, 1) := by decide +kernel
theorem dJ9_floorMod_7cf53_19 : decode cJ9_floorMod_7cf53 19 = .ok (.ireturn, 1) := by decide +kernel
