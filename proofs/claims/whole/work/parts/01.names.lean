def RX0 : String := "SlantGauges$History"
def TX0 : u_T := fun k => match k with
  | 0 => ("SlantGauges$History", "rows", "[LSlantGauges$Row;", true)
  | 1 => ("SlantGauges$History", "oldest", "I", false)
  | _ => ("SlantGauges$History", "count", "I", false)
def tyX0 : Nat → FieldType := fun k => match k with
  | 0 => .array (.object "SlantGauges$Row")
  | 1 => .int
  | _ => .int
abbrev wsX00 : List Cond := u_ws RX0 TX0 3
theorem nmX0 : ∀ a, a < 3 → ∀ b, b < 3 → a ≠ b → (TX0 a).2.1 ≠ (TX0 b).2.1 := by decide +kernel
theorem tyX0_ok : ∀ k, k < 3 → parseFieldDescriptor (TX0 k).2.2.1 = some (tyX0 k) := by decide +kernel
def RX1 : String := "SlantGauges$Leg"
def TX1 : u_T := fun k => match k with
  | 0 => ("SlantGauges$Leg", "density", "I", false)
  | 1 => ("SlantGauges$Leg", "area", "I", false)
  | 2 => ("SlantGauges$Leg", "curve", "I", false)
  | 3 => ("SlantGauges$Leg", "stock", "J", false)
  | 4 => ("SlantGauges$Leg", "lost", "J", false)
  | 5 => ("SlantGauges$Leg", "refilled", "J", false)
  | _ => ("SlantGauges$Leg", "level", "J", false)
def tyX1 : Nat → FieldType := fun k => match k with
  | 0 => .int
  | 1 => .int
  | 2 => .int
  | 3 => .long
  | 4 => .long
  | 5 => .long
  | _ => .long
abbrev wsX10 : List Cond := u_ws RX1 TX1 7
theorem nmX1 : ∀ a, a < 7 → ∀ b, b < 7 → a ≠ b → (TX1 a).2.1 ≠ (TX1 b).2.1 := by decide +kernel
theorem tyX1_ok : ∀ k, k < 7 → parseFieldDescriptor (TX1 k).2.2.1 = some (tyX1 k) := by decide +kernel
def RX2 : String := "SlantGauges$QueryGrammar"
def TX2 : u_T := fun k => match k with
  | 0 => ("SlantGauges$QueryGrammar", "tokens", "LSlantGauges$Tokens;", true)
  | _ => ("SlantGauges$QueryGrammar", "row", "LSlantGauges$Row;", true)
def tyX2 : Nat → FieldType := fun k => match k with
  | 0 => .object "SlantGauges$Tokens"
  | _ => .object "SlantGauges$Row"
abbrev wsX20 : List Cond := u_ws RX2 TX2 2
theorem nmX2 : ∀ a, a < 2 → ∀ b, b < 2 → a ≠ b → (TX2 a).2.1 ≠ (TX2 b).2.1 := by decide +kernel
theorem tyX2_ok : ∀ k, k < 2 → parseFieldDescriptor (TX2 k).2.2.1 = some (tyX2 k) := by decide +kernel
def RX3 : String := "SlantGauges$Row"
def TX3 : u_T := fun k => match k with
  | 0 => ("SlantGauges$Row", "points", "I", false)
  | 1 => ("SlantGauges$Row", "reference", "I", false)
  | 2 => ("SlantGauges$Row", "tubeCount", "I", false)
  | 3 => ("SlantGauges$Row", "pressures", "[I", true)
  | 4 => ("SlantGauges$Row", "left", "LSlantGauges$Leg;", true)
  | 5 => ("SlantGauges$Row", "right", "LSlantGauges$Leg;", true)
  | 6 => ("SlantGauges$Row", "tubes", "[LSlantGauges$Tube;", true)
  | _ => ("SlantGauges$Row", "spare", "LSlantGauges$Tube;", true)
def tyX3 : Nat → FieldType := fun k => match k with
  | 0 => .int
  | 1 => .int
  | 2 => .int
  | 3 => .array .int
  | 4 => .object "SlantGauges$Leg"
  | 5 => .object "SlantGauges$Leg"
  | 6 => .array (.object "SlantGauges$Tube")
  | _ => .object "SlantGauges$Tube"
abbrev wsX30 : List Cond := u_ws RX3 TX3 8
theorem nmX3 : ∀ a, a < 8 → ∀ b, b < 8 → a ≠ b → (TX3 a).2.1 ≠ (TX3 b).2.1 := by decide +kernel
theorem tyX3_ok : ∀ k, k < 8 → parseFieldDescriptor (TX3 k).2.2.1 = some (tyX3 k) := by decide +kernel
def RX4 : String := "SlantGauges$TextGrammar"
def TX4 : u_T := fun k => match k with
  | 0 => ("SlantGauges$TextGrammar", "tokens", "LSlantGauges$Tokens;", true)
  | _ => ("SlantGauges$TextGrammar", "row", "LSlantGauges$Row;", true)
def tyX4 : Nat → FieldType := fun k => match k with
  | 0 => .object "SlantGauges$Tokens"
  | _ => .object "SlantGauges$Row"
abbrev wsX40 : List Cond := u_ws RX4 TX4 2
theorem nmX4 : ∀ a, a < 2 → ∀ b, b < 2 → a ≠ b → (TX4 a).2.1 ≠ (TX4 b).2.1 := by decide +kernel
theorem tyX4_ok : ∀ k, k < 2 → parseFieldDescriptor (TX4 k).2.2.1 = some (tyX4 k) := by decide +kernel
def RX5 : String := "SlantGauges$Tokens"
def TX5 : u_T := fun k => match k with
  | 0 => ("SlantGauges$Tokens", "bytes", "[B", true)
  | 1 => ("SlantGauges$Tokens", "filled", "I", false)
  | 2 => ("SlantGauges$Tokens", "end", "I", false)
  | 3 => ("SlantGauges$Tokens", "next", "I", false)
  | 4 => ("SlantGauges$Tokens", "start", "I", false)
  | 5 => ("SlantGauges$Tokens", "kind", "I", false)
  | 6 => ("SlantGauges$Tokens", "number", "I", false)
  | 7 => ("SlantGauges$Tokens", "errorCode", "I", false)
  | _ => ("SlantGauges$Tokens", "errorAt", "I", false)
def tyX5 : Nat → FieldType := fun k => match k with
  | 0 => .array .byte
  | 1 => .int
  | 2 => .int
  | 3 => .int
  | 4 => .int
  | 5 => .int
  | 6 => .int
  | 7 => .int
  | _ => .int
abbrev wsX50 : List Cond := u_ws RX5 TX5 9
theorem nmX5 : ∀ a, a < 9 → ∀ b, b < 9 → a ≠ b → (TX5 a).2.1 ≠ (TX5 b).2.1 := by decide +kernel
theorem tyX5_ok : ∀ k, k < 9 → parseFieldDescriptor (TX5 k).2.2.1 = some (tyX5 k) := by decide +kernel
def RX6 : String := "SlantGauges$Tube"
def TX6 : u_T := fun k => match k with
  | 0 => ("SlantGauges$Tube", "leg", "I", false)
  | 1 => ("SlantGauges$Tube", "point", "I", false)
  | 2 => ("SlantGauges$Tube", "bore", "I", false)
  | 3 => ("SlantGauges$Tube", "slant", "I", false)
  | 4 => ("SlantGauges$Tube", "length", "I", false)
  | 5 => ("SlantGauges$Tube", "mark", "I", false)
  | 6 => ("SlantGauges$Tube", "state", "I", false)
  | 7 => ("SlantGauges$Tube", "pull", "I", false)
  | 8 => ("SlantGauges$Tube", "meniscus", "I", false)
  | _ => ("SlantGauges$Tube", "column", "I", false)
def tyX6 : Nat → FieldType := fun k => match k with
  | 0 => .int
  | 1 => .int
  | 2 => .int
  | 3 => .int
  | 4 => .int
  | 5 => .int
  | 6 => .int
  | 7 => .int
  | 8 => .int
  | _ => .int
abbrev wsX60 : List Cond := u_ws RX6 TX6 10
theorem nmX6 : ∀ a, a < 10 → ∀ b, b < 10 → a ≠ b → (TX6 a).2.1 ≠ (TX6 b).2.1 := by decide +kernel
theorem tyX6_ok : ∀ k, k < 10 → parseFieldDescriptor (TX6 k).2.2.1 = some (tyX6 k) := by decide +kernel
def RX7 : String := "SlantGauges"
def TX7 : u_T := fun k => match k with
  | 0 => ("SlantGauges", "current", "LSlantGauges$Row;", true)
  | 1 => ("SlantGauges", "trial", "LSlantGauges$Row;", true)
  | 2 => ("SlantGauges", "snapshot", "LSlantGauges$Row;", true)
  | 3 => ("SlantGauges", "history", "LSlantGauges$History;", true)
  | 4 => ("SlantGauges", "tokens", "LSlantGauges$Tokens;", true)
  | 5 => ("SlantGauges", "formatted", "Ljava/lang/StringBuilder;", true)
  | _ => ("SlantGauges", "snapshotTaken", "Z", false)
def tyX7 : Nat → FieldType := fun k => match k with
  | 0 => .object "SlantGauges$Row"
  | 1 => .object "SlantGauges$Row"
  | 2 => .object "SlantGauges$Row"
  | 3 => .object "SlantGauges$History"
  | 4 => .object "SlantGauges$Tokens"
  | 5 => .object "java/lang/StringBuilder"
  | _ => .boolean
abbrev wsX70 : List Cond := u_ws RX7 TX7 7
theorem nmX7 : ∀ a, a < 7 → ∀ b, b < 7 → a ≠ b → (TX7 a).2.1 ≠ (TX7 b).2.1 := by decide +kernel
theorem tyX7_ok : ∀ k, k < 7 → parseFieldDescriptor (TX7 k).2.2.1 = some (tyX7 k) := by decide +kernel
def RX8 : String := "SlantGaugesModel"
def TX8 : u_T := fun k => match k with
  | 0 => ("SlantGaugesModel", "thrown", "I", false)
  | 1 => ("SlantGaugesModel", "now", "[I", true)
  | 2 => ("SlantGaugesModel", "saved", "[I", true)
  | 3 => ("SlantGaugesModel", "aside", "[I", true)
  | 4 => ("SlantGaugesModel", "before", "[I", true)
  | 5 => ("SlantGaugesModel", "stocks", "[J", true)
  | 6 => ("SlantGaugesModel", "savedStocks", "[J", true)
  | 7 => ("SlantGaugesModel", "asideStocks", "[J", true)
  | 8 => ("SlantGaugesModel", "stocksBefore", "[J", true)
  | 9 => ("SlantGaugesModel", "undoable", "I", false)
  | 10 => ("SlantGaugesModel", "isSaved", "Z", false)
  | 11 => ("SlantGaugesModel", "buffer", "[I", true)
  | 12 => ("SlantGaugesModel", "buffered", "I", false)
  | 13 => ("SlantGaugesModel", "textEnd", "I", false)
  | 14 => ("SlantGaugesModel", "at", "I", false)
  | 15 => ("SlantGaugesModel", "begin", "I", false)
  | 16 => ("SlantGaugesModel", "kind", "I", false)
  | 17 => ("SlantGaugesModel", "value", "I", false)
  | 18 => ("SlantGaugesModel", "word", "J", false)
  | 19 => ("SlantGaugesModel", "wrong", "I", false)
  | 20 => ("SlantGaugesModel", "wrongAt", "I", false)
  | 21 => ("SlantGaugesModel", "formatted", "[I", true)
  | 22 => ("SlantGaugesModel", "formattedMany", "I", false)
  | 23 => ("SlantGaugesModel", "codes", "[I", true)
  | 24 => ("SlantGaugesModel", "wait", "[I", true)
  | 25 => ("SlantGaugesModel", "stack", "[I", true)
  | 26 => ("SlantGaugesModel", "coded", "I", false)
  | 27 => ("SlantGaugesModel", "waits", "I", false)
  | _ => ("SlantGaugesModel", "open", "I", false)
def tyX8 : Nat → FieldType := fun k => match k with
  | 0 => .int
  | 1 => .array .int
  | 2 => .array .int
  | 3 => .array .int
  | 4 => .array .int
  | 5 => .array .long
  | 6 => .array .long
  | 7 => .array .long
  | 8 => .array .long
  | 9 => .int
  | 10 => .boolean
  | 11 => .array .int
  | 12 => .int
  | 13 => .int
  | 14 => .int
  | 15 => .int
  | 16 => .int
  | 17 => .int
  | 18 => .long
  | 19 => .int
  | 20 => .int
  | 21 => .array .int
  | 22 => .int
  | 23 => .array .int
  | 24 => .array .int
  | 25 => .array .int
  | 26 => .int
  | 27 => .int
  | _ => .int
abbrev wsX80 : List Cond := u_ws RX8 TX8 29
theorem nmX8 : ∀ a, a < 29 → ∀ b, b < 29 → a ≠ b → (TX8 a).2.1 ≠ (TX8 b).2.1 := by decide +kernel
theorem tyX8_ok : ∀ k, k < 29 → parseFieldDescriptor (TX8 k).2.2.1 = some (tyX8 k) := by decide +kernel
def RJ0 : String := "java/lang/String"
def TJ0 : u_T := fun k => match k with
  | 0 => ("java/lang/String", "value", "[B", true)
  | 1 => ("java/lang/String", "coder", "B", true)
  | 2 => ("java/lang/String", "hash", "I", false)
  | _ => ("java/lang/String", "hashIsZero", "Z", false)
def tyJ0 : Nat → FieldType := fun k => match k with
  | 0 => .array .byte
  | 1 => .byte
  | 2 => .int
  | _ => .boolean
abbrev wsJ00 : List Cond := u_ws RJ0 TJ0 4
theorem nmJ0 : ∀ a, a < 4 → ∀ b, b < 4 → a ≠ b → (TJ0 a).2.1 ≠ (TJ0 b).2.1 := by decide +kernel
theorem tyJ0_ok : ∀ k, k < 4 → parseFieldDescriptor (TJ0 k).2.2.1 = some (tyJ0 k) := by decide +kernel
def RJ1 : String := "java/lang/StringLatin1"
def TJ1 : u_T := fun k => match k with
  | _ => ("", "", "", false)
def tyJ1 : Nat → FieldType := fun k => match k with
  | _ => .int
abbrev wsJ10 : List Cond := u_ws RJ1 TJ1 0
theorem nmJ1 : ∀ a, a < 0 → ∀ b, b < 0 → a ≠ b → (TJ1 a).2.1 ≠ (TJ1 b).2.1 := by decide +kernel
theorem tyJ1_ok : ∀ k, k < 0 → parseFieldDescriptor (TJ1 k).2.2.1 = some (tyJ1 k) := by decide +kernel
def RJ3 : String := "jdk/internal/util/Preconditions"
def TJ3 : u_T := fun k => match k with
  | _ => ("", "", "", false)
def tyJ3 : Nat → FieldType := fun k => match k with
  | _ => .int
abbrev wsJ30 : List Cond := u_ws RJ3 TJ3 0
theorem nmJ3 : ∀ a, a < 0 → ∀ b, b < 0 → a ≠ b → (TJ3 a).2.1 ≠ (TJ3 b).2.1 := by decide +kernel
theorem tyJ3_ok : ∀ k, k < 0 → parseFieldDescriptor (TJ3 k).2.2.1 = some (tyJ3 k) := by decide +kernel
def RJ4 : String := "java/lang/StringBuilder"
def TJ4 : u_T := fun k => match k with
  | 0 => ("java/lang/AbstractStringBuilder", "value", "[B", false)
  | 1 => ("java/lang/AbstractStringBuilder", "coder", "B", false)
  | 2 => ("java/lang/AbstractStringBuilder", "maybeLatin1", "Z", false)
  | _ => ("java/lang/AbstractStringBuilder", "count", "I", false)
def tyJ4 : Nat → FieldType := fun k => match k with
  | 0 => .array .byte
  | 1 => .byte
  | 2 => .boolean
  | _ => .int
abbrev wsJ40 : List Cond := u_ws RJ4 TJ4 4
theorem nmJ4 : ∀ a, a < 4 → ∀ b, b < 4 → a ≠ b → (TJ4 a).2.1 ≠ (TJ4 b).2.1 := by decide +kernel
theorem tyJ4_ok : ∀ k, k < 4 → parseFieldDescriptor (TJ4 k).2.2.1 = some (tyJ4 k) := by decide +kernel
def RJ5 : String := "java/lang/AbstractStringBuilder"
def TJ5 : u_T := fun k => match k with
  | _ => ("", "", "", false)
def tyJ5 : Nat → FieldType := fun k => match k with
  | _ => .int
abbrev wsJ50 : List Cond := u_ws RJ5 TJ5 0
theorem nmJ5 : ∀ a, a < 0 → ∀ b, b < 0 → a ≠ b → (TJ5 a).2.1 ≠ (TJ5 b).2.1 := by decide +kernel
theorem tyJ5_ok : ∀ k, k < 0 → parseFieldDescriptor (TJ5 k).2.2.1 = some (tyJ5 k) := by decide +kernel
def RJ6 : String := "java/lang/Integer"
def TJ6 : u_T := fun k => match k with
  | _ => ("", "", "", false)
def tyJ6 : Nat → FieldType := fun k => match k with
  | _ => .int
abbrev wsJ60 : List Cond := u_ws RJ6 TJ6 0
theorem nmJ6 : ∀ a, a < 0 → ∀ b, b < 0 → a ≠ b → (TJ6 a).2.1 ≠ (TJ6 b).2.1 := by decide +kernel
theorem tyJ6_ok : ∀ k, k < 0 → parseFieldDescriptor (TJ6 k).2.2.1 = some (tyJ6 k) := by decide +kernel
def RJ9 : String := "java/lang/Math"
def TJ9 : u_T := fun k => match k with
  | _ => ("", "", "", false)
def tyJ9 : Nat → FieldType := fun k => match k with
  | _ => .int
abbrev wsJ90 : List Cond := u_ws RJ9 TJ9 0
theorem nmJ9 : ∀ a, a < 0 → ∀ b, b < 0 → a ≠ b → (TJ9 a).2.1 ≠ (TJ9 b).2.1 := by decide +kernel
theorem tyJ9_ok : ∀ k, k < 0 → parseFieldDescriptor (TJ9 k).2.2.1 = some (tyJ9 k) := by decide +kernel
def RL : String := "SlantGaugesLaw"
abbrev vwCl : List vw_C := [(RJ0, TJ0, 4), (RJ4, TJ4, 4), (RX0, TX0, 3), (RX1, TX1, 7), (RX2, TX2, 2), (RX3, TX3, 8), (RX4, TX4, 2), (RX5, TX5, 9), (RX6, TX6, 10), (RX7, TX7, 7), (RX8, TX8, 29)]
abbrev cX0_init : ByteArray := prog_2_method_1_code
def yX0_init : MethodName := ⟨RX0, "<init>", "()V"⟩
abbrev cX0_clear : ByteArray := prog_2_method_2_code
def yX0_clear : MethodName := ⟨RX0, "clear", "()V"⟩
abbrev cX0_keep : ByteArray := prog_2_method_3_code
def yX0_keep : MethodName := ⟨RX0, "keep", "(LSlantGauges$Row;)V"⟩
abbrev cX0_takeBack : ByteArray := prog_2_method_4_code
def yX0_takeBack : MethodName := ⟨RX0, "takeBack", "(LSlantGauges$Row;)V"⟩
abbrev cX1_init : ByteArray := prog_3_method_1_code
def yX1_init : MethodName := ⟨RX1, "<init>", "()V"⟩
abbrev cX1_clear : ByteArray := prog_3_method_2_code
def yX1_clear : MethodName := ⟨RX1, "clear", "()V"⟩
abbrev cX1_liquid : ByteArray := prog_3_method_3_code
def yX1_liquid : MethodName := ⟨RX1, "liquid", "(III)V"⟩
abbrev cX1_copyFrom : ByteArray := prog_3_method_4_code
def yX1_copyFrom : MethodName := ⟨RX1, "copyFrom", "(LSlantGauges$Leg;)V"⟩
abbrev cX2_init : ByteArray := prog_4_method_1_code
def yX2_init : MethodName := ⟨RX2, "<init>", "(LSlantGauges$Tokens;LSlantGauges$Row;)V"⟩
abbrev cX2_wantsMany : ByteArray := prog_4_method_2_code
def yX2_wantsMany : MethodName := ⟨RX2, "wantsMany", "()Z"⟩
abbrev cX2_test : ByteArray := prog_4_method_3_code
def yX2_test : MethodName := ⟨RX2, "test", "(I)I"⟩
abbrev cX2_conjunction : ByteArray := prog_4_method_4_code
def yX2_conjunction : MethodName := ⟨RX2, "conjunction", "(I)I"⟩
abbrev cX2_factor : ByteArray := prog_4_method_5_code
def yX2_factor : MethodName := ⟨RX2, "factor", "(I)I"⟩
abbrev cX2_comparison : ByteArray := prog_4_method_6_code
def yX2_comparison : MethodName := ⟨RX2, "comparison", "()I"⟩
abbrev cX2_operand : ByteArray := prog_4_method_7_code
def yX2_operand : MethodName := ⟨RX2, "operand", "()I"⟩
abbrev cX2_propertyNamed : ByteArray := prog_4_method_8_code
def yX2_propertyNamed : MethodName := ⟨RX2, "propertyNamed", "()I"⟩
abbrev cX2_valueFor : ByteArray := prog_4_method_9_code
def yX2_valueFor : MethodName := ⟨RX2, "valueFor", "(II)I"⟩
abbrev cX3_init : ByteArray := prog_5_method_1_code
def yX3_init : MethodName := ⟨RX3, "<init>", "()V"⟩
abbrev cX3_clear : ByteArray := prog_5_method_2_code
def yX3_clear : MethodName := ⟨RX3, "clear", "(II)V"⟩
abbrev cX3_copyFrom : ByteArray := prog_5_method_3_code
def yX3_copyFrom : MethodName := ⟨RX3, "copyFrom", "(LSlantGauges$Row;)V"⟩
abbrev cX3_legAt : ByteArray := prog_5_method_4_code
def yX3_legAt : MethodName := ⟨RX3, "legAt", "(I)LSlantGauges$Leg;"⟩
abbrev cX3_tubeAt : ByteArray := prog_5_method_5_code
def yX3_tubeAt : MethodName := ⟨RX3, "tubeAt", "(I)LSlantGauges$Tube;"⟩
abbrev cX3_pressureAt : ByteArray := prog_5_method_6_code
def yX3_pressureAt : MethodName := ⟨RX3, "pressureAt", "(I)I"⟩
abbrev cX3_press : ByteArray := prog_5_method_7_code
def yX3_press : MethodName := ⟨RX3, "press", "(II)V"⟩
abbrev cX3_append : ByteArray := prog_5_method_8_code
def yX3_append : MethodName := ⟨RX3, "append", "()LSlantGauges$Tube;"⟩
abbrev cX3_remove : ByteArray := prog_5_method_9_code
def yX3_remove : MethodName := ⟨RX3, "remove", "(I)V"⟩
abbrev cX3_countInState : ByteArray := prog_5_method_10_code
def yX3_countInState : MethodName := ⟨RX3, "countInState", "(I)I"⟩
abbrev cX3_countInLeg : ByteArray := prog_5_method_11_code
def yX3_countInLeg : MethodName := ⟨RX3, "countInLeg", "(I)I"⟩
abbrev cX3_numberOf : ByteArray := prog_5_method_12_code
def yX3_numberOf : MethodName := ⟨RX3, "numberOf", "(II)I"⟩
abbrev cX3_toldBy : ByteArray := prog_5_method_13_code
def yX3_toldBy : MethodName := ⟨RX3, "toldBy", "(LSlantGauges$Tube;)I"⟩
abbrev cX3_wrongBy : ByteArray := prog_5_method_14_code
def yX3_wrongBy : MethodName := ⟨RX3, "wrongBy", "(LSlantGauges$Tube;)I"⟩
abbrev cX3_differenceOf : ByteArray := prog_5_method_15_code
def yX3_differenceOf : MethodName := ⟨RX3, "differenceOf", "(LSlantGauges$Tube;LSlantGauges$Tube;)I"⟩
abbrev cX3_settle : ByteArray := prog_5_method_16_code
def yX3_settle : MethodName := ⟨RX3, "settle", "()I"⟩
abbrev cX3_settleLeg : ByteArray := prog_5_method_17_code
def yX3_settleLeg : MethodName := ⟨RX3, "settleLeg", "(I)I"⟩
abbrev cX3_greatestLevel : ByteArray := prog_5_method_18_code
def yX3_greatestLevel : MethodName := ⟨RX3, "greatestLevel", "(I)J"⟩
abbrev cX3_fullVolumes : ByteArray := prog_5_method_19_code
def yX3_fullVolumes : MethodName := ⟨RX3, "fullVolumes", "(I)J"⟩
abbrev cX3_volumesAt : ByteArray := prog_5_method_20_code
def yX3_volumesAt : MethodName := ⟨RX3, "volumesAt", "(IJ)J"⟩
abbrev cX3_breakTubes : ByteArray := prog_5_method_21_code
def yX3_breakTubes : MethodName := ⟨RX3, "breakTubes", "(I)I"⟩
abbrev cX4_init : ByteArray := prog_6_method_1_code
def yX4_init : MethodName := ⟨RX4, "<init>", "(LSlantGauges$Tokens;LSlantGauges$Row;)V"⟩
abbrev cX4_read : ByteArray := prog_6_method_2_code
def yX4_read : MethodName := ⟨RX4, "read", "()V"⟩
abbrev cX4_readClause : ByteArray := prog_6_method_3_code
def yX4_readClause : MethodName := ⟨RX4, "readClause", "()V"⟩
abbrev cX4_readLeg : ByteArray := prog_6_method_4_code
def yX4_readLeg : MethodName := ⟨RX4, "readLeg", "()V"⟩
abbrev cX4_readTube : ByteArray := prog_6_method_5_code
def yX4_readTube : MethodName := ⟨RX4, "readTube", "()V"⟩
abbrev cX5_init : ByteArray := prog_7_method_1_code
def yX5_init : MethodName := ⟨RX5, "<init>", "()V"⟩
abbrev cX5_hasRoomFor : ByteArray := prog_7_method_2_code
def yX5_hasRoomFor : MethodName := ⟨RX5, "hasRoomFor", "(I)Z"⟩
abbrev cX5_append : ByteArray := prog_7_method_3_code
def yX5_append : MethodName := ⟨RX5, "append", "(I)V"⟩
abbrev cX5_empty : ByteArray := prog_7_method_4_code
def yX5_empty : MethodName := ⟨RX5, "empty", "()V"⟩
abbrev cX5_begin : ByteArray := prog_7_method_5_code
def yX5_begin : MethodName := ⟨RX5, "begin", "(I)V"⟩
abbrev cX5_advance : ByteArray := prog_7_method_6_code
def yX5_advance : MethodName := ⟨RX5, "advance", "()V"⟩
abbrev cX5_byteAt : ByteArray := prog_7_method_7_code
def yX5_byteAt : MethodName := ⟨RX5, "byteAt", "(I)I"⟩
abbrev cX5_isLetter : ByteArray := prog_7_method_8_code
def yX5_isLetter : MethodName := ⟨RX5, "isLetter", "(I)Z"⟩
abbrev cX5_isDigit : ByteArray := prog_7_method_9_code
def yX5_isDigit : MethodName := ⟨RX5, "isDigit", "(I)Z"⟩
abbrev cX5_fail : ByteArray := prog_7_method_10_code
def yX5_fail : MethodName := ⟨RX5, "fail", "(I)V"⟩
abbrev cX5_goesOn : ByteArray := prog_7_method_11_code
def yX5_goesOn : MethodName := ⟨RX5, "goesOn", "()Z"⟩
abbrev cX5_isWord : ByteArray := prog_7_method_12_code
def yX5_isWord : MethodName := ⟨RX5, "isWord", "(Ljava/lang/String;)Z"⟩
abbrev cX5_isSign : ByteArray := prog_7_method_13_code
def yX5_isSign : MethodName := ⟨RX5, "isSign", "(C)Z"⟩
abbrev cX5_takeWord : ByteArray := prog_7_method_14_code
def yX5_takeWord : MethodName := ⟨RX5, "takeWord", "(Ljava/lang/String;)V"⟩
abbrev cX5_takeSign : ByteArray := prog_7_method_15_code
def yX5_takeSign : MethodName := ⟨RX5, "takeSign", "(C)V"⟩
abbrev cX5_takeEnd : ByteArray := prog_7_method_16_code
def yX5_takeEnd : MethodName := ⟨RX5, "takeEnd", "()V"⟩
abbrev cX5_takeNumber : ByteArray := prog_7_method_17_code
def yX5_takeNumber : MethodName := ⟨RX5, "takeNumber", "(II)I"⟩
abbrev cX5_takeSigned : ByteArray := prog_7_method_18_code
def yX5_takeSigned : MethodName := ⟨RX5, "takeSigned", "()I"⟩
abbrev cX6_init : ByteArray := prog_8_method_1_code
def yX6_init : MethodName := ⟨RX6, "<init>", "()V"⟩
abbrev cX6_stand : ByteArray := prog_8_method_2_code
def yX6_stand : MethodName := ⟨RX6, "stand", "(II)V"⟩
abbrev cX6_shape : ByteArray := prog_8_method_3_code
def yX6_shape : MethodName := ⟨RX6, "shape", "(III)V"⟩
abbrev cX6_copyFrom : ByteArray := prog_8_method_4_code
def yX6_copyFrom : MethodName := ⟨RX6, "copyFrom", "(LSlantGauges$Tube;)V"⟩
abbrev cX6_fullColumn : ByteArray := prog_8_method_5_code
def yX6_fullColumn : MethodName := ⟨RX6, "fullColumn", "()I"⟩
abbrev cX6_fullVolume : ByteArray := prog_8_method_6_code
def yX6_fullVolume : MethodName := ⟨RX6, "fullVolume", "()J"⟩
abbrev cX6_runAt : ByteArray := prog_8_method_7_code
def yX6_runAt : MethodName := ⟨RX6, "runAt", "(J)J"⟩
abbrev cX6_columnAt : ByteArray := prog_8_method_8_code
def yX6_columnAt : MethodName := ⟨RX6, "columnAt", "(J)J"⟩
abbrev cX6_shownReading : ByteArray := prog_8_method_9_code
def yX6_shownReading : MethodName := ⟨RX6, "shownReading", "()I"⟩
abbrev cX6_columnHeight : ByteArray := prog_8_method_10_code
def yX6_columnHeight : MethodName := ⟨RX6, "columnHeight", "()I"⟩
abbrev cX7_init : ByteArray := prog_1_method_1_code
def yX7_init : MethodName := ⟨RX7, "<init>", "()V"⟩
abbrev cX7_feed : ByteArray := prog_1_method_2_code
def yX7_feed : MethodName := ⟨RX7, "feed", "(IIIII)I"⟩
abbrev cX7_load : ByteArray := prog_1_method_3_code
def yX7_load : MethodName := ⟨RX7, "load", "(I)I"⟩
abbrev cX7_errorPosition : ByteArray := prog_1_method_4_code
def yX7_errorPosition : MethodName := ⟨RX7, "errorPosition", "()I"⟩
abbrev cX7_size : ByteArray := prog_1_method_5_code
def yX7_size : MethodName := ⟨RX7, "size", "(I)I"⟩
abbrev cX7_pressure : ByteArray := prog_1_method_6_code
def yX7_pressure : MethodName := ⟨RX7, "pressure", "(I)I"⟩
abbrev cX7_leg : ByteArray := prog_1_method_7_code
def yX7_leg : MethodName := ⟨RX7, "leg", "(II)I"⟩
abbrev cX7_account : ByteArray := prog_1_method_8_code
def yX7_account : MethodName := ⟨RX7, "account", "(II)J"⟩
abbrev cX7_tube : ByteArray := prog_1_method_9_code
def yX7_tube : MethodName := ⟨RX7, "tube", "(II)I"⟩
abbrev cX7_told : ByteArray := prog_1_method_10_code
def yX7_told : MethodName := ⟨RX7, "told", "(I)I"⟩
abbrev cX7_off : ByteArray := prog_1_method_11_code
def yX7_off : MethodName := ⟨RX7, "off", "(I)I"⟩
abbrev cX7_difference : ByteArray := prog_1_method_12_code
def yX7_difference : MethodName := ⟨RX7, "difference", "(II)I"⟩
abbrev cX7_ring : ByteArray := prog_1_method_13_code
def yX7_ring : MethodName := ⟨RX7, "ring", "()I"⟩
abbrev cX7_room : ByteArray := prog_1_method_14_code
def yX7_room : MethodName := ⟨RX7, "room", "(I)I"⟩
abbrev cX7_longest : ByteArray := prog_1_method_15_code
def yX7_longest : MethodName := ⟨RX7, "longest", "()I"⟩
abbrev cX7_worst : ByteArray := prog_1_method_16_code
def yX7_worst : MethodName := ⟨RX7, "worst", "()I"⟩
abbrev cX7_agree : ByteArray := prog_1_method_17_code
def yX7_agree : MethodName := ⟨RX7, "agree", "(II)Z"⟩
abbrev cX7_wouldBreak : ByteArray := prog_1_method_18_code
def yX7_wouldBreak : MethodName := ⟨RX7, "wouldBreak", "(II)I"⟩
abbrev cX7_readingWith : ByteArray := prog_1_method_19_code
def yX7_readingWith : MethodName := ⟨RX7, "readingWith", "(III)I"⟩
abbrev cX7_breaksIn : ByteArray := prog_1_method_20_code
def yX7_breaksIn : MethodName := ⟨RX7, "breaksIn", "(II)I"⟩
abbrev cX7_bestSlant : ByteArray := prog_1_method_21_code
def yX7_bestSlant : MethodName := ⟨RX7, "bestSlant", "(I)I"⟩
abbrev cX7_lostWith : ByteArray := prog_1_method_22_code
def yX7_lostWith : MethodName := ⟨RX7, "lostWith", "(I)I"⟩
abbrev cX7_meanReading : ByteArray := prog_1_method_23_code
def yX7_meanReading : MethodName := ⟨RX7, "meanReading", "()D"⟩
abbrev cX7_wholeShare : ByteArray := prog_1_method_24_code
def yX7_wholeShare : MethodName := ⟨RX7, "wholeShare", "()F"⟩
abbrev cX7_setPressure : ByteArray := prog_1_method_25_code
def yX7_setPressure : MethodName := ⟨RX7, "setPressure", "(II)I"⟩
abbrev cX7_setReference : ByteArray := prog_1_method_26_code
def yX7_setReference : MethodName := ⟨RX7, "setReference", "(I)I"⟩
abbrev cX7_sweep : ByteArray := prog_1_method_27_code
def yX7_sweep : MethodName := ⟨RX7, "sweep", "(III)I"⟩
abbrev cX7_setSlant : ByteArray := prog_1_method_28_code
def yX7_setSlant : MethodName := ⟨RX7, "setSlant", "(II)I"⟩
abbrev cX7_setMark : ByteArray := prog_1_method_29_code
def yX7_setMark : MethodName := ⟨RX7, "setMark", "(I)I"⟩
abbrev cX7_setCurve : ByteArray := prog_1_method_30_code
def yX7_setCurve : MethodName := ⟨RX7, "setCurve", "(II)I"⟩
abbrev cX7_mend : ByteArray := prog_1_method_31_code
def yX7_mend : MethodName := ⟨RX7, "mend", "(I)I"⟩
abbrev cX7_refill : ByteArray := prog_1_method_32_code
def yX7_refill : MethodName := ⟨RX7, "refill", "(II)I"⟩
abbrev cX7_addTube : ByteArray := prog_1_method_33_code
def yX7_addTube : MethodName := ⟨RX7, "addTube", "(IIIII)I"⟩
abbrev cX7_dropTube : ByteArray := prog_1_method_34_code
def yX7_dropTube : MethodName := ⟨RX7, "dropTube", "(I)I"⟩
abbrev cX7_format : ByteArray := prog_1_method_35_code
def yX7_format : MethodName := ⟨RX7, "format", "(I)I"⟩
abbrev cX7_formattedByte : ByteArray := prog_1_method_36_code
def yX7_formattedByte : MethodName := ⟨RX7, "formattedByte", "(I)I"⟩
abbrev cX7_undoCount : ByteArray := prog_1_method_37_code
def yX7_undoCount : MethodName := ⟨RX7, "undoCount", "()I"⟩
abbrev cX7_undo : ByteArray := prog_1_method_38_code
def yX7_undo : MethodName := ⟨RX7, "undo", "()I"⟩
abbrev cX7_saveSnapshot : ByteArray := prog_1_method_39_code
def yX7_saveSnapshot : MethodName := ⟨RX7, "saveSnapshot", "()V"⟩
abbrev cX7_restoreSnapshot : ByteArray := prog_1_method_40_code
def yX7_restoreSnapshot : MethodName := ⟨RX7, "restoreSnapshot", "()Z"⟩
abbrev cX7_query : ByteArray := prog_1_method_41_code
def yX7_query : MethodName := ⟨RX7, "query", "(I)I"⟩
abbrev cX7_requirePoint : ByteArray := prog_1_method_42_code
def yX7_requirePoint : MethodName := ⟨RX7, "requirePoint", "(I)V"⟩
abbrev cX7_requireTube : ByteArray := prog_1_method_43_code
def yX7_requireTube : MethodName := ⟨RX7, "requireTube", "(I)V"⟩
abbrev cX7_requireLeg : ByteArray := prog_1_method_44_code
def yX7_requireLeg : MethodName := ⟨RX7, "requireLeg", "(I)V"⟩
abbrev cX7_requireWithin : ByteArray := prog_1_method_45_code
def yX7_requireWithin : MethodName := ⟨RX7, "requireWithin", "(III)V"⟩
abbrev cX7_tryPressure : ByteArray := prog_1_method_46_code
def yX7_tryPressure : MethodName := ⟨RX7, "tryPressure", "(II)V"⟩
abbrev cX7_lowestBit : ByteArray := prog_1_method_47_code
def yX7_lowestBit : MethodName := ⟨RX7, "lowestBit", "(I)I"⟩
abbrev cX8_thrown : ByteArray := prog_10_method_1_code
def yX8_thrown : MethodName := ⟨RX8, "thrown", "()I"⟩
abbrev cX8_in : ByteArray := prog_10_method_2_code
def yX8_in : MethodName := ⟨RX8, "in", "(JJJ)Z"⟩
abbrev cX8_lesser : ByteArray := prog_10_method_3_code
def yX8_lesser : MethodName := ⟨RX8, "lesser", "(II)I"⟩
abbrev cX8_off0 : ByteArray := prog_10_method_4_code
def yX8_off0 : MethodName := ⟨RX8, "off0", "(I)I"⟩
abbrev cX8_fails : ByteArray := prog_10_method_5_code
def yX8_fails : MethodName := ⟨RX8, "fails", "(ZI)Z"⟩
abbrev cX8_init : ByteArray := prog_10_method_6_code
def yX8_init : MethodName := ⟨RX8, "<init>", "()V"⟩
abbrev cX8_begins : ByteArray := prog_10_method_7_code
def yX8_begins : MethodName := ⟨RX8, "begins", "(II)V"⟩
abbrev cX8_laysLeg : ByteArray := prog_10_method_8_code
def yX8_laysLeg : MethodName := ⟨RX8, "laysLeg", "(IIII)V"⟩
abbrev cX8_copies : ByteArray := prog_10_method_9_code
def yX8_copies : MethodName := ⟨RX8, "copies", "([II[II)V"⟩
abbrev cX8_copiesLongs : ByteArray := prog_10_method_10_code
def yX8_copiesLongs : MethodName := ⟨RX8, "copiesLongs", "([JI[JI)V"⟩
abbrev cX8_laysAside : ByteArray := prog_10_method_11_code
def yX8_laysAside : MethodName := ⟨RX8, "laysAside", "()V"⟩
abbrev cX8_laysBack : ByteArray := prog_10_method_12_code
def yX8_laysBack : MethodName := ⟨RX8, "laysBack", "()V"⟩
abbrev cX8_lays : ByteArray := prog_10_method_13_code
def yX8_lays : MethodName := ⟨RX8, "lays", "(I)V"⟩
abbrev cX8_feed : ByteArray := prog_10_method_14_code
def yX8_feed : MethodName := ⟨RX8, "feed", "(IIIII)I"⟩
abbrev cX8_errorPosition : ByteArray := prog_10_method_15_code
def yX8_errorPosition : MethodName := ⟨RX8, "errorPosition", "()I"⟩
abbrev cX8_byteAt : ByteArray := prog_10_method_16_code
def yX8_byteAt : MethodName := ⟨RX8, "byteAt", "(I)I"⟩
abbrev cX8_isLetter : ByteArray := prog_10_method_17_code
def yX8_isLetter : MethodName := ⟨RX8, "isLetter", "(I)Z"⟩
abbrev cX8_isFigure : ByteArray := prog_10_method_18_code
def yX8_isFigure : MethodName := ⟨RX8, "isFigure", "(I)Z"⟩
abbrev cX8_readsWord : ByteArray := prog_10_method_19_code
def yX8_readsWord : MethodName := ⟨RX8, "readsWord", "()V"⟩
abbrev cX8_readsNumber : ByteArray := prog_10_method_20_code
def yX8_readsNumber : MethodName := ⟨RX8, "readsNumber", "()V"⟩
abbrev cX8_next : ByteArray := prog_10_method_21_code
def yX8_next : MethodName := ⟨RX8, "next", "()V"⟩
abbrev cX8_starts : ByteArray := prog_10_method_22_code
def yX8_starts : MethodName := ⟨RX8, "starts", "(I)V"⟩
abbrev cX8_wrongs : ByteArray := prog_10_method_23_code
def yX8_wrongs : MethodName := ⟨RX8, "wrongs", "(I)Z"⟩
abbrev cX8_isGood : ByteArray := prog_10_method_24_code
def yX8_isGood : MethodName := ⟨RX8, "isGood", "()Z"⟩
abbrev cX8_isWord : ByteArray := prog_10_method_25_code
def yX8_isWord : MethodName := ⟨RX8, "isWord", "(J)Z"⟩
abbrev cX8_passes : ByteArray := prog_10_method_26_code
def yX8_passes : MethodName := ⟨RX8, "passes", "(J)Z"⟩
abbrev cX8_isByte : ByteArray := prog_10_method_27_code
def yX8_isByte : MethodName := ⟨RX8, "isByte", "(I)Z"⟩
abbrev cX8_must : ByteArray := prog_10_method_28_code
def yX8_must : MethodName := ⟨RX8, "must", "(I)V"⟩
abbrev cX8_number : ByteArray := prog_10_method_29_code
def yX8_number : MethodName := ⟨RX8, "number", "(II)I"⟩
abbrev cX8_signed : ByteArray := prog_10_method_30_code
def yX8_signed : MethodName := ⟨RX8, "signed", "()I"⟩
abbrev cX8_readsLeg : ByteArray := prog_10_method_31_code
def yX8_readsLeg : MethodName := ⟨RX8, "readsLeg", "()V"⟩
abbrev cX8_readsTube : ByteArray := prog_10_method_32_code
def yX8_readsTube : MethodName := ⟨RX8, "readsTube", "()V"⟩
abbrev cX8_readsPressure : ByteArray := prog_10_method_33_code
def yX8_readsPressure : MethodName := ⟨RX8, "readsPressure", "()V"⟩
abbrev cX8_readsAll : ByteArray := prog_10_method_34_code
def yX8_readsAll : MethodName := ⟨RX8, "readsAll", "()V"⟩
abbrev cX8_load : ByteArray := prog_10_method_35_code
def yX8_load : MethodName := ⟨RX8, "load", "(I)I"⟩
abbrev cX8_cell : ByteArray := prog_10_method_36_code
def yX8_cell : MethodName := ⟨RX8, "cell", "(II)I"⟩
abbrev cX8_of : ByteArray := prog_10_method_37_code
def yX8_of : MethodName := ⟨RX8, "of", "(II)I"⟩
abbrev cX8_laysTube : ByteArray := prog_10_method_38_code
def yX8_laysTube : MethodName := ⟨RX8, "laysTube", "(IIIIII)V"⟩
abbrev cX8_ofLeg : ByteArray := prog_10_method_39_code
def yX8_ofLeg : MethodName := ⟨RX8, "ofLeg", "(II)I"⟩
abbrev cX8_many : ByteArray := prog_10_method_40_code
def yX8_many : MethodName := ⟨RX8, "many", "(I)I"⟩
abbrev cX8_isWhole : ByteArray := prog_10_method_41_code
def yX8_isWhole : MethodName := ⟨RX8, "isWhole", "(I)Z"⟩
abbrev cX8_pullOf : ByteArray := prog_10_method_42_code
def yX8_pullOf : MethodName := ⟨RX8, "pullOf", "(I)I"⟩
abbrev cX8_meniscusOf : ByteArray := prog_10_method_43_code
def yX8_meniscusOf : MethodName := ⟨RX8, "meniscusOf", "(I)I"⟩
abbrev cX8_runAt : ByteArray := prog_10_method_44_code
def yX8_runAt : MethodName := ⟨RX8, "runAt", "(IJ)J"⟩
abbrev cX8_fullOf : ByteArray := prog_10_method_45_code
def yX8_fullOf : MethodName := ⟨RX8, "fullOf", "(I)I"⟩
abbrev cX8_columnAt : ByteArray := prog_10_method_46_code
def yX8_columnAt : MethodName := ⟨RX8, "columnAt", "(IJ)J"⟩
abbrev cX8_volumeFor : ByteArray := prog_10_method_47_code
def yX8_volumeFor : MethodName := ⟨RX8, "volumeFor", "(IJ)J"⟩
abbrev cX8_volumesAt : ByteArray := prog_10_method_48_code
def yX8_volumesAt : MethodName := ⟨RX8, "volumesAt", "(IJ)J"⟩
abbrev cX8_floors : ByteArray := prog_10_method_49_code
def yX8_floors : MethodName := ⟨RX8, "floors", "(JJ)J"⟩
abbrev cX8_levelOf : ByteArray := prog_10_method_50_code
def yX8_levelOf : MethodName := ⟨RX8, "levelOf", "(I)J"⟩
abbrev cX8_columnOf : ByteArray := prog_10_method_51_code
def yX8_columnOf : MethodName := ⟨RX8, "columnOf", "(I)I"⟩
abbrev cX8_readingOf : ByteArray := prog_10_method_52_code
def yX8_readingOf : MethodName := ⟨RX8, "readingOf", "(I)I"⟩
abbrev cX8_breaks : ByteArray := prog_10_method_53_code
def yX8_breaks : MethodName := ⟨RX8, "breaks", "(I)I"⟩
abbrev cX8_settles : ByteArray := prog_10_method_54_code
def yX8_settles : MethodName := ⟨RX8, "settles", "()I"⟩
abbrev cX8_upright : ByteArray := prog_10_method_55_code
def yX8_upright : MethodName := ⟨RX8, "upright", "(I)J"⟩
abbrev cX8_toldBy : ByteArray := prog_10_method_56_code
def yX8_toldBy : MethodName := ⟨RX8, "toldBy", "(I)I"⟩
abbrev cX8_differenceOf : ByteArray := prog_10_method_57_code
def yX8_differenceOf : MethodName := ⟨RX8, "differenceOf", "(II)I"⟩
abbrev cX8_inLeg : ByteArray := prog_10_method_58_code
def yX8_inLeg : MethodName := ⟨RX8, "inLeg", "(I)I"⟩
abbrev cX8_size : ByteArray := prog_10_method_59_code
def yX8_size : MethodName := ⟨RX8, "size", "(I)I"⟩
abbrev cX8_isPoint : ByteArray := prog_10_method_60_code
def yX8_isPoint : MethodName := ⟨RX8, "isPoint", "(I)Z"⟩
abbrev cX8_isLeg : ByteArray := prog_10_method_61_code
def yX8_isLeg : MethodName := ⟨RX8, "isLeg", "(I)Z"⟩
abbrev cX8_isTube : ByteArray := prog_10_method_62_code
def yX8_isTube : MethodName := ⟨RX8, "isTube", "(I)Z"⟩
abbrev cX8_pressure : ByteArray := prog_10_method_63_code
def yX8_pressure : MethodName := ⟨RX8, "pressure", "(I)I"⟩
abbrev cX8_leg : ByteArray := prog_10_method_64_code
def yX8_leg : MethodName := ⟨RX8, "leg", "(II)I"⟩
abbrev cX8_leftOf : ByteArray := prog_10_method_65_code
def yX8_leftOf : MethodName := ⟨RX8, "leftOf", "(I)J"⟩
abbrev cX8_account : ByteArray := prog_10_method_66_code
def yX8_account : MethodName := ⟨RX8, "account", "(II)J"⟩
abbrev cX8_tube : ByteArray := prog_10_method_67_code
def yX8_tube : MethodName := ⟨RX8, "tube", "(II)I"⟩
abbrev cX8_told : ByteArray := prog_10_method_68_code
def yX8_told : MethodName := ⟨RX8, "told", "(I)I"⟩
abbrev cX8_offOf : ByteArray := prog_10_method_69_code
def yX8_offOf : MethodName := ⟨RX8, "offOf", "(I)I"⟩
abbrev cX8_off : ByteArray := prog_10_method_70_code
def yX8_off : MethodName := ⟨RX8, "off", "(I)I"⟩
abbrev cX8_difference : ByteArray := prog_10_method_71_code
def yX8_difference : MethodName := ⟨RX8, "difference", "(II)I"⟩
abbrev cX8_nextWhole : ByteArray := prog_10_method_72_code
def yX8_nextWhole : MethodName := ⟨RX8, "nextWhole", "(I)I"⟩
abbrev cX8_ring : ByteArray := prog_10_method_73_code
def yX8_ring : MethodName := ⟨RX8, "ring", "()I"⟩
abbrev cX8_room : ByteArray := prog_10_method_74_code
def yX8_room : MethodName := ⟨RX8, "room", "(I)I"⟩
abbrev cX8_longest : ByteArray := prog_10_method_75_code
def yX8_longest : MethodName := ⟨RX8, "longest", "()I"⟩
abbrev cX8_worst : ByteArray := prog_10_method_76_code
def yX8_worst : MethodName := ⟨RX8, "worst", "()I"⟩
abbrev cX8_isPressure : ByteArray := prog_10_method_77_code
def yX8_isPressure : MethodName := ⟨RX8, "isPressure", "(I)Z"⟩
abbrev cX8_agree : ByteArray := prog_10_method_78_code
def yX8_agree : MethodName := ⟨RX8, "agree", "(II)Z"⟩
abbrev cX8_brokenAside : ByteArray := prog_10_method_79_code
def yX8_brokenAside : MethodName := ⟨RX8, "brokenAside", "()I"⟩
abbrev cX8_wouldBreak : ByteArray := prog_10_method_80_code
def yX8_wouldBreak : MethodName := ⟨RX8, "wouldBreak", "(II)I"⟩
abbrev cX8_readingWith : ByteArray := prog_10_method_81_code
def yX8_readingWith : MethodName := ⟨RX8, "readingWith", "(III)I"⟩
abbrev cX8_held : ByteArray := prog_10_method_82_code
def yX8_held : MethodName := ⟨RX8, "held", "(I)I"⟩
abbrev cX8_breaksIn : ByteArray := prog_10_method_83_code
def yX8_breaksIn : MethodName := ⟨RX8, "breaksIn", "(II)I"⟩
abbrev cX8_bestSlant : ByteArray := prog_10_method_84_code
def yX8_bestSlant : MethodName := ⟨RX8, "bestSlant", "(I)I"⟩
abbrev cX8_lostWith : ByteArray := prog_10_method_85_code
def yX8_lostWith : MethodName := ⟨RX8, "lostWith", "(I)I"⟩
abbrev cX8_meanReading : ByteArray := prog_10_method_86_code
def yX8_meanReading : MethodName := ⟨RX8, "meanReading", "()D"⟩
abbrev cX8_wholeShare : ByteArray := prog_10_method_87_code
def yX8_wholeShare : MethodName := ⟨RX8, "wholeShare", "()F"⟩
abbrev cX8_keeps : ByteArray := prog_10_method_88_code
def yX8_keeps : MethodName := ⟨RX8, "keeps", "()V"⟩
abbrev cX8_sets : ByteArray := prog_10_method_89_code
def yX8_sets : MethodName := ⟨RX8, "sets", "(II)I"⟩
abbrev cX8_setPressure : ByteArray := prog_10_method_90_code
def yX8_setPressure : MethodName := ⟨RX8, "setPressure", "(II)I"⟩
abbrev cX8_setReference : ByteArray := prog_10_method_91_code
def yX8_setReference : MethodName := ⟨RX8, "setReference", "(I)I"⟩
abbrev cX8_sweep : ByteArray := prog_10_method_92_code
def yX8_sweep : MethodName := ⟨RX8, "sweep", "(III)I"⟩
abbrev cX8_isSlant : ByteArray := prog_10_method_93_code
def yX8_isSlant : MethodName := ⟨RX8, "isSlant", "(I)Z"⟩
abbrev cX8_setSlant : ByteArray := prog_10_method_94_code
def yX8_setSlant : MethodName := ⟨RX8, "setSlant", "(II)I"⟩
abbrev cX8_setMark : ByteArray := prog_10_method_95_code
def yX8_setMark : MethodName := ⟨RX8, "setMark", "(I)I"⟩
abbrev cX8_setCurve : ByteArray := prog_10_method_96_code
def yX8_setCurve : MethodName := ⟨RX8, "setCurve", "(II)I"⟩
abbrev cX8_mend : ByteArray := prog_10_method_97_code
def yX8_mend : MethodName := ⟨RX8, "mend", "(I)I"⟩
abbrev cX8_refill : ByteArray := prog_10_method_98_code
def yX8_refill : MethodName := ⟨RX8, "refill", "(II)I"⟩
abbrev cX8_addTube : ByteArray := prog_10_method_99_code
def yX8_addTube : MethodName := ⟨RX8, "addTube", "(IIIII)I"⟩
abbrev cX8_dropTube : ByteArray := prog_10_method_100_code
def yX8_dropTube : MethodName := ⟨RX8, "dropTube", "(I)I"⟩
abbrev cX8_undoCount : ByteArray := prog_10_method_101_code
def yX8_undoCount : MethodName := ⟨RX8, "undoCount", "()I"⟩
abbrev cX8_undo : ByteArray := prog_10_method_102_code
def yX8_undo : MethodName := ⟨RX8, "undo", "()I"⟩
abbrev cX8_saveSnapshot : ByteArray := prog_10_method_103_code
def yX8_saveSnapshot : MethodName := ⟨RX8, "saveSnapshot", "()V"⟩
abbrev cX8_restoreSnapshot : ByteArray := prog_10_method_104_code
def yX8_restoreSnapshot : MethodName := ⟨RX8, "restoreSnapshot", "()Z"⟩
abbrev cX8_writes : ByteArray := prog_10_method_105_code
def yX8_writes : MethodName := ⟨RX8, "writes", "(I)V"⟩
abbrev cX8_writesNumber : ByteArray := prog_10_method_106_code
def yX8_writesNumber : MethodName := ⟨RX8, "writesNumber", "(I)V"⟩
abbrev cX8_writesWord : ByteArray := prog_10_method_107_code
def yX8_writesWord : MethodName := ⟨RX8, "writesWord", "(J)V"⟩
abbrev cX8_writesSigned : ByteArray := prog_10_method_108_code
def yX8_writesSigned : MethodName := ⟨RX8, "writesSigned", "(I)V"⟩
abbrev cX8_format : ByteArray := prog_10_method_109_code
def yX8_format : MethodName := ⟨RX8, "format", "(I)I"⟩
abbrev cX8_formattedByte : ByteArray := prog_10_method_110_code
def yX8_formattedByte : MethodName := ⟨RX8, "formattedByte", "(I)I"⟩
abbrev cX8_adds : ByteArray := prog_10_method_111_code
def yX8_adds : MethodName := ⟨RX8, "adds", "(I)V"⟩
abbrev cX8_propertyHere : ByteArray := prog_10_method_112_code
def yX8_propertyHere : MethodName := ⟨RX8, "propertyHere", "()I"⟩
abbrev cX8_valueRead : ByteArray := prog_10_method_113_code
def yX8_valueRead : MethodName := ⟨RX8, "valueRead", "()V"⟩
abbrev cX8_goesIn : ByteArray := prog_10_method_114_code
def yX8_goesIn : MethodName := ⟨RX8, "goesIn", "(I)Z"⟩
abbrev cX8_strength : ByteArray := prog_10_method_115_code
def yX8_strength : MethodName := ⟨RX8, "strength", "(I)I"⟩
abbrev cX8_settles_ : ByteArray := prog_10_method_116_code
def yX8_settles_ : MethodName := ⟨RX8, "settles", "(I)V"⟩
abbrev cX8_isInside : ByteArray := prog_10_method_117_code
def yX8_isInside : MethodName := ⟨RX8, "isInside", "()Z"⟩
abbrev cX8_comparisonRead : ByteArray := prog_10_method_118_code
def yX8_comparisonRead : MethodName := ⟨RX8, "comparisonRead", "()V"⟩
abbrev cX8_closes : ByteArray := prog_10_method_119_code
def yX8_closes : MethodName := ⟨RX8, "closes", "()V"⟩
abbrev cX8_reads : ByteArray := prog_10_method_120_code
def yX8_reads : MethodName := ⟨RX8, "reads", "()V"⟩
abbrev cX8_propertyOf : ByteArray := prog_10_method_121_code
def yX8_propertyOf : MethodName := ⟨RX8, "propertyOf", "(II)I"⟩
abbrev cX8_joined : ByteArray := prog_10_method_122_code
def yX8_joined : MethodName := ⟨RX8, "joined", "(III)Z"⟩
abbrev cX8_holds : ByteArray := prog_10_method_123_code
def yX8_holds : MethodName := ⟨RX8, "holds", "(I)Z"⟩
abbrev cX8_query : ByteArray := prog_10_method_124_code
def yX8_query : MethodName := ⟨RX8, "query", "(I)I"⟩
abbrev cL_load : ByteArray := method_3_code
def yL_load : MethodName := ⟨RL, "load", "(LSlantGauges;I[J)I"⟩
abbrev cL_size : ByteArray := method_4_code
def yL_size : MethodName := ⟨RL, "size", "(LSlantGauges;I[J)I"⟩
abbrev cL_pressure : ByteArray := method_5_code
def yL_pressure : MethodName := ⟨RL, "pressure", "(LSlantGauges;I[J)I"⟩
abbrev cL_leg : ByteArray := method_6_code
def yL_leg : MethodName := ⟨RL, "leg", "(LSlantGauges;II[J)I"⟩
abbrev cL_account : ByteArray := method_7_code
def yL_account : MethodName := ⟨RL, "account", "(LSlantGauges;II[J)I"⟩
abbrev cL_tube : ByteArray := method_8_code
def yL_tube : MethodName := ⟨RL, "tube", "(LSlantGauges;II[J)I"⟩
abbrev cL_told : ByteArray := method_9_code
def yL_told : MethodName := ⟨RL, "told", "(LSlantGauges;I[J)I"⟩
abbrev cL_off : ByteArray := method_10_code
def yL_off : MethodName := ⟨RL, "off", "(LSlantGauges;I[J)I"⟩
abbrev cL_difference : ByteArray := method_11_code
def yL_difference : MethodName := ⟨RL, "difference", "(LSlantGauges;II[J)I"⟩
abbrev cL_room : ByteArray := method_12_code
def yL_room : MethodName := ⟨RL, "room", "(LSlantGauges;I[J)I"⟩
abbrev cL_agree : ByteArray := method_13_code
def yL_agree : MethodName := ⟨RL, "agree", "(LSlantGauges;II[J)I"⟩
abbrev cL_wouldBreak : ByteArray := method_14_code
def yL_wouldBreak : MethodName := ⟨RL, "wouldBreak", "(LSlantGauges;II[J)I"⟩
abbrev cL_readingWith : ByteArray := method_15_code
def yL_readingWith : MethodName := ⟨RL, "readingWith", "(LSlantGauges;III[J)I"⟩
abbrev cL_breaksIn : ByteArray := method_16_code
def yL_breaksIn : MethodName := ⟨RL, "breaksIn", "(LSlantGauges;II[J)I"⟩
abbrev cL_bestSlant : ByteArray := method_17_code
def yL_bestSlant : MethodName := ⟨RL, "bestSlant", "(LSlantGauges;I[J)I"⟩
abbrev cL_lostWith : ByteArray := method_18_code
def yL_lostWith : MethodName := ⟨RL, "lostWith", "(LSlantGauges;I[J)I"⟩
abbrev cL_setPressure : ByteArray := method_19_code
def yL_setPressure : MethodName := ⟨RL, "setPressure", "(LSlantGauges;II[J)I"⟩
abbrev cL_setReference : ByteArray := method_20_code
def yL_setReference : MethodName := ⟨RL, "setReference", "(LSlantGauges;I[J)I"⟩
abbrev cL_sweep : ByteArray := method_21_code
def yL_sweep : MethodName := ⟨RL, "sweep", "(LSlantGauges;III[J)I"⟩
abbrev cL_setSlant : ByteArray := method_22_code
def yL_setSlant : MethodName := ⟨RL, "setSlant", "(LSlantGauges;II[J)I"⟩
abbrev cL_setMark : ByteArray := method_23_code
def yL_setMark : MethodName := ⟨RL, "setMark", "(LSlantGauges;I[J)I"⟩
abbrev cL_setCurve : ByteArray := method_24_code
def yL_setCurve : MethodName := ⟨RL, "setCurve", "(LSlantGauges;II[J)I"⟩
abbrev cL_mend : ByteArray := method_25_code
def yL_mend : MethodName := ⟨RL, "mend", "(LSlantGauges;I[J)I"⟩
abbrev cL_refill : ByteArray := method_26_code
def yL_refill : MethodName := ⟨RL, "refill", "(LSlantGauges;II[J)I"⟩
abbrev cL_addTube : ByteArray := method_27_code
def yL_addTube : MethodName := ⟨RL, "addTube", "(LSlantGauges;IIIII[J)I"⟩
abbrev cL_dropTube : ByteArray := method_28_code
def yL_dropTube : MethodName := ⟨RL, "dropTube", "(LSlantGauges;I[J)I"⟩
abbrev cL_format : ByteArray := method_29_code
def yL_format : MethodName := ⟨RL, "format", "(LSlantGauges;I[J)I"⟩
abbrev cL_query : ByteArray := method_30_code
def yL_query : MethodName := ⟨RL, "query", "(LSlantGauges;I[J)I"⟩
abbrev cL_law : ByteArray := code
def yL_law : MethodName := ⟨RL, "law", "([I)Z"⟩
abbrev cJ0_length_8abf5 : ByteArray := prog_23_method_54_code
def yJ0_length_8abf5 : MethodName := ⟨RJ0, "length", "()I"⟩
abbrev cJ0_coder_7d493 : ByteArray := prog_23_method_152_code
def yJ0_coder_7d493 : MethodName := ⟨RJ0, "coder", "()B"⟩
abbrev cJ0_charAt_5068e : ByteArray := prog_23_method_56_code
def yJ0_charAt_5068e : MethodName := ⟨RJ0, "charAt", "(I)C"⟩
abbrev cJ0_isLatin1_aae02 : ByteArray := prog_23_method_154_code
def yJ0_isLatin1_aae02 : MethodName := ⟨RJ0, "isLatin1", "()Z"⟩
abbrev cJ0_checkIndex_df160 : ByteArray := prog_23_method_155_code
def yJ0_checkIndex_df160 : MethodName := ⟨RJ0, "checkIndex", "(II)V"⟩
abbrev cJ0_getBytes_840e7 : ByteArray := prog_23_method_147_code
def yJ0_getBytes_840e7 : MethodName := ⟨RJ0, "getBytes", "([BIB)V"⟩
abbrev cJ1_charAt_3b067 : ByteArray := prog_25_method_2_code
def yJ1_charAt_3b067 : MethodName := ⟨RJ1, "charAt", "([BI)C"⟩
abbrev cJ1_canEncode_fc78d : ByteArray := prog_25_method_3_code
def yJ1_canEncode_fc78d : MethodName := ⟨RJ1, "canEncode", "(C)Z"⟩
abbrev cJ3_checkIndex_8e157 : ByteArray := prog_34_method_11_code
def yJ3_checkIndex_8e157 : MethodName := ⟨RJ3, "checkIndex", "(IILjava/util/function/BiFunction;)I"⟩
abbrev cJ4_init_da8c8 : ByteArray := prog_24_method_1_code
def yJ4_init_da8c8 : MethodName := ⟨RJ4, "<init>", "()V"⟩
abbrev cJ4_append_15ec4 : ByteArray := prog_24_method_7_code
def yJ4_append_15ec4 : MethodName := ⟨RJ4, "append", "(Ljava/lang/String;)Ljava/lang/StringBuilder;"⟩
abbrev cJ4_append_cf468 : ByteArray := prog_24_method_14_code
def yJ4_append_cf468 : MethodName := ⟨RJ4, "append", "(C)Ljava/lang/StringBuilder;"⟩
abbrev cJ4_append_bf812 : ByteArray := prog_24_method_15_code
def yJ4_append_bf812 : MethodName := ⟨RJ4, "append", "(I)Ljava/lang/StringBuilder;"⟩
abbrev cJ4_charAt_5068e : ByteArray := prog_24_method_88_code
def yJ4_charAt_5068e : MethodName := ⟨RJ4, "charAt", "(I)C"⟩
abbrev cJ4_setLength_d00df : ByteArray := prog_24_method_89_code
def yJ4_setLength_d00df : MethodName := ⟨RJ4, "setLength", "(I)V"⟩
abbrev cJ4_length_8abf5 : ByteArray := prog_24_method_93_code
def yJ4_length_8abf5 : MethodName := ⟨RJ4, "length", "()I"⟩
abbrev cJ5_append_cf1ce : ByteArray := prog_12_method_22_code
def yJ5_append_cf1ce : MethodName := ⟨RJ5, "append", "(Ljava/lang/String;)Ljava/lang/AbstractStringBuilder;"⟩
abbrev cJ5_append_3fe6f : ByteArray := prog_12_method_31_code
def yJ5_append_3fe6f : MethodName := ⟨RJ5, "append", "(C)Ljava/lang/AbstractStringBuilder;"⟩
abbrev cJ5_append_c97b9 : ByteArray := prog_12_method_32_code
def yJ5_append_c97b9 : MethodName := ⟨RJ5, "append", "(I)Ljava/lang/AbstractStringBuilder;"⟩
abbrev cJ5_charAt_5068e : ByteArray := prog_12_method_14_code
def yJ5_charAt_5068e : MethodName := ⟨RJ5, "charAt", "(I)C"⟩
abbrev cJ5_setLength_d00df : ByteArray := prog_12_method_13_code
def yJ5_setLength_d00df : MethodName := ⟨RJ5, "setLength", "(I)V"⟩
abbrev cJ5_length_8abf5 : ByteArray := prog_12_method_6_code
def yJ5_length_8abf5 : MethodName := ⟨RJ5, "length", "()I"⟩
abbrev cJ5_ensureCapacityInternal_d00df : ByteArray := prog_12_method_9_code
def yJ5_ensureCapacityInternal_d00df : MethodName := ⟨RJ5, "ensureCapacityInternal", "(I)V"⟩
abbrev cJ5_isLatin1_aae02 : ByteArray := prog_12_method_68_code
def yJ5_isLatin1_aae02 : MethodName := ⟨RJ5, "isLatin1", "()Z"⟩
abbrev cJ5_putStringAt_47b60 : ByteArray := prog_12_method_73_code
def yJ5_putStringAt_47b60 : MethodName := ⟨RJ5, "putStringAt", "(ILjava/lang/String;)V"⟩
abbrev cJ5_inflateIfNeededFor_a7421 : ByteArray := prog_12_method_71_code
def yJ5_inflateIfNeededFor_a7421 : MethodName := ⟨RJ5, "inflateIfNeededFor", "(Ljava/lang/String;)V"⟩
abbrev cJ5_init_d00df : ByteArray := prog_12_method_2_code
def yJ5_init_d00df : MethodName := ⟨RJ5, "<init>", "(I)V"⟩
abbrev cJ6_stringSize_0f7a4 : ByteArray := prog_19_method_13_code
def yJ6_stringSize_0f7a4 : MethodName := ⟨RJ6, "stringSize", "(I)I"⟩
abbrev cJ6_getChars_ba4f3 : ByteArray := prog_19_method_12_code
def yJ6_getChars_ba4f3 : MethodName := ⟨RJ6, "getChars", "(II[B)I"⟩
abbrev cJ9_floorDiv_f86c9 : ByteArray := prog_20_method_49_code
def yJ9_floorDiv_f86c9 : MethodName := ⟨RJ9, "floorDiv", "(JJ)J"⟩
abbrev cJ9_floorMod_7cf53 : ByteArray := prog_20_method_50_code
def yJ9_floorMod_7cf53 : MethodName := ⟨RJ9, "floorMod", "(II)I"⟩
abbrev cJ6_compare_7cf53 : ByteArray := prog_19_method_40_code
def yJ6_compare_7cf53 : MethodName := ⟨RJ6, "compare", "(II)I"⟩
abbrev cJ6_bitCount_0f7a4 : ByteArray := prog_19_method_49_code
def yJ6_bitCount_0f7a4 : MethodName := ⟨RJ6, "bitCount", "(I)I"⟩
theorem dX0_init_0 : decode cX0_init 0 = .ok (.aload_n 0, 1) := by decide +kernel
theorem dX0_init_1 : decode cX0_init 1 = .ok (.invokespecial 3, 3) := by decide +kernel
theorem dX0_init_4 : decode cX0_init 4 = .ok (.aload_n 0, 1) := by decide +kernel
theorem dX0_init_5 : decode cX0_init 5 = .ok (.bipush 10, 2) := by decide +kernel
theorem dX0_init_7 : decode cX0_init 7 = .ok (.anewarray 9, 3) := by decide +kernel
theorem dX0_init_10 : decode cX0_init 10 = .ok (.putfield 11, 3) := by decide +kernel
theorem dX0_init_13 : decode cX0_init 13 = .ok (.iconst 0, 1) := by decide +kernel
theorem dX0_init_14 : decode cX0_init 14 = .ok (.istore_n 1, 1) := by decide +kernel
theorem dX0_init_15 : decode cX0_init 15 = .ok (.iload_n 1, 1) := by decide +kernel
theorem dX0_init_16 : decode cX0_init 16 = .ok (.aload_n 0, 1) := by decide +kernel
theorem dX0_init_17 : decode cX0_init 17 = .ok (.getfield 11, 3) := by decide +kernel
theorem dX0_init_20 : decode cX0_init 20 = .ok (.arraylength, 1) := by decide +kernel
theorem dX0_init_21 : decode cX0_init 21 = .ok (.if_icmp .ge 22, 3) := by decide +kernel
theorem dX0_init_24 : decode cX0_init 24 = .ok (.aload_n 0, 1) := by decide +kernel
theorem dX0_init_25 : decode cX0_init 25 = .ok (.getfield 11, 3) := by decide +kernel
theorem dX0_init_28 : decode cX0_init 28 = .ok (.iload_n 1, 1) := by decide +kernel
theorem dX0_init_29 : decode cX0_init 29 = .ok (.new 9, 3) := by decide +kernel
theorem dX0_init_32 : decode cX0_init 32 = .ok (.dup, 1) := by decide +kernel
theorem dX0_init_33 : decode cX0_init 33 = .ok (.invokespecial 17, 3) := by decide +kernel
theorem dX0_init_36 : decode cX0_init 36 = .ok (.aastore, 1) := by decide +kernel
theorem dX0_init_37 : decode cX0_init 37 = .ok (.iinc 1 1, 3) := by decide +kernel
theorem dX0_init_40 : decode cX0_init 40 = .ok (.goto (-25), 3) := by decide +kernel
theorem dX0_init_43 : decode cX0_init 43 = .ok (.return_, 1) := by decide +kernel
theorem dX0_clear_0 : decode cX0_clear 0 = .ok (.aload_n 0, 1) := by decide +kernel
theorem dX0_clear_1 : decode cX0_clear 1 = .ok (.iconst 0, 1) := by decide +kernel
theorem dX0_clear_2 : decode cX0_clear 2 = .ok (.putfield 18, 3) := by decide +kernel
theorem dX0_clear_5 : decode cX0_clear 5 = .ok (.aload_n 0, 1) := by decide +kernel
theorem dX0_clear_6 : decode cX0_clear 6 = .ok (.iconst 0, 1) := by decide +kernel
theorem dX0_clear_7 : decode cX0_clear 7 = .ok (.putfield 22, 3) := by decide +kernel
theorem dX0_clear_10 : decode cX0_clear 10 = .ok (.return_, 1) := by decide +kernel
theorem dX0_keep_0 : decode cX0_keep 0 = .ok (.aload_n 0, 1) := by decide +kernel
theorem dX0_keep_1 : decode cX0_keep 1 = .ok (.getfield 18, 3) := by decide +kernel
theorem dX0_keep_4 : decode cX0_keep 4 = .ok (.aload_n 0, 1) := by decide +kernel
theorem dX0_keep_5 : decode cX0_keep 5 = .ok (.getfield 22, 3) := by decide +kernel
theorem dX0_keep_8 : decode cX0_keep 8 = .ok (.iadd, 1) := by decide +kernel
theorem dX0_keep_9 : decode cX0_keep 9 = .ok (.bipush 10, 2) := by decide +kernel
theorem dX0_keep_11 : decode cX0_keep 11 = .ok (.invokestatic 25, 3) := by decide +kernel
theorem dX0_keep_14 : decode cX0_keep 14 = .ok (.istore_n 2, 1) := by decide +kernel
theorem dX0_keep_15 : decode cX0_keep 15 = .ok (.iload_n 2, 1) := by decide +kernel
theorem dX0_keep_16 : decode cX0_keep 16 = .ok (.ifCond .lt 22, 3) := by decide +kernel
theorem dX0_keep_19 : decode cX0_keep 19 = .ok (.iload_n 2, 1) := by decide +kernel
theorem dX0_keep_20 : decode cX0_keep 20 = .ok (.aload_n 0, 1) := by decide +kernel
theorem dX0_keep_21 : decode cX0_keep 21 = .ok (.getfield 11, 3) := by decide +kernel
theorem dX0_keep_24 : decode cX0_keep 24 = .ok (.arraylength, 1) := by decide +kernel
theorem dX0_keep_25 : decode cX0_keep 25 = .ok (.if_icmp .ge 13, 3) := by decide +kernel
theorem dX0_keep_28 : decode cX0_keep 28 = .ok (.aload_n 0, 1) := by decide +kernel
theorem dX0_keep_29 : decode cX0_keep 29 = .ok (.getfield 11, 3) := by decide +kernel
theorem dX0_keep_32 : decode cX0_keep 32 = .ok (.iload_n 2, 1) := by decide +kernel
theorem dX0_keep_33 : decode cX0_keep 33 = .ok (.aaload, 1) := by decide +kernel
theorem dX0_keep_34 : decode cX0_keep 34 = .ok (.aload_n 1, 1) := by decide +kernel
theorem dX0_keep_35 : decode cX0_keep 35 = .ok (.invokevirtual 31, 3) := by decide +kernel
theorem dX0_keep_38 : decode cX0_keep 38 = .ok (.aload_n 0, 1) := by decide +kernel
theorem dX0_keep_39 : decode cX0_keep 39 = .ok (.getfield 22, 3) := by decide +kernel
theorem dX0_keep_42 : decode cX0_keep 42 = .ok (.bipush 10, 2) := by decide +kernel
theorem dX0_keep_44 : decode cX0_keep 44 = .ok (.if_icmp .ge 16, 3) := by decide +kernel
theorem dX0_keep_47 : decode cX0_keep 47 = .ok (.aload_n 0, 1) := by decide +kernel
theorem dX0_keep_48 : decode cX0_keep 48 = .ok (.dup, 1) := by decide +kernel
theorem dX0_keep_49 : decode cX0_keep 49 = .ok (.getfield 22, 3) := by decide +kernel
theorem dX0_keep_52 : decode cX0_keep 52 = .ok (.iconst 1, 1) := by decide +kernel
theorem dX0_keep_53 : decode cX0_keep 53 = .ok (.iadd, 1) := by decide +kernel
theorem dX0_keep_54 : decode cX0_keep 54 = .ok (.putfield 22, 3) := by decide +kernel
theorem dX0_keep_57 : decode cX0_keep 57 = .ok (.goto 18, 3) := by decide +kernel
theorem dX0_keep_60 : decode cX0_keep 60 = .ok (.aload_n 0, 1) := by decide +kernel
theorem dX0_keep_61 : decode cX0_keep 61 = .ok (.aload_n 0, 1) := by decide +kernel
theorem dX0_keep_62 : decode cX0_keep 62 = .ok (.getfield 18, 3) := by decide +kernel
theorem dX0_keep_65 : decode cX0_keep 65 = .ok (.iconst 1, 1) := by decide +kernel
theorem dX0_keep_66 : decode cX0_keep 66 = .ok (.iadd, 1) := by decide +kernel
theorem dX0_keep_67 : decode cX0_keep 67 = .ok (.bipush 10, 2) := by decide +kernel
theorem dX0_keep_69 : decode cX0_keep 69 = .ok (.invokestatic 25, 3) := by decide +kernel
theorem dX0_keep_72 : decode cX0_keep 72 = .ok (.putfield 18, 3) := by decide +kernel
theorem dX0_keep_75 : decode cX0_keep 75 = .ok (.return_, 1) := by decide +kernel
theorem dX0_takeBack_0 : decode cX0_takeBack 0 = .ok (.aload_n 0, 1) := by decide +kernel
theorem dX0_takeBack_1 : decode cX0_takeBack 1 = .ok (.getfield 18, 3) := by decide +kernel
theorem dX0_takeBack_4 : decode cX0_takeBack 4 = .ok (.aload_n 0, 1) := by decide +kernel
theorem dX0_takeBack_5 : decode cX0_takeBack 5 = .ok (.getfield 22, 3) := by decide +kernel
theorem dX0_takeBack_8 : decode cX0_takeBack 8 = .ok (.iadd, 1) := by decide +kernel
theorem dX0_takeBack_9 : decode cX0_takeBack 9 = .ok (.iconst 1, 1) := by decide +kernel
theorem dX0_takeBack_10 : decode cX0_takeBack 10 = .ok (.isub, 1) := by decide +kernel
theorem dX0_takeBack_11 : decode cX0_takeBack 11 = .ok (.bipush 10, 2) := by decide +kernel
theorem dX0_takeBack_13 : decode cX0_takeBack 13 = .ok (.invokestatic 25, 3) := by decide +kernel
theorem dX0_takeBack_16 : decode cX0_takeBack 16 = .ok (.istore_n 2, 1) := by decide +kernel
theorem dX0_takeBack_17 : decode cX0_takeBack 17 = .ok (.aload_n 0, 1) := by decide +kernel
theorem dX0_takeBack_18 : decode cX0_takeBack 18 = .ok (.getfield 22, 3) := by decide +kernel
theorem dX0_takeBack_21 : decode cX0_takeBack 21 = .ok (.ifCond .le 36, 3) := by decide +kernel
theorem dX0_takeBack_24 : decode cX0_takeBack 24 = .ok (.iload_n 2, 1) := by decide +kernel
theorem dX0_takeBack_25 : decode cX0_takeBack 25 = .ok (.ifCond .lt 32, 3) := by decide +kernel
theorem dX0_takeBack_28 : decode cX0_takeBack 28 = .ok (.iload_n 2, 1) := by decide +kernel
theorem dX0_takeBack_29 : decode cX0_takeBack 29 = .ok (.aload_n 0, 1) := by decide +kernel
theorem dX0_takeBack_30 : decode cX0_takeBack 30 = .ok (.getfield 11, 3) := by decide +kernel
theorem dX0_takeBack_33 : decode cX0_takeBack 33 = .ok (.arraylength, 1) := by decide +kernel
theorem dX0_takeBack_34 : decode cX0_takeBack 34 = .ok (.if_icmp .ge 23, 3) := by decide +kernel
theorem dX0_takeBack_37 : decode cX0_takeBack 37 = .ok (.aload_n 0, 1) := by decide +kernel
theorem dX0_takeBack_38 : decode cX0_takeBack 38 = .ok (.dup, 1) := by decide +kernel
theorem dX0_takeBack_39 : decode cX0_takeBack 39 = .ok (.getfield 22, 3) := by decide +kernel
theorem dX0_takeBack_42 : decode cX0_takeBack 42 = .ok (.iconst 1, 1) := by decide +kernel
theorem dX0_takeBack_43 : decode cX0_takeBack 43 = .ok (.isub, 1) := by decide +kernel
theorem dX0_takeBack_44 : decode cX0_takeBack 44 = .ok (.putfield 22, 3) := by decide +kernel
theorem dX0_takeBack_47 : decode cX0_takeBack 47 = .ok (.aload_n 1, 1) := by decide +kernel
theorem dX0_takeBack_48 : decode cX0_takeBack 48 = .ok (.aload_n 0, 1) := by decide +kernel
theorem dX0_takeBack_49 : decode cX0_takeBack 49 = .ok (.getfield 11, 3) := by decide +kernel
theorem dX0_takeBack_52 : decode cX0_takeBack 52 = .ok (.iload_n 2, 1) := by decide +kernel
theorem dX0_takeBack_53 : decode cX0_takeBack 53 = .ok (.aaload, 1) := by decide +kernel
theorem dX0_takeBack_54 : decode cX0_takeBack 54 = .ok (.invokevirtual 31, 3) := by decide +kernel
theorem dX0_takeBack_57 : decode cX0_takeBack 57 = .ok (.return_, 1) := by decide +kernel
theorem dX1_init_0 : decode cX1_init 0 = .ok (.aload_n 0, 1) := by decide +kernel
theorem dX1_init_1 : decode cX1_init 1 = .ok (.invokespecial 1, 3) := by decide +kernel
theorem dX1_init_4 : decode cX1_init 4 = .ok (.return_, 1) := by decide +kernel
theorem dX1_clear_0 : decode cX1_clear 0 = .ok (.aload_n 0, 1) := by decide +kernel
theorem dX1_clear_1 : decode cX1_clear 1 = .ok (.sipush 1000, 3) := by decide +kernel
theorem dX1_clear_4 : decode cX1_clear 4 = .ok (.sipush 10000, 3) := by decide +kernel
theorem dX1_clear_7 : decode cX1_clear 7 = .ok (.iconst 0, 1) := by decide +kernel
theorem dX1_clear_8 : decode cX1_clear 8 = .ok (.invokevirtual 7, 3) := by decide +kernel
theorem dX1_clear_11 : decode cX1_clear 11 = .ok (.aload_n 0, 1) := by decide +kernel
theorem dX1_clear_12 : decode cX1_clear 12 = .ok (.lconst 0, 1) := by decide +kernel
theorem dX1_clear_13 : decode cX1_clear 13 = .ok (.putfield 13, 3) := by decide +kernel
theorem dX1_clear_16 : decode cX1_clear 16 = .ok (.aload_n 0, 1) := by decide +kernel
theorem dX1_clear_17 : decode cX1_clear 17 = .ok (.lconst 0, 1) := by decide +kernel
theorem dX1_clear_18 : decode cX1_clear 18 = .ok (.putfield 17, 3) := by decide +kernel
theorem dX1_clear_21 : decode cX1_clear 21 = .ok (.aload_n 0, 1) := by decide +kernel
theorem dX1_clear_22 : decode cX1_clear 22 = .ok (.lconst 0, 1) := by decide +kernel
theorem dX1_clear_23 : decode cX1_clear 23 = .ok (.putfield 20, 3) := by decide +kernel
theorem dX1_clear_26 : decode cX1_clear 26 = .ok (.aload_n 0, 1) := by decide +kernel
theorem dX1_clear_27 : decode cX1_clear 27 = .ok (.lconst 0, 1) := by decide +kernel
theorem dX1_clear_28 : decode cX1_clear 28 = .ok (.putfield 23, 3) := by decide +kernel
theorem dX1_clear_31 : decode cX1_clear 31 = .ok (.return_, 1) := by decide +kernel
theorem dX1_liquid_0 : decode cX1_liquid 0 = .ok (.aload_n 0, 1) := by decide +kernel
theorem dX1_liquid_1 : decode cX1_liquid 1 = .ok (.iload_n 1, 1) := by decide +kernel
theorem dX1_liquid_2 : decode cX1_liquid 2 = .ok (.putfield 26, 3) := by decide +kernel
theorem dX1_liquid_5 : decode cX1_liquid 5 = .ok (.aload_n 0, 1) := by decide +kernel
theorem dX1_liquid_6 : decode cX1_liquid 6 = .ok (.iload_n 2, 1) := by decide +kernel
theorem dX1_liquid_7 : decode cX1_liquid 7 = .ok (.putfield 30, 3) := by decide +kernel
theorem dX1_liquid_10 : decode cX1_liquid 10 = .ok (.aload_n 0, 1) := by decide +kernel
theorem dX1_liquid_11 : decode cX1_liquid 11 = .ok (.iload_n 3, 1) := by decide +kernel
theorem dX1_liquid_12 : decode cX1_liquid 12 = .ok (.putfield 33, 3) := by decide +kernel
theorem dX1_liquid_15 : decode cX1_liquid 15 = .ok (.return_, 1) := by decide +kernel
theorem dX1_copyFrom_0 : decode cX1_copyFrom 0 = .ok (.aload_n 0, 1) := by decide +kernel
theorem dX1_copyFrom_1 : decode cX1_copyFrom 1 = .ok (.aload_n 1, 1) := by decide +kernel
theorem dX1_copyFrom_2 : decode cX1_copyFrom 2 = .ok (.getfield 26, 3) := by decide +kernel
theorem dX1_copyFrom_5 : decode cX1_copyFrom 5 = .ok (.aload_n 1, 1) := by decide +kernel
theorem dX1_copyFrom_6 : decode cX1_copyFrom 6 = .ok (.getfield 30, 3) := by decide +kernel
theorem dX1_copyFrom_9 : decode cX1_copyFrom 9 = .ok (.aload_n 1, 1) := by decide +kernel
theorem dX1_copyFrom_10 : decode cX1_copyFrom 10 = .ok (.getfield 33, 3) := by decide +kernel
theorem dX1_copyFrom_13 : decode cX1_copyFrom 13 = .ok (.invokevirtual 7, 3) := by decide +kernel
theorem dX1_copyFrom_16 : decode cX1_copyFrom 16 = .ok (.aload_n 0, 1) := by decide +kernel
theorem dX1_copyFrom_17 : decode cX1_copyFrom 17 = .ok (.aload_n 1, 1) := by decide +kernel
theorem dX1_copyFrom_18 : decode cX1_copyFrom 18 = .ok (.getfield 13, 3) := by decide +kernel
theorem dX1_copyFrom_21 : decode cX1_copyFrom 21 = .ok (.putfield 13, 3) := by decide +kernel
theorem dX1_copyFrom_24 : decode cX1_copyFrom 24 = .ok (.aload_n 0, 1) := by decide +kernel
theorem dX1_copyFrom_25 : decode cX1_copyFrom 25 = .ok (.aload_n 1, 1) := by decide +kernel
theorem dX1_copyFrom_26 : decode cX1_copyFrom 26 = .ok (.getfield 17, 3) := by decide +kernel
theorem dX1_copyFrom_29 : decode cX1_copyFrom 29 = .ok (.putfield 17, 3) := by decide +kernel
theorem dX1_copyFrom_32 : decode cX1_copyFrom 32 = .ok (.aload_n 0, 1) := by decide +kernel
theorem dX1_copyFrom_33 : decode cX1_copyFrom 33 = .ok (.aload_n 1, 1) := by decide +kernel
theorem dX1_copyFrom_34 : decode cX1_copyFrom 34 = .ok (.getfield 20, 3) := by decide +kernel
theorem dX1_copyFrom_37 : decode cX1_copyFrom 37 = .ok (.putfield 20, 3) := by decide +kernel
theorem dX1_copyFrom_40 : decode cX1_copyFrom 40 = .ok (.aload_n 0, 1) := by decide +kernel
theorem dX1_copyFrom_41 : decode cX1_copyFrom 41 = .ok (.aload_n 1, 1) := by decide +kernel
theorem dX1_copyFrom_42 : decode cX1_copyFrom 42 = .ok (.getfield 23, 3) := by decide +kernel
theorem dX1_copyFrom_45 : decode cX1_copyFrom 45 = .ok (.putfield 23, 3) := by decide +kernel
theorem dX1_copyFrom_48 : decode cX1_copyFrom 48 = .ok (.return_, 1) := by decide +kernel
theorem dX2_init_0 : decode cX2_init 0 = .ok (.aload_n 0, 1) := by decide +kernel
theorem dX2_init_1 : decode cX2_init 1 = .ok (.invokespecial 3, 3) := by decide +kernel
theorem dX2_init_4 : decode cX2_init 4 = .ok (.aload_n 0, 1) := by decide +kernel
theorem dX2_init_5 : decode cX2_init 5 = .ok (.aload_n 1, 1) := by decide +kernel
theorem dX2_init_6 : decode cX2_init 6 = .ok (.putfield 9, 3) := by decide +kernel
theorem dX2_init_9 : decode cX2_init 9 = .ok (.aload_n 0, 1) := by decide +kernel
theorem dX2_init_10 : decode cX2_init 10 = .ok (.aload_n 2, 1) := by decide +kernel
theorem dX2_init_11 : decode cX2_init 11 = .ok (.putfield 15, 3) := by decide +kernel
theorem dX2_init_14 : decode cX2_init 14 = .ok (.return_, 1) := by decide +kernel
theorem dX2_wantsMany_0 : decode cX2_wantsMany 0 = .ok (.aload_n 0, 1) := by decide +kernel
theorem dX2_wantsMany_1 : decode cX2_wantsMany 1 = .ok (.getfield 9, 3) := by decide +kernel
theorem dX2_wantsMany_4 : decode cX2_wantsMany 4 = .ok (.ldc 19, 2) := by decide +kernel
theorem dX2_wantsMany_6 : decode cX2_wantsMany 6 = .ok (.invokevirtual 21, 3) := by decide +kernel
theorem dX2_wantsMany_9 : decode cX2_wantsMany 9 = .ok (.istore_n 1, 1) := by decide +kernel
theorem dX2_wantsMany_10 : decode cX2_wantsMany 10 = .ok (.iload_n 1, 1) := by decide +kernel
theorem dX2_wantsMany_11 : decode cX2_wantsMany 11 = .ok (.ifCond .eq 13, 3) := by decide +kernel
theorem dX2_wantsMany_14 : decode cX2_wantsMany 14 = .ok (.aload_n 0, 1) := by decide +kernel
theorem dX2_wantsMany_15 : decode cX2_wantsMany 15 = .ok (.getfield 9, 3) := by decide +kernel
theorem dX2_wantsMany_18 : decode cX2_wantsMany 18 = .ok (.invokevirtual 27, 3) := by decide +kernel
theorem dX2_wantsMany_21 : decode cX2_wantsMany 21 = .ok (.goto 12, 3) := by decide +kernel
theorem dX2_wantsMany_24 : decode cX2_wantsMany 24 = .ok (.aload_n 0, 1) := by decide +kernel
theorem dX2_wantsMany_25 : decode cX2_wantsMany 25 = .ok (.getfield 9, 3) := by decide +kernel
theorem dX2_wantsMany_28 : decode cX2_wantsMany 28 = .ok (.ldc 30, 2) := by decide +kernel
theorem dX2_wantsMany_30 : decode cX2_wantsMany 30 = .ok (.invokevirtual 32, 3) := by decide +kernel
theorem dX2_wantsMany_33 : decode cX2_wantsMany 33 = .ok (.iload_n 1, 1) := by decide +kernel
theorem dX2_wantsMany_34 : decode cX2_wantsMany 34 = .ok (.ireturn, 1) := by decide +kernel
theorem dX2_test_0 : decode cX2_test 0 = .ok (.aload_n 0, 1) := by decide +kernel
theorem dX2_test_1 : decode cX2_test 1 = .ok (.iload_n 1, 1) := by decide +kernel
theorem dX2_test_2 : decode cX2_test 2 = .ok (.invokevirtual 36, 3) := by decide +kernel
theorem dX2_test_5 : decode cX2_test 5 = .ok (.istore_n 2, 1) := by decide +kernel
theorem dX2_test_6 : decode cX2_test 6 = .ok (.iconst 0, 1) := by decide +kernel
theorem dX2_test_7 : decode cX2_test 7 = .ok (.istore_n 3, 1) := by decide +kernel
theorem dX2_test_8 : decode cX2_test 8 = .ok (.iload_n 3, 1) := by decide +kernel
theorem dX2_test_9 : decode cX2_test 9 = .ok (.sipush 200, 3) := by decide +kernel
theorem dX2_test_12 : decode cX2_test 12 = .ok (.if_icmp .ge 46, 3) := by decide +kernel
theorem dX2_test_15 : decode cX2_test 15 = .ok (.aload_n 0, 1) := by decide +kernel
theorem dX2_test_16 : decode cX2_test 16 = .ok (.getfield 9, 3) := by decide +kernel
theorem dX2_test_19 : decode cX2_test 19 = .ok (.invokevirtual 40, 3) := by decide +kernel
theorem dX2_test_22 : decode cX2_test 22 = .ok (.ifCond .eq 36, 3) := by decide +kernel
theorem dX2_test_25 : decode cX2_test 25 = .ok (.aload_n 0, 1) := by decide +kernel
theorem dX2_test_26 : decode cX2_test 26 = .ok (.getfield 9, 3) := by decide +kernel
theorem dX2_test_29 : decode cX2_test 29 = .ok (.ldc 44, 2) := by decide +kernel
theorem dX2_test_31 : decode cX2_test 31 = .ok (.invokevirtual 21, 3) := by decide +kernel
theorem dX2_test_34 : decode cX2_test 34 = .ok (.ifCond .eq 24, 3) := by decide +kernel
theorem dX2_test_37 : decode cX2_test 37 = .ok (.aload_n 0, 1) := by decide +kernel
theorem dX2_test_38 : decode cX2_test 38 = .ok (.getfield 9, 3) := by decide +kernel
theorem dX2_test_41 : decode cX2_test 41 = .ok (.invokevirtual 27, 3) := by decide +kernel
theorem dX2_test_44 : decode cX2_test 44 = .ok (.iload_n 2, 1) := by decide +kernel
theorem dX2_test_45 : decode cX2_test 45 = .ok (.aload_n 0, 1) := by decide +kernel
theorem dX2_test_46 : decode cX2_test 46 = .ok (.iload_n 1, 1) := by decide +kernel
theorem dX2_test_47 : decode cX2_test 47 = .ok (.invokevirtual 36, 3) := by decide +kernel
theorem dX2_test_50 : decode cX2_test 50 = .ok (.ior, 1) := by decide +kernel
theorem dX2_test_51 : decode cX2_test 51 = .ok (.istore_n 2, 1) := by decide +kernel
theorem dX2_test_52 : decode cX2_test 52 = .ok (.iinc 3 1, 3) := by decide +kernel
theorem dX2_test_55 : decode cX2_test 55 = .ok (.goto (-47), 3) := by decide +kernel
theorem dX2_test_58 : decode cX2_test 58 = .ok (.iload_n 2, 1) := by decide +kernel
theorem dX2_test_59 : decode cX2_test 59 = .ok (.ireturn, 1) := by decide +kernel
theorem dX2_conjunction_0 : decode cX2_conjunction 0 = .ok (.aload_n 0, 1) := by decide +kernel
theorem dX2_conjunction_1 : decode cX2_conjunction 1 = .ok (.iload_n 1, 1) := by decide +kernel
theorem dX2_conjunction_2 : decode cX2_conjunction 2 = .ok (.invokevirtual 46, 3) := by decide +kernel
theorem dX2_conjunction_5 : decode cX2_conjunction 5 = .ok (.istore_n 2, 1) := by decide +kernel
theorem dX2_conjunction_6 : decode cX2_conjunction 6 = .ok (.iconst 0, 1) := by decide +kernel
theorem dX2_conjunction_7 : decode cX2_conjunction 7 = .ok (.istore_n 3, 1) := by decide +kernel
theorem dX2_conjunction_8 : decode cX2_conjunction 8 = .ok (.iload_n 3, 1) := by decide +kernel
theorem dX2_conjunction_9 : decode cX2_conjunction 9 = .ok (.sipush 200, 3) := by decide +kernel
theorem dX2_conjunction_12 : decode cX2_conjunction 12 = .ok (.if_icmp .ge 46, 3) := by decide +kernel
theorem dX2_conjunction_15 : decode cX2_conjunction 15 = .ok (.aload_n 0, 1) := by decide +kernel
theorem dX2_conjunction_16 : decode cX2_conjunction 16 = .ok (.getfield 9, 3) := by decide +kernel
theorem dX2_conjunction_19 : decode cX2_conjunction 19 = .ok (.invokevirtual 40, 3) := by decide +kernel
theorem dX2_conjunction_22 : decode cX2_conjunction 22 = .ok (.ifCond .eq 36, 3) := by decide +kernel
theorem dX2_conjunction_25 : decode cX2_conjunction 25 = .ok (.aload_n 0, 1) := by decide +kernel
theorem dX2_conjunction_26 : decode cX2_conjunction 26 = .ok (.getfield 9, 3) := by decide +kernel
theorem dX2_conjunction_29 : decode cX2_conjunction 29 = .ok (.ldc 49, 2) := by decide +kernel
theorem dX2_conjunction_31 : decode cX2_conjunction 31 = .ok (.invokevirtual 21, 3) := by decide +kernel
theorem dX2_conjunction_34 : decode cX2_conjunction 34 = .ok (.ifCond .eq 24, 3) := by decide +kernel
theorem dX2_conjunction_37 : decode cX2_conjunction 37 = .ok (.aload_n 0, 1) := by decide +kernel
theorem dX2_conjunction_38 : decode cX2_conjunction 38 = .ok (.getfield 9, 3) := by decide +kernel
theorem dX2_conjunction_41 : decode cX2_conjunction 41 = .ok (.invokevirtual 27, 3) := by decide +kernel
theorem dX2_conjunction_44 : decode cX2_conjunction 44 = .ok (.iload_n 2, 1) := by decide +kernel
theorem dX2_conjunction_45 : decode cX2_conjunction 45 = .ok (.aload_n 0, 1) := by decide +kernel
theorem dX2_conjunction_46 : decode cX2_conjunction 46 = .ok (.iload_n 1, 1) := by decide +kernel
theorem dX2_conjunction_47 : decode cX2_conjunction 47 = .ok (.invokevirtual 46, 3) := by decide +kernel
theorem dX2_conjunction_50 : decode cX2_conjunction 50 = .ok (.iand, 1) := by decide +kernel
theorem dX2_conjunction_51 : decode cX2_conjunction 51 = .ok (.istore_n 2, 1) := by decide +kernel
theorem dX2_conjunction_52 : decode cX2_conjunction 52 = .ok (.iinc 3 1, 3) := by decide +kernel
theorem dX2_conjunction_55 : decode cX2_conjunction 55 = .ok (.goto (-47), 3) := by decide +kernel
theorem dX2_conjunction_58 : decode cX2_conjunction 58 = .ok (.iload_n 2, 1) := by decide +kernel
theorem dX2_conjunction_59 : decode cX2_conjunction 59 = .ok (.ireturn, 1) := by decide +kernel
theorem dX2_factor_0 : decode cX2_factor 0 = .ok (.aload_n 0, 1) := by decide +kernel
theorem dX2_factor_1 : decode cX2_factor 1 = .ok (.getfield 9, 3) := by decide +kernel
theorem dX2_factor_4 : decode cX2_factor 4 = .ok (.ldc 51, 2) := by decide +kernel
theorem dX2_factor_6 : decode cX2_factor 6 = .ok (.invokevirtual 21, 3) := by decide +kernel
theorem dX2_factor_9 : decode cX2_factor 9 = .ok (.istore_n 2, 1) := by decide +kernel
theorem dX2_factor_10 : decode cX2_factor 10 = .ok (.iload_n 2, 1) := by decide +kernel
theorem dX2_factor_11 : decode cX2_factor 11 = .ok (.ifCond .ne 20, 3) := by decide +kernel
theorem dX2_factor_14 : decode cX2_factor 14 = .ok (.aload_n 0, 1) := by decide +kernel
theorem dX2_factor_15 : decode cX2_factor 15 = .ok (.getfield 9, 3) := by decide +kernel
theorem dX2_factor_18 : decode cX2_factor 18 = .ok (.bipush 40, 2) := by decide +kernel
theorem dX2_factor_20 : decode cX2_factor 20 = .ok (.invokevirtual 53, 3) := by decide +kernel
theorem dX2_factor_23 : decode cX2_factor 23 = .ok (.ifCond .ne 8, 3) := by decide +kernel
theorem dX2_factor_26 : decode cX2_factor 26 = .ok (.aload_n 0, 1) := by decide +kernel
theorem dX2_factor_27 : decode cX2_factor 27 = .ok (.invokevirtual 57, 3) := by decide +kernel
theorem dX2_factor_30 : decode cX2_factor 30 = .ok (.ireturn, 1) := by decide +kernel
theorem dX2_factor_31 : decode cX2_factor 31 = .ok (.iload_n 1, 1) := by decide +kernel
theorem dX2_factor_32 : decode cX2_factor 32 = .ok (.bipush 6, 2) := by decide +kernel
theorem dX2_factor_34 : decode cX2_factor 34 = .ok (.if_icmp .lt 13, 3) := by decide +kernel
theorem dX2_factor_37 : decode cX2_factor 37 = .ok (.aload_n 0, 1) := by decide +kernel
theorem dX2_factor_38 : decode cX2_factor 38 = .ok (.getfield 9, 3) := by decide +kernel
theorem dX2_factor_41 : decode cX2_factor 41 = .ok (.iconst 3, 1) := by decide +kernel
theorem dX2_factor_42 : decode cX2_factor 42 = .ok (.invokevirtual 61, 3) := by decide +kernel
theorem dX2_factor_45 : decode cX2_factor 45 = .ok (.iconst 0, 1) := by decide +kernel
theorem dX2_factor_46 : decode cX2_factor 46 = .ok (.ireturn, 1) := by decide +kernel
theorem dX2_factor_47 : decode cX2_factor 47 = .ok (.aload_n 0, 1) := by decide +kernel
theorem dX2_factor_48 : decode cX2_factor 48 = .ok (.getfield 9, 3) := by decide +kernel
theorem dX2_factor_51 : decode cX2_factor 51 = .ok (.invokevirtual 27, 3) := by decide +kernel
theorem dX2_factor_54 : decode cX2_factor 54 = .ok (.iload_n 2, 1) := by decide +kernel
theorem dX2_factor_55 : decode cX2_factor 55 = .ok (.ifCond .eq 25, 3) := by decide +kernel
theorem dX2_factor_58 : decode cX2_factor 58 = .ok (.aload_n 0, 1) := by decide +kernel
theorem dX2_factor_59 : decode cX2_factor 59 = .ok (.iload_n 1, 1) := by decide +kernel
theorem dX2_factor_60 : decode cX2_factor 60 = .ok (.iconst 1, 1) := by decide +kernel
theorem dX2_factor_61 : decode cX2_factor 61 = .ok (.iadd, 1) := by decide +kernel
theorem dX2_factor_62 : decode cX2_factor 62 = .ok (.invokevirtual 46, 3) := by decide +kernel
theorem dX2_factor_65 : decode cX2_factor 65 = .ok (.iconst (-1), 1) := by decide +kernel
theorem dX2_factor_66 : decode cX2_factor 66 = .ok (.ixor, 1) := by decide +kernel
theorem dX2_factor_67 : decode cX2_factor 67 = .ok (.iconst 1, 1) := by decide +kernel
theorem dX2_factor_68 : decode cX2_factor 68 = .ok (.aload_n 0, 1) := by decide +kernel
theorem dX2_factor_69 : decode cX2_factor 69 = .ok (.getfield 15, 3) := by decide +kernel
theorem dX2_factor_72 : decode cX2_factor 72 = .ok (.getfield 65, 3) := by decide +kernel
theorem dX2_factor_75 : decode cX2_factor 75 = .ok (.ishl, 1) := by decide +kernel
theorem dX2_factor_76 : decode cX2_factor 76 = .ok (.iconst 1, 1) := by decide +kernel
theorem dX2_factor_77 : decode cX2_factor 77 = .ok (.isub, 1) := by decide +kernel
theorem dX2_factor_78 : decode cX2_factor 78 = .ok (.iand, 1) := by decide +kernel
theorem dX2_factor_79 : decode cX2_factor 79 = .ok (.ireturn, 1) := by decide +kernel
theorem dX2_factor_80 : decode cX2_factor 80 = .ok (.aload_n 0, 1) := by decide +kernel
theorem dX2_factor_81 : decode cX2_factor 81 = .ok (.iload_n 1, 1) := by decide +kernel
theorem dX2_factor_82 : decode cX2_factor 82 = .ok (.iconst 1, 1) := by decide +kernel
theorem dX2_factor_83 : decode cX2_factor 83 = .ok (.iadd, 1) := by decide +kernel
theorem dX2_factor_84 : decode cX2_factor 84 = .ok (.invokevirtual 71, 3) := by decide +kernel
theorem dX2_factor_87 : decode cX2_factor 87 = .ok (.istore_n 3, 1) := by decide +kernel
theorem dX2_factor_88 : decode cX2_factor 88 = .ok (.aload_n 0, 1) := by decide +kernel
theorem dX2_factor_89 : decode cX2_factor 89 = .ok (.getfield 9, 3) := by decide +kernel
theorem dX2_factor_92 : decode cX2_factor 92 = .ok (.bipush 41, 2) := by decide +kernel
theorem dX2_factor_94 : decode cX2_factor 94 = .ok (.invokevirtual 74, 3) := by decide +kernel
theorem dX2_factor_97 : decode cX2_factor 97 = .ok (.iload_n 3, 1) := by decide +kernel
theorem dX2_factor_98 : decode cX2_factor 98 = .ok (.ireturn, 1) := by decide +kernel
theorem dX2_comparison_0 : decode cX2_comparison 0 = .ok (.aload_n 0, 1) := by decide +kernel
theorem dX2_comparison_1 : decode cX2_comparison 1 = .ok (.invokevirtual 78, 3) := by decide +kernel
theorem dX2_comparison_4 : decode cX2_comparison 4 = .ok (.istore_n 1, 1) := by decide +kernel
theorem dX2_comparison_5 : decode cX2_comparison 5 = .ok (.aload_n 0, 1) := by decide +kernel
theorem dX2_comparison_6 : decode cX2_comparison 6 = .ok (.getfield 9, 3) := by decide +kernel
theorem dX2_comparison_9 : decode cX2_comparison 9 = .ok (.bipush 60, 2) := by decide +kernel
theorem dX2_comparison_11 : decode cX2_comparison 11 = .ok (.invokevirtual 53, 3) := by decide +kernel
theorem dX2_comparison_14 : decode cX2_comparison 14 = .ok (.istore_n 2, 1) := by decide +kernel
theorem dX2_comparison_15 : decode cX2_comparison 15 = .ok (.aload_n 0, 1) := by decide +kernel
theorem dX2_comparison_16 : decode cX2_comparison 16 = .ok (.getfield 9, 3) := by decide +kernel
theorem dX2_comparison_19 : decode cX2_comparison 19 = .ok (.bipush 62, 2) := by decide +kernel
theorem dX2_comparison_21 : decode cX2_comparison 21 = .ok (.invokevirtual 53, 3) := by decide +kernel
theorem dX2_comparison_24 : decode cX2_comparison 24 = .ok (.istore_n 3, 1) := by decide +kernel
theorem dX2_comparison_25 : decode cX2_comparison 25 = .ok (.iload_n 2, 1) := by decide +kernel
theorem dX2_comparison_26 : decode cX2_comparison 26 = .ok (.ifCond .ne 7, 3) := by decide +kernel
theorem dX2_comparison_29 : decode cX2_comparison 29 = .ok (.iload_n 3, 1) := by decide +kernel
theorem dX2_comparison_30 : decode cX2_comparison 30 = .ok (.ifCond .eq 13, 3) := by decide +kernel
theorem dX2_comparison_33 : decode cX2_comparison 33 = .ok (.aload_n 0, 1) := by decide +kernel
theorem dX2_comparison_34 : decode cX2_comparison 34 = .ok (.getfield 9, 3) := by decide +kernel
theorem dX2_comparison_37 : decode cX2_comparison 37 = .ok (.invokevirtual 27, 3) := by decide +kernel
theorem dX2_comparison_40 : decode cX2_comparison 40 = .ok (.goto 12, 3) := by decide +kernel
theorem dX2_comparison_43 : decode cX2_comparison 43 = .ok (.aload_n 0, 1) := by decide +kernel
theorem dX2_comparison_44 : decode cX2_comparison 44 = .ok (.getfield 9, 3) := by decide +kernel
theorem dX2_comparison_47 : decode cX2_comparison 47 = .ok (.bipush 61, 2) := by decide +kernel
theorem dX2_comparison_49 : decode cX2_comparison 49 = .ok (.invokevirtual 74, 3) := by decide +kernel
theorem dX2_comparison_52 : decode cX2_comparison 52 = .ok (.aload_n 0, 1) := by decide +kernel
theorem dX2_comparison_53 : decode cX2_comparison 53 = .ok (.invokevirtual 78, 3) := by decide +kernel
theorem dX2_comparison_56 : decode cX2_comparison 56 = .ok (.istore 4, 2) := by decide +kernel
theorem dX2_comparison_58 : decode cX2_comparison 58 = .ok (.iconst 0, 1) := by decide +kernel
theorem dX2_comparison_59 : decode cX2_comparison 59 = .ok (.istore 5, 2) := by decide +kernel
theorem dX2_comparison_61 : decode cX2_comparison 61 = .ok (.iconst 0, 1) := by decide +kernel
theorem dX2_comparison_62 : decode cX2_comparison 62 = .ok (.istore 6, 2) := by decide +kernel
theorem dX2_comparison_64 : decode cX2_comparison 64 = .ok (.iload 6, 2) := by decide +kernel
theorem dX2_comparison_66 : decode cX2_comparison 66 = .ok (.aload_n 0, 1) := by decide +kernel
theorem dX2_comparison_67 : decode cX2_comparison 67 = .ok (.getfield 15, 3) := by decide +kernel
theorem dX2_comparison_70 : decode cX2_comparison 70 = .ok (.getfield 65, 3) := by decide +kernel
theorem dX2_comparison_73 : decode cX2_comparison 73 = .ok (.if_icmp .ge 67, 3) := by decide +kernel
theorem dX2_comparison_76 : decode cX2_comparison 76 = .ok (.aload_n 0, 1) := by decide +kernel
theorem dX2_comparison_77 : decode cX2_comparison 77 = .ok (.iload 6, 2) := by decide +kernel
theorem dX2_comparison_79 : decode cX2_comparison 79 = .ok (.iload_n 1, 1) := by decide +kernel
theorem dX2_comparison_80 : decode cX2_comparison 80 = .ok (.invokevirtual 81, 3) := by decide +kernel
theorem dX2_comparison_83 : decode cX2_comparison 83 = .ok (.aload_n 0, 1) := by decide +kernel
theorem dX2_comparison_84 : decode cX2_comparison 84 = .ok (.iload 6, 2) := by decide +kernel
theorem dX2_comparison_86 : decode cX2_comparison 86 = .ok (.iload 4, 2) := by decide +kernel
theorem dX2_comparison_88 : decode cX2_comparison 88 = .ok (.invokevirtual 81, 3) := by decide +kernel
theorem dX2_comparison_91 : decode cX2_comparison 91 = .ok (.invokestatic 85, 3) := by decide +kernel
theorem dX2_comparison_94 : decode cX2_comparison 94 = .ok (.istore 7, 2) := by decide +kernel
theorem dX2_comparison_96 : decode cX2_comparison 96 = .ok (.iload_n 2, 1) := by decide +kernel
theorem dX2_comparison_97 : decode cX2_comparison 97 = .ok (.ifCond .eq 11, 3) := by decide +kernel
theorem dX2_comparison_100 : decode cX2_comparison 100 = .ok (.iload 7, 2) := by decide +kernel
theorem dX2_comparison_102 : decode cX2_comparison 102 = .ok (.ifCond .ge 32, 3) := by decide +kernel
theorem dX2_comparison_105 : decode cX2_comparison 105 = .ok (.goto 20, 3) := by decide +kernel
theorem dX2_comparison_108 : decode cX2_comparison 108 = .ok (.iload_n 3, 1) := by decide +kernel
theorem dX2_comparison_109 : decode cX2_comparison 109 = .ok (.ifCond .eq 11, 3) := by decide +kernel
theorem dX2_comparison_112 : decode cX2_comparison 112 = .ok (.iload 7, 2) := by decide +kernel
theorem dX2_comparison_114 : decode cX2_comparison 114 = .ok (.ifCond .le 20, 3) := by decide +kernel
theorem dX2_comparison_117 : decode cX2_comparison 117 = .ok (.goto 8, 3) := by decide +kernel
theorem dX2_comparison_120 : decode cX2_comparison 120 = .ok (.iload 7, 2) := by decide +kernel
theorem dX2_comparison_122 : decode cX2_comparison 122 = .ok (.ifCond .ne 12, 3) := by decide +kernel
theorem dX2_comparison_125 : decode cX2_comparison 125 = .ok (.iload 5, 2) := by decide +kernel
theorem dX2_comparison_127 : decode cX2_comparison 127 = .ok (.iconst 1, 1) := by decide +kernel
theorem dX2_comparison_128 : decode cX2_comparison 128 = .ok (.iload 6, 2) := by decide +kernel
theorem dX2_comparison_130 : decode cX2_comparison 130 = .ok (.ishl, 1) := by decide +kernel
theorem dX2_comparison_131 : decode cX2_comparison 131 = .ok (.ior, 1) := by decide +kernel
theorem dX2_comparison_132 : decode cX2_comparison 132 = .ok (.istore 5, 2) := by decide +kernel
theorem dX2_comparison_134 : decode cX2_comparison 134 = .ok (.iinc 6 1, 3) := by decide +kernel
theorem dX2_comparison_137 : decode cX2_comparison 137 = .ok (.goto (-73), 3) := by decide +kernel
theorem dX2_comparison_140 : decode cX2_comparison 140 = .ok (.iload 5, 2) := by decide +kernel
theorem dX2_comparison_142 : decode cX2_comparison 142 = .ok (.ireturn, 1) := by decide +kernel
theorem dX2_operand_0 : decode cX2_operand 0 = .ok (.aload_n 0, 1) := by decide +kernel
theorem dX2_operand_1 : decode cX2_operand 1 = .ok (.getfield 9, 3) := by decide +kernel
theorem dX2_operand_4 : decode cX2_operand 4 = .ok (.getfield 90, 3) := by decide +kernel
theorem dX2_operand_7 : decode cX2_operand 7 = .ok (.istore_n 1, 1) := by decide +kernel
theorem dX2_operand_8 : decode cX2_operand 8 = .ok (.aload_n 0, 1) := by decide +kernel
theorem dX2_operand_9 : decode cX2_operand 9 = .ok (.getfield 9, 3) := by decide +kernel
theorem dX2_operand_12 : decode cX2_operand 12 = .ok (.getfield 93, 3) := by decide +kernel
theorem dX2_operand_15 : decode cX2_operand 15 = .ok (.iconst 2, 1) := by decide +kernel
theorem dX2_operand_16 : decode cX2_operand 16 = .ok (.if_icmp .eq 14, 3) := by decide +kernel
theorem dX2_operand_19 : decode cX2_operand 19 = .ok (.aload_n 0, 1) := by decide +kernel
theorem dX2_operand_20 : decode cX2_operand 20 = .ok (.invokevirtual 96, 3) := by decide +kernel
theorem dX2_operand_23 : decode cX2_operand 23 = .ok (.bipush 100, 2) := by decide +kernel
theorem dX2_operand_25 : decode cX2_operand 25 = .ok (.isub, 1) := by decide +kernel
theorem dX2_operand_26 : decode cX2_operand 26 = .ok (.istore_n 1, 1) := by decide +kernel
theorem dX2_operand_27 : decode cX2_operand 27 = .ok (.goto 17, 3) := by decide +kernel
theorem dX2_operand_30 : decode cX2_operand 30 = .ok (.iload_n 1, 1) := by decide +kernel
theorem dX2_operand_31 : decode cX2_operand 31 = .ok (.ldc 99, 2) := by decide +kernel
theorem dX2_operand_33 : decode cX2_operand 33 = .ok (.if_icmp .le 11, 3) := by decide +kernel
theorem dX2_operand_36 : decode cX2_operand 36 = .ok (.aload_n 0, 1) := by decide +kernel
theorem dX2_operand_37 : decode cX2_operand 37 = .ok (.getfield 9, 3) := by decide +kernel
theorem dX2_operand_40 : decode cX2_operand 40 = .ok (.iconst 2, 1) := by decide +kernel
theorem dX2_operand_41 : decode cX2_operand 41 = .ok (.invokevirtual 61, 3) := by decide +kernel
theorem dX2_operand_44 : decode cX2_operand 44 = .ok (.aload_n 0, 1) := by decide +kernel
theorem dX2_operand_45 : decode cX2_operand 45 = .ok (.getfield 9, 3) := by decide +kernel
theorem dX2_operand_48 : decode cX2_operand 48 = .ok (.invokevirtual 27, 3) := by decide +kernel
theorem dX2_operand_51 : decode cX2_operand 51 = .ok (.iload_n 1, 1) := by decide +kernel
theorem dX2_operand_52 : decode cX2_operand 52 = .ok (.ireturn, 1) := by decide +kernel
theorem dX2_propertyNamed_0 : decode cX2_propertyNamed 0 = .ok (.aload_n 0, 1) := by decide +kernel
theorem dX2_propertyNamed_1 : decode cX2_propertyNamed 1 = .ok (.getfield 9, 3) := by decide +kernel
theorem dX2_propertyNamed_4 : decode cX2_propertyNamed 4 = .ok (.ldc 100, 2) := by decide +kernel
theorem dX2_propertyNamed_6 : decode cX2_propertyNamed 6 = .ok (.invokevirtual 21, 3) := by decide +kernel
theorem dX2_propertyNamed_9 : decode cX2_propertyNamed 9 = .ok (.ifCond .eq 6, 3) := by decide +kernel
theorem dX2_propertyNamed_12 : decode cX2_propertyNamed 12 = .ok (.bipush 11, 2) := by decide +kernel
theorem dX2_propertyNamed_14 : decode cX2_propertyNamed 14 = .ok (.ireturn, 1) := by decide +kernel
theorem dX2_propertyNamed_15 : decode cX2_propertyNamed 15 = .ok (.aload_n 0, 1) := by decide +kernel
theorem dX2_propertyNamed_16 : decode cX2_propertyNamed 16 = .ok (.getfield 9, 3) := by decide +kernel
theorem dX2_propertyNamed_19 : decode cX2_propertyNamed 19 = .ok (.ldc 102, 2) := by decide +kernel
theorem dX2_propertyNamed_21 : decode cX2_propertyNamed 21 = .ok (.invokevirtual 21, 3) := by decide +kernel
theorem dX2_propertyNamed_24 : decode cX2_propertyNamed 24 = .ok (.ifCond .eq 5, 3) := by decide +kernel
theorem dX2_propertyNamed_27 : decode cX2_propertyNamed 27 = .ok (.iconst 0, 1) := by decide +kernel
theorem dX2_propertyNamed_28 : decode cX2_propertyNamed 28 = .ok (.ireturn, 1) := by decide +kernel
theorem dX2_propertyNamed_29 : decode cX2_propertyNamed 29 = .ok (.aload_n 0, 1) := by decide +kernel
theorem dX2_propertyNamed_30 : decode cX2_propertyNamed 30 = .ok (.getfield 9, 3) := by decide +kernel
theorem dX2_propertyNamed_33 : decode cX2_propertyNamed 33 = .ok (.ldc 104, 2) := by decide +kernel
theorem dX2_propertyNamed_35 : decode cX2_propertyNamed 35 = .ok (.invokevirtual 21, 3) := by decide +kernel
theorem dX2_propertyNamed_38 : decode cX2_propertyNamed 38 = .ok (.ifCond .eq 5, 3) := by decide +kernel
theorem dX2_propertyNamed_41 : decode cX2_propertyNamed 41 = .ok (.iconst 1, 1) := by decide +kernel
theorem dX2_propertyNamed_42 : decode cX2_propertyNamed 42 = .ok (.ireturn, 1) := by decide +kernel
theorem dX2_propertyNamed_43 : decode cX2_propertyNamed 43 = .ok (.aload_n 0, 1) := by decide +kernel
theorem dX2_propertyNamed_44 : decode cX2_propertyNamed 44 = .ok (.getfield 9, 3) := by decide +kernel
theorem dX2_propertyNamed_47 : decode cX2_propertyNamed 47 = .ok (.ldc 106, 2) := by decide +kernel
theorem dX2_propertyNamed_49 : decode cX2_propertyNamed 49 = .ok (.invokevirtual 21, 3) := by decide +kernel
theorem dX2_propertyNamed_52 : decode cX2_propertyNamed 52 = .ok (.ifCond .eq 5, 3) := by decide +kernel
theorem dX2_propertyNamed_55 : decode cX2_propertyNamed 55 = .ok (.iconst 2, 1) := by decide +kernel
theorem dX2_propertyNamed_56 : decode cX2_propertyNamed 56 = .ok (.ireturn, 1) := by decide +kernel
theorem dX2_propertyNamed_57 : decode cX2_propertyNamed 57 = .ok (.aload_n 0, 1) := by decide +kernel
theorem dX2_propertyNamed_58 : decode cX2_propertyNamed 58 = .ok (.getfield 9, 3) := by decide +kernel
theorem dX2_propertyNamed_61 : decode cX2_propertyNamed 61 = .ok (.ldc 108, 2) := by decide +kernel
theorem dX2_propertyNamed_63 : decode cX2_propertyNamed 63 = .ok (.invokevirtual 21, 3) := by decide +kernel
theorem dX2_propertyNamed_66 : decode cX2_propertyNamed 66 = .ok (.ifCond .eq 5, 3) := by decide +kernel
theorem dX2_propertyNamed_69 : decode cX2_propertyNamed 69 = .ok (.iconst 3, 1) := by decide +kernel
theorem dX2_propertyNamed_70 : decode cX2_propertyNamed 70 = .ok (.ireturn, 1) := by decide +kernel
theorem dX2_propertyNamed_71 : decode cX2_propertyNamed 71 = .ok (.aload_n 0, 1) := by decide +kernel
theorem dX2_propertyNamed_72 : decode cX2_propertyNamed 72 = .ok (.getfield 9, 3) := by decide +kernel
theorem dX2_propertyNamed_75 : decode cX2_propertyNamed 75 = .ok (.ldc 110, 2) := by decide +kernel
theorem dX2_propertyNamed_77 : decode cX2_propertyNamed 77 = .ok (.invokevirtual 21, 3) := by decide +kernel
theorem dX2_propertyNamed_80 : decode cX2_propertyNamed 80 = .ok (.ifCond .eq 5, 3) := by decide +kernel
theorem dX2_propertyNamed_83 : decode cX2_propertyNamed 83 = .ok (.iconst 4, 1) := by decide +kernel
theorem dX2_propertyNamed_84 : decode cX2_propertyNamed 84 = .ok (.ireturn, 1) := by decide +kernel
theorem dX2_propertyNamed_85 : decode cX2_propertyNamed 85 = .ok (.aload_n 0, 1) := by decide +kernel
theorem dX2_propertyNamed_86 : decode cX2_propertyNamed 86 = .ok (.getfield 9, 3) := by decide +kernel
theorem dX2_propertyNamed_89 : decode cX2_propertyNamed 89 = .ok (.ldc 112, 2) := by decide +kernel
theorem dX2_propertyNamed_91 : decode cX2_propertyNamed 91 = .ok (.invokevirtual 21, 3) := by decide +kernel
theorem dX2_propertyNamed_94 : decode cX2_propertyNamed 94 = .ok (.ifCond .eq 6, 3) := by decide +kernel
theorem dX2_propertyNamed_97 : decode cX2_propertyNamed 97 = .ok (.bipush 6, 2) := by decide +kernel
theorem dX2_propertyNamed_99 : decode cX2_propertyNamed 99 = .ok (.ireturn, 1) := by decide +kernel
theorem dX2_propertyNamed_100 : decode cX2_propertyNamed 100 = .ok (.aload_n 0, 1) := by decide +kernel
theorem dX2_propertyNamed_101 : decode cX2_propertyNamed 101 = .ok (.getfield 9, 3) := by decide +kernel
theorem dX2_propertyNamed_104 : decode cX2_propertyNamed 104 = .ok (.ldc 114, 2) := by decide +kernel
theorem dX2_propertyNamed_106 : decode cX2_propertyNamed 106 = .ok (.invokevirtual 21, 3) := by decide +kernel
theorem dX2_propertyNamed_109 : decode cX2_propertyNamed 109 = .ok (.ifCond .eq 6, 3) := by decide +kernel
theorem dX2_propertyNamed_112 : decode cX2_propertyNamed 112 = .ok (.bipush 7, 2) := by decide +kernel
theorem dX2_propertyNamed_114 : decode cX2_propertyNamed 114 = .ok (.ireturn, 1) := by decide +kernel
theorem dX2_propertyNamed_115 : decode cX2_propertyNamed 115 = .ok (.aload_n 0, 1) := by decide +kernel
theorem dX2_propertyNamed_116 : decode cX2_propertyNamed 116 = .ok (.getfield 9, 3) := by decide +kernel
theorem dX2_propertyNamed_119 : decode cX2_propertyNamed 119 = .ok (.ldc 116, 2) := by decide +kernel
theorem dX2_propertyNamed_121 : decode cX2_propertyNamed 121 = .ok (.invokevirtual 21, 3) := by decide +kernel
theorem dX2_propertyNamed_124 : decode cX2_propertyNamed 124 = .ok (.ifCond .ne 11, 3) := by decide +kernel
theorem dX2_propertyNamed_127 : decode cX2_propertyNamed 127 = .ok (.aload_n 0, 1) := by decide +kernel
theorem dX2_propertyNamed_128 : decode cX2_propertyNamed 128 = .ok (.getfield 9, 3) := by decide +kernel
theorem dX2_propertyNamed_131 : decode cX2_propertyNamed 131 = .ok (.iconst 1, 1) := by decide +kernel
theorem dX2_propertyNamed_132 : decode cX2_propertyNamed 132 = .ok (.invokevirtual 61, 3) := by decide +kernel
theorem dX2_propertyNamed_135 : decode cX2_propertyNamed 135 = .ok (.bipush 12, 2) := by decide +kernel
theorem dX2_propertyNamed_137 : decode cX2_propertyNamed 137 = .ok (.ireturn, 1) := by decide +kernel
theorem dX2_valueFor_0 : decode cX2_valueFor 0 = .ok (.iload_n 2, 1) := by decide +kernel
theorem dX2_valueFor_1 : decode cX2_valueFor 1 = .ok (.ifCond .lt 7, 3) := by decide +kernel
theorem dX2_valueFor_4 : decode cX2_valueFor 4 = .ok (.iload_n 2, 1) := by decide +kernel
theorem dX2_valueFor_5 : decode cX2_valueFor 5 = .ok (.goto 15, 3) := by decide +kernel
theorem dX2_valueFor_8 : decode cX2_valueFor 8 = .ok (.aload_n 0, 1) := by decide +kernel
theorem dX2_valueFor_9 : decode cX2_valueFor 9 = .ok (.getfield 15, 3) := by decide +kernel
theorem dX2_valueFor_12 : decode cX2_valueFor 12 = .ok (.iload_n 1, 1) := by decide +kernel
theorem dX2_valueFor_13 : decode cX2_valueFor 13 = .ok (.iload_n 2, 1) := by decide +kernel
theorem dX2_valueFor_14 : decode cX2_valueFor 14 = .ok (.bipush 100, 2) := by decide +kernel
theorem dX2_valueFor_16 : decode cX2_valueFor 16 = .ok (.iadd, 1) := by decide +kernel
theorem dX2_valueFor_17 : decode cX2_valueFor 17 = .ok (.invokevirtual 118, 3) := by decide +kernel
theorem dX2_valueFor_20 : decode cX2_valueFor 20 = .ok (.ireturn, 1) := by decide +kernel
theorem dX3_init_0 : decode cX3_init 0 = .ok (.aload_n 0, 1) := by decide +kernel
theorem dX3_init_1 : decode cX3_init 1 = .ok (.invokespecial 3, 3) := by decide +kernel
theorem dX3_init_4 : decode cX3_init 4 = .ok (.aload_n 0, 1) := by decide +kernel
theorem dX3_init_5 : decode cX3_init 5 = .ok (.bipush 8, 2) := by decide +kernel
theorem dX3_init_7 : decode cX3_init 7 = .ok (.newarray .int, 2) := by decide +kernel
theorem dX3_init_9 : decode cX3_init 9 = .ok (.putfield 9, 3) := by decide +kernel
theorem dX3_init_12 : decode cX3_init 12 = .ok (.aload_n 0, 1) := by decide +kernel
theorem dX3_init_13 : decode cX3_init 13 = .ok (.new 15, 3) := by decide +kernel
theorem dX3_init_16 : decode cX3_init 16 = .ok (.dup, 1) := by decide +kernel
theorem dX3_init_17 : decode cX3_init 17 = .ok (.invokespecial 17, 3) := by decide +kernel
theorem dX3_init_20 : decode cX3_init 20 = .ok (.putfield 18, 3) := by decide +kernel
theorem dX3_init_23 : decode cX3_init 23 = .ok (.aload_n 0, 1) := by decide +kernel
theorem dX3_init_24 : decode cX3_init 24 = .ok (.new 15, 3) := by decide +kernel
theorem dX3_init_27 : decode cX3_init 27 = .ok (.dup, 1) := by decide +kernel
theorem dX3_init_28 : decode cX3_init 28 = .ok (.invokespecial 17, 3) := by decide +kernel
theorem dX3_init_31 : decode cX3_init 31 = .ok (.putfield 22, 3) := by decide +kernel
theorem dX3_init_34 : decode cX3_init 34 = .ok (.aload_n 0, 1) := by decide +kernel
theorem dX3_init_35 : decode cX3_init 35 = .ok (.bipush 12, 2) := by decide +kernel
theorem dX3_init_37 : decode cX3_init 37 = .ok (.anewarray 25, 3) := by decide +kernel
theorem dX3_init_40 : decode cX3_init 40 = .ok (.putfield 27, 3) := by decide +kernel
theorem dX3_init_43 : decode cX3_init 43 = .ok (.aload_n 0, 1) := by decide +kernel
theorem dX3_init_44 : decode cX3_init 44 = .ok (.new 25, 3) := by decide +kernel
theorem dX3_init_47 : decode cX3_init 47 = .ok (.dup, 1) := by decide +kernel
theorem dX3_init_48 : decode cX3_init 48 = .ok (.invokespecial 31, 3) := by decide +kernel
theorem dX3_init_51 : decode cX3_init 51 = .ok (.putfield 32, 3) := by decide +kernel
theorem dX3_init_54 : decode cX3_init 54 = .ok (.iconst 0, 1) := by decide +kernel
theorem dX3_init_55 : decode cX3_init 55 = .ok (.istore_n 1, 1) := by decide +kernel
theorem dX3_init_56 : decode cX3_init 56 = .ok (.iload_n 1, 1) := by decide +kernel
theorem dX3_init_57 : decode cX3_init 57 = .ok (.aload_n 0, 1) := by decide +kernel
theorem dX3_init_58 : decode cX3_init 58 = .ok (.getfield 27, 3) := by decide +kernel
theorem dX3_init_61 : decode cX3_init 61 = .ok (.arraylength, 1) := by decide +kernel
theorem dX3_init_62 : decode cX3_init 62 = .ok (.if_icmp .ge 22, 3) := by decide +kernel
theorem dX3_init_65 : decode cX3_init 65 = .ok (.aload_n 0, 1) := by decide +kernel
theorem dX3_init_66 : decode cX3_init 66 = .ok (.getfield 27, 3) := by decide +kernel
theorem dX3_init_69 : decode cX3_init 69 = .ok (.iload_n 1, 1) := by decide +kernel
theorem dX3_init_70 : decode cX3_init 70 = .ok (.new 25, 3) := by decide +kernel
theorem dX3_init_73 : decode cX3_init 73 = .ok (.dup, 1) := by decide +kernel
theorem dX3_init_74 : decode cX3_init 74 = .ok (.invokespecial 31, 3) := by decide +kernel
theorem dX3_init_77 : decode cX3_init 77 = .ok (.aastore, 1) := by decide +kernel
theorem dX3_init_78 : decode cX3_init 78 = .ok (.iinc 1 1, 3) := by decide +kernel
theorem dX3_init_81 : decode cX3_init 81 = .ok (.goto (-25), 3) := by decide +kernel
theorem dX3_init_84 : decode cX3_init 84 = .ok (.return_, 1) := by decide +kernel
theorem dX3_clear_0 : decode cX3_clear 0 = .ok (.aload_n 0, 1) := by decide +kernel
theorem dX3_clear_1 : decode cX3_clear 1 = .ok (.iload_n 1, 1) := by decide +kernel
theorem dX3_clear_2 : decode cX3_clear 2 = .ok (.putfield 36, 3) := by decide +kernel
theorem dX3_clear_5 : decode cX3_clear 5 = .ok (.aload_n 0, 1) := by decide +kernel
theorem dX3_clear_6 : decode cX3_clear 6 = .ok (.iload_n 2, 1) := by decide +kernel
theorem dX3_clear_7 : decode cX3_clear 7 = .ok (.putfield 40, 3) := by decide +kernel
theorem dX3_clear_10 : decode cX3_clear 10 = .ok (.aload_n 0, 1) := by decide +kernel
theorem dX3_clear_11 : decode cX3_clear 11 = .ok (.iconst 0, 1) := by decide +kernel
theorem dX3_clear_12 : decode cX3_clear 12 = .ok (.putfield 43, 3) := by decide +kernel
theorem dX3_clear_15 : decode cX3_clear 15 = .ok (.iconst 0, 1) := by decide +kernel
theorem dX3_clear_16 : decode cX3_clear 16 = .ok (.istore_n 3, 1) := by decide +kernel
theorem dX3_clear_17 : decode cX3_clear 17 = .ok (.iload_n 3, 1) := by decide +kernel
theorem dX3_clear_18 : decode cX3_clear 18 = .ok (.aload_n 0, 1) := by decide +kernel
theorem dX3_clear_19 : decode cX3_clear 19 = .ok (.getfield 9, 3) := by decide +kernel
theorem dX3_clear_22 : decode cX3_clear 22 = .ok (.arraylength, 1) := by decide +kernel
theorem dX3_clear_23 : decode cX3_clear 23 = .ok (.if_icmp .ge 17, 3) := by decide +kernel
theorem dX3_clear_26 : decode cX3_clear 26 = .ok (.aload_n 0, 1) := by decide +kernel
theorem dX3_clear_27 : decode cX3_clear 27 = .ok (.getfield 9, 3) := by decide +kernel
theorem dX3_clear_30 : decode cX3_clear 30 = .ok (.iload_n 3, 1) := by decide +kernel
theorem dX3_clear_31 : decode cX3_clear 31 = .ok (.ldc 46, 2) := by decide +kernel
theorem dX3_clear_33 : decode cX3_clear 33 = .ok (.iastore, 1) := by decide +kernel
theorem dX3_clear_34 : decode cX3_clear 34 = .ok (.iinc 3 1, 3) := by decide +kernel
theorem dX3_clear_37 : decode cX3_clear 37 = .ok (.goto (-20), 3) := by decide +kernel
theorem dX3_clear_40 : decode cX3_clear 40 = .ok (.aload_n 0, 1) := by decide +kernel
theorem dX3_clear_41 : decode cX3_clear 41 = .ok (.getfield 18, 3) := by decide +kernel
theorem dX3_clear_44 : decode cX3_clear 44 = .ok (.invokevirtual 47, 3) := by decide +kernel
theorem dX3_clear_47 : decode cX3_clear 47 = .ok (.aload_n 0, 1) := by decide +kernel
theorem dX3_clear_48 : decode cX3_clear 48 = .ok (.getfield 22, 3) := by decide +kernel
theorem dX3_clear_51 : decode cX3_clear 51 = .ok (.invokevirtual 47, 3) := by decide +kernel
theorem dX3_clear_54 : decode cX3_clear 54 = .ok (.return_, 1) := by decide +kernel
theorem dX3_copyFrom_0 : decode cX3_copyFrom 0 = .ok (.aload_n 0, 1) := by decide +kernel
theorem dX3_copyFrom_1 : decode cX3_copyFrom 1 = .ok (.aload_n 1, 1) := by decide +kernel
theorem dX3_copyFrom_2 : decode cX3_copyFrom 2 = .ok (.getfield 36, 3) := by decide +kernel
theorem dX3_copyFrom_5 : decode cX3_copyFrom 5 = .ok (.putfield 36, 3) := by decide +kernel
theorem dX3_copyFrom_8 : decode cX3_copyFrom 8 = .ok (.aload_n 0, 1) := by decide +kernel
theorem dX3_copyFrom_9 : decode cX3_copyFrom 9 = .ok (.aload_n 1, 1) := by decide +kernel
theorem dX3_copyFrom_10 : decode cX3_copyFrom 10 = .ok (.getfield 40, 3) := by decide +kernel
theorem dX3_copyFrom_13 : decode cX3_copyFrom 13 = .ok (.putfield 40, 3) := by decide +kernel
theorem dX3_copyFrom_16 : decode cX3_copyFrom 16 = .ok (.aload_n 0, 1) := by decide +kernel
theorem dX3_copyFrom_17 : decode cX3_copyFrom 17 = .ok (.aload_n 1, 1) := by decide +kernel
theorem dX3_copyFrom_18 : decode cX3_copyFrom 18 = .ok (.getfield 43, 3) := by decide +kernel
theorem dX3_copyFrom_21 : decode cX3_copyFrom 21 = .ok (.putfield 43, 3) := by decide +kernel
theorem dX3_copyFrom_24 : decode cX3_copyFrom 24 = .ok (.iconst 0, 1) := by decide +kernel
theorem dX3_copyFrom_25 : decode cX3_copyFrom 25 = .ok (.istore_n 2, 1) := by decide +kernel
theorem dX3_copyFrom_26 : decode cX3_copyFrom 26 = .ok (.iload_n 2, 1) := by decide +kernel
theorem dX3_copyFrom_27 : decode cX3_copyFrom 27 = .ok (.aload_n 0, 1) := by decide +kernel
theorem dX3_copyFrom_28 : decode cX3_copyFrom 28 = .ok (.getfield 9, 3) := by decide +kernel
theorem dX3_copyFrom_31 : decode cX3_copyFrom 31 = .ok (.arraylength, 1) := by decide +kernel
theorem dX3_copyFrom_32 : decode cX3_copyFrom 32 = .ok (.if_icmp .ge 20, 3) := by decide +kernel
theorem dX3_copyFrom_35 : decode cX3_copyFrom 35 = .ok (.aload_n 0, 1) := by decide +kernel
theorem dX3_copyFrom_36 : decode cX3_copyFrom 36 = .ok (.getfield 9, 3) := by decide +kernel
theorem dX3_copyFrom_39 : decode cX3_copyFrom 39 = .ok (.iload_n 2, 1) := by decide +kernel
theorem dX3_copyFrom_40 : decode cX3_copyFrom 40 = .ok (.aload_n 1, 1) := by decide +kernel
theorem dX3_copyFrom_41 : decode cX3_copyFrom 41 = .ok (.iload_n 2, 1) := by decide +kernel
theorem dX3_copyFrom_42 : decode cX3_copyFrom 42 = .ok (.invokevirtual 50, 3) := by decide +kernel
theorem dX3_copyFrom_45 : decode cX3_copyFrom 45 = .ok (.iastore, 1) := by decide +kernel
theorem dX3_copyFrom_46 : decode cX3_copyFrom 46 = .ok (.iinc 2 1, 3) := by decide +kernel
theorem dX3_copyFrom_49 : decode cX3_copyFrom 49 = .ok (.goto (-23), 3) := by decide +kernel
theorem dX3_copyFrom_52 : decode cX3_copyFrom 52 = .ok (.aload_n 0, 1) := by decide +kernel
theorem dX3_copyFrom_53 : decode cX3_copyFrom 53 = .ok (.getfield 18, 3) := by decide +kernel
theorem dX3_copyFrom_56 : decode cX3_copyFrom 56 = .ok (.aload_n 1, 1) := by decide +kernel
theorem dX3_copyFrom_57 : decode cX3_copyFrom 57 = .ok (.getfield 18, 3) := by decide +kernel
theorem dX3_copyFrom_60 : decode cX3_copyFrom 60 = .ok (.invokevirtual 54, 3) := by decide +kernel
theorem dX3_copyFrom_63 : decode cX3_copyFrom 63 = .ok (.aload_n 0, 1) := by decide +kernel
theorem dX3_copyFrom_64 : decode cX3_copyFrom 64 = .ok (.getfield 22, 3) := by decide +kernel
theorem dX3_copyFrom_67 : decode cX3_copyFrom 67 = .ok (.aload_n 1, 1) := by decide +kernel
theorem dX3_copyFrom_68 : decode cX3_copyFrom 68 = .ok (.getfield 22, 3) := by decide +kernel
theorem dX3_copyFrom_71 : decode cX3_copyFrom 71 = .ok (.invokevirtual 54, 3) := by decide +kernel
theorem dX3_copyFrom_74 : decode cX3_copyFrom 74 = .ok (.iconst 0, 1) := by decide +kernel
theorem dX3_copyFrom_75 : decode cX3_copyFrom 75 = .ok (.istore_n 2, 1) := by decide +kernel
theorem dX3_copyFrom_76 : decode cX3_copyFrom 76 = .ok (.iload_n 2, 1) := by decide +kernel
theorem dX3_copyFrom_77 : decode cX3_copyFrom 77 = .ok (.aload_n 0, 1) := by decide +kernel
theorem dX3_copyFrom_78 : decode cX3_copyFrom 78 = .ok (.getfield 43, 3) := by decide +kernel
theorem dX3_copyFrom_81 : decode cX3_copyFrom 81 = .ok (.if_icmp .ge 22, 3) := by decide +kernel
theorem dX3_copyFrom_84 : decode cX3_copyFrom 84 = .ok (.aload_n 0, 1) := by decide +kernel
theorem dX3_copyFrom_85 : decode cX3_copyFrom 85 = .ok (.iload_n 2, 1) := by decide +kernel
theorem dX3_copyFrom_86 : decode cX3_copyFrom 86 = .ok (.invokevirtual 58, 3) := by decide +kernel
theorem dX3_copyFrom_89 : decode cX3_copyFrom 89 = .ok (.aload_n 1, 1) := by decide +kernel
theorem dX3_copyFrom_90 : decode cX3_copyFrom 90 = .ok (.iload_n 2, 1) := by decide +kernel
theorem dX3_copyFrom_91 : decode cX3_copyFrom 91 = .ok (.invokevirtual 58, 3) := by decide +kernel
theorem dX3_copyFrom_94 : decode cX3_copyFrom 94 = .ok (.invokevirtual 62, 3) := by decide +kernel
theorem dX3_copyFrom_97 : decode cX3_copyFrom 97 = .ok (.iinc 2 1, 3) := by decide +kernel
theorem dX3_copyFrom_100 : decode cX3_copyFrom 100 = .ok (.goto (-24), 3) := by decide +kernel
theorem dX3_copyFrom_103 : decode cX3_copyFrom 103 = .ok (.return_, 1) := by decide +kernel
theorem dX3_legAt_0 : decode cX3_legAt 0 = .ok (.iload_n 1, 1) := by decide +kernel
theorem dX3_legAt_1 : decode cX3_legAt 1 = .ok (.ifCond .ne 10, 3) := by decide +kernel
theorem dX3_legAt_4 : decode cX3_legAt 4 = .ok (.aload_n 0, 1) := by decide +kernel
theorem dX3_legAt_5 : decode cX3_legAt 5 = .ok (.getfield 18, 3) := by decide +kernel
theorem dX3_legAt_8 : decode cX3_legAt 8 = .ok (.goto 7, 3) := by decide +kernel
theorem dX3_legAt_11 : decode cX3_legAt 11 = .ok (.aload_n 0, 1) := by decide +kernel
theorem dX3_legAt_12 : decode cX3_legAt 12 = .ok (.getfield 22, 3) := by decide +kernel
theorem dX3_legAt_15 : decode cX3_legAt 15 = .ok (.areturn, 1) := by decide +kernel
theorem dX3_tubeAt_0 : decode cX3_tubeAt 0 = .ok (.iload_n 1, 1) := by decide +kernel
theorem dX3_tubeAt_1 : decode cX3_tubeAt 1 = .ok (.ifCond .lt 21, 3) := by decide +kernel
theorem dX3_tubeAt_4 : decode cX3_tubeAt 4 = .ok (.iload_n 1, 1) := by decide +kernel
theorem dX3_tubeAt_5 : decode cX3_tubeAt 5 = .ok (.aload_n 0, 1) := by decide +kernel
theorem dX3_tubeAt_6 : decode cX3_tubeAt 6 = .ok (.getfield 27, 3) := by decide +kernel
theorem dX3_tubeAt_9 : decode cX3_tubeAt 9 = .ok (.arraylength, 1) := by decide +kernel
theorem dX3_tubeAt_10 : decode cX3_tubeAt 10 = .ok (.if_icmp .ge 12, 3) := by decide +kernel
theorem dX3_tubeAt_13 : decode cX3_tubeAt 13 = .ok (.aload_n 0, 1) := by decide +kernel
theorem dX3_tubeAt_14 : decode cX3_tubeAt 14 = .ok (.getfield 27, 3) := by decide +kernel
theorem dX3_tubeAt_17 : decode cX3_tubeAt 17 = .ok (.iload_n 1, 1) := by decide +kernel
theorem dX3_tubeAt_18 : decode cX3_tubeAt 18 = .ok (.aaload, 1) := by decide +kernel
theorem dX3_tubeAt_19 : decode cX3_tubeAt 19 = .ok (.goto 7, 3) := by decide +kernel
theorem dX3_tubeAt_22 : decode cX3_tubeAt 22 = .ok (.aload_n 0, 1) := by decide +kernel
theorem dX3_tubeAt_23 : decode cX3_tubeAt 23 = .ok (.getfield 32, 3) := by decide +kernel
theorem dX3_tubeAt_26 : decode cX3_tubeAt 26 = .ok (.areturn, 1) := by decide +kernel
theorem dX3_pressureAt_0 : decode cX3_pressureAt 0 = .ok (.iload_n 1, 1) := by decide +kernel
theorem dX3_pressureAt_1 : decode cX3_pressureAt 1 = .ok (.ifCond .lt 21, 3) := by decide +kernel
theorem dX3_pressureAt_4 : decode cX3_pressureAt 4 = .ok (.iload_n 1, 1) := by decide +kernel
theorem dX3_pressureAt_5 : decode cX3_pressureAt 5 = .ok (.aload_n 0, 1) := by decide +kernel
theorem dX3_pressureAt_6 : decode cX3_pressureAt 6 = .ok (.getfield 9, 3) := by decide +kernel
theorem dX3_pressureAt_9 : decode cX3_pressureAt 9 = .ok (.arraylength, 1) := by decide +kernel
theorem dX3_pressureAt_10 : decode cX3_pressureAt 10 = .ok (.if_icmp .ge 12, 3) := by decide +kernel
theorem dX3_pressureAt_13 : decode cX3_pressureAt 13 = .ok (.aload_n 0, 1) := by decide +kernel
theorem dX3_pressureAt_14 : decode cX3_pressureAt 14 = .ok (.getfield 9, 3) := by decide +kernel
theorem dX3_pressureAt_17 : decode cX3_pressureAt 17 = .ok (.iload_n 1, 1) := by decide +kernel
theorem dX3_pressureAt_18 : decode cX3_pressureAt 18 = .ok (.iaload, 1) := by decide +kernel
theorem dX3_pressureAt_19 : decode cX3_pressureAt 19 = .ok (.goto 4, 3) := by decide +kernel
theorem dX3_pressureAt_22 : decode cX3_pressureAt 22 = .ok (.iconst 0, 1) := by decide +kernel
theorem dX3_pressureAt_23 : decode cX3_pressureAt 23 = .ok (.ireturn, 1) := by decide +kernel
theorem dX3_press_0 : decode cX3_press 0 = .ok (.iload_n 1, 1) := by decide +kernel
theorem dX3_press_1 : decode cX3_press 1 = .ok (.ifCond .lt 19, 3) := by decide +kernel
theorem dX3_press_4 : decode cX3_press 4 = .ok (.iload_n 1, 1) := by decide +kernel
theorem dX3_press_5 : decode cX3_press 5 = .ok (.aload_n 0, 1) := by decide +kernel
theorem dX3_press_6 : decode cX3_press 6 = .ok (.getfield 9, 3) := by decide +kernel
theorem dX3_press_9 : decode cX3_press 9 = .ok (.arraylength, 1) := by decide +kernel
theorem dX3_press_10 : decode cX3_press 10 = .ok (.if_icmp .ge 10, 3) := by decide +kernel
theorem dX3_press_13 : decode cX3_press 13 = .ok (.aload_n 0, 1) := by decide +kernel
theorem dX3_press_14 : decode cX3_press 14 = .ok (.getfield 9, 3) := by decide +kernel
theorem dX3_press_17 : decode cX3_press 17 = .ok (.iload_n 1, 1) := by decide +kernel
theorem dX3_press_18 : decode cX3_press 18 = .ok (.iload_n 2, 1) := by decide +kernel
theorem dX3_press_19 : decode cX3_press 19 = .ok (.iastore, 1) := by decide +kernel
theorem dX3_press_20 : decode cX3_press 20 = .ok (.return_, 1) := by decide +kernel
theorem dX3_append_0 : decode cX3_append 0 = .ok (.aload_n 0, 1) := by decide +kernel
theorem dX3_append_1 : decode cX3_append 1 = .ok (.getfield 43, 3) := by decide +kernel
theorem dX3_append_4 : decode cX3_append 4 = .ok (.bipush 12, 2) := by decide +kernel
theorem dX3_append_6 : decode cX3_append 6 = .ok (.if_icmp .lt 8, 3) := by decide +kernel
theorem dX3_append_9 : decode cX3_append 9 = .ok (.aload_n 0, 1) := by decide +kernel
theorem dX3_append_10 : decode cX3_append 10 = .ok (.getfield 32, 3) := by decide +kernel
theorem dX3_append_13 : decode cX3_append 13 = .ok (.areturn, 1) := by decide +kernel
theorem dX3_append_14 : decode cX3_append 14 = .ok (.aload_n 0, 1) := by decide +kernel
theorem dX3_append_15 : decode cX3_append 15 = .ok (.dup, 1) := by decide +kernel
theorem dX3_append_16 : decode cX3_append 16 = .ok (.getfield 43, 3) := by decide +kernel
theorem dX3_append_19 : decode cX3_append 19 = .ok (.iconst 1, 1) := by decide +kernel
theorem dX3_append_20 : decode cX3_append 20 = .ok (.iadd, 1) := by decide +kernel
theorem dX3_append_21 : decode cX3_append 21 = .ok (.putfield 43, 3) := by decide +kernel
theorem dX3_append_24 : decode cX3_append 24 = .ok (.aload_n 0, 1) := by decide +kernel
theorem dX3_append_25 : decode cX3_append 25 = .ok (.aload_n 0, 1) := by decide +kernel
theorem dX3_append_26 : decode cX3_append 26 = .ok (.getfield 43, 3) := by decide +kernel
theorem dX3_append_29 : decode cX3_append 29 = .ok (.iconst 1, 1) := by decide +kernel
theorem dX3_append_30 : decode cX3_append 30 = .ok (.isub, 1) := by decide +kernel
theorem dX3_append_31 : decode cX3_append 31 = .ok (.invokevirtual 58, 3) := by decide +kernel
theorem dX3_append_34 : decode cX3_append 34 = .ok (.areturn, 1) := by decide +kernel
theorem dX3_remove_0 : decode cX3_remove 0 = .ok (.iload_n 1, 1) := by decide +kernel
theorem dX3_remove_1 : decode cX3_remove 1 = .ok (.istore_n 2, 1) := by decide +kernel
theorem dX3_remove_2 : decode cX3_remove 2 = .ok (.iload_n 2, 1) := by decide +kernel
theorem dX3_remove_3 : decode cX3_remove 3 = .ok (.aload_n 0, 1) := by decide +kernel
theorem dX3_remove_4 : decode cX3_remove 4 = .ok (.getfield 43, 3) := by decide +kernel
theorem dX3_remove_7 : decode cX3_remove 7 = .ok (.iconst 1, 1) := by decide +kernel
theorem dX3_remove_8 : decode cX3_remove 8 = .ok (.isub, 1) := by decide +kernel
theorem dX3_remove_9 : decode cX3_remove 9 = .ok (.if_icmp .ge 24, 3) := by decide +kernel
theorem dX3_remove_12 : decode cX3_remove 12 = .ok (.aload_n 0, 1) := by decide +kernel
theorem dX3_remove_13 : decode cX3_remove 13 = .ok (.iload_n 2, 1) := by decide +kernel
theorem dX3_remove_14 : decode cX3_remove 14 = .ok (.invokevirtual 58, 3) := by decide +kernel
theorem dX3_remove_17 : decode cX3_remove 17 = .ok (.aload_n 0, 1) := by decide +kernel
theorem dX3_remove_18 : decode cX3_remove 18 = .ok (.iload_n 2, 1) := by decide +kernel
theorem dX3_remove_19 : decode cX3_remove 19 = .ok (.iconst 1, 1) := by decide +kernel
theorem dX3_remove_20 : decode cX3_remove 20 = .ok (.iadd, 1) := by decide +kernel
theorem dX3_remove_21 : decode cX3_remove 21 = .ok (.invokevirtual 58, 3) := by decide +kernel
theorem dX3_remove_24 : decode cX3_remove 24 = .ok (.invokevirtual 62, 3) := by decide +kernel
theorem dX3_remove_27 : decode cX3_remove 27 = .ok (.iinc 2 1, 3) := by decide +kernel
theorem dX3_remove_30 : decode cX3_remove 30 = .ok (.goto (-28), 3) := by decide +kernel
theorem dX3_remove_33 : decode cX3_remove 33 = .ok (.aload_n 0, 1) := by decide +kernel
theorem dX3_remove_34 : decode cX3_remove 34 = .ok (.dup, 1) := by decide +kernel
theorem dX3_remove_35 : decode cX3_remove 35 = .ok (.getfield 43, 3) := by decide +kernel
theorem dX3_remove_38 : decode cX3_remove 38 = .ok (.iconst 1, 1) := by decide +kernel
theorem dX3_remove_39 : decode cX3_remove 39 = .ok (.isub, 1) := by decide +kernel
theorem dX3_remove_40 : decode cX3_remove 40 = .ok (.putfield 43, 3) := by decide +kernel
theorem dX3_remove_43 : decode cX3_remove 43 = .ok (.return_, 1) := by decide +kernel
theorem dX3_countInState_0 : decode cX3_countInState 0 = .ok (.iconst 0, 1) := by decide +kernel
theorem dX3_countInState_1 : decode cX3_countInState 1 = .ok (.istore_n 2, 1) := by decide +kernel
theorem dX3_countInState_2 : decode cX3_countInState 2 = .ok (.iconst 0, 1) := by decide +kernel
theorem dX3_countInState_3 : decode cX3_countInState 3 = .ok (.istore_n 3, 1) := by decide +kernel
theorem dX3_countInState_4 : decode cX3_countInState 4 = .ok (.iload_n 3, 1) := by decide +kernel
theorem dX3_countInState_5 : decode cX3_countInState 5 = .ok (.aload_n 0, 1) := by decide +kernel
theorem dX3_countInState_6 : decode cX3_countInState 6 = .ok (.getfield 43, 3) := by decide +kernel
theorem dX3_countInState_9 : decode cX3_countInState 9 = .ok (.if_icmp .ge 29, 3) := by decide +kernel
theorem dX3_countInState_12 : decode cX3_countInState 12 = .ok (.iload_n 2, 1) := by decide +kernel
theorem dX3_countInState_13 : decode cX3_countInState 13 = .ok (.aload_n 0, 1) := by decide +kernel
theorem dX3_countInState_14 : decode cX3_countInState 14 = .ok (.iload_n 3, 1) := by decide +kernel
theorem dX3_countInState_15 : decode cX3_countInState 15 = .ok (.invokevirtual 58, 3) := by decide +kernel
theorem dX3_countInState_18 : decode cX3_countInState 18 = .ok (.getfield 65, 3) := by decide +kernel
theorem dX3_countInState_21 : decode cX3_countInState 21 = .ok (.iload_n 1, 1) := by decide +kernel
theorem dX3_countInState_22 : decode cX3_countInState 22 = .ok (.if_icmp .ne 7, 3) := by decide +kernel
theorem dX3_countInState_25 : decode cX3_countInState 25 = .ok (.iconst 1, 1) := by decide +kernel
theorem dX3_countInState_26 : decode cX3_countInState 26 = .ok (.goto 4, 3) := by decide +kernel
theorem dX3_countInState_29 : decode cX3_countInState 29 = .ok (.iconst 0, 1) := by decide +kernel
theorem dX3_countInState_30 : decode cX3_countInState 30 = .ok (.iadd, 1) := by decide +kernel
theorem dX3_countInState_31 : decode cX3_countInState 31 = .ok (.istore_n 2, 1) := by decide +kernel
theorem dX3_countInState_32 : decode cX3_countInState 32 = .ok (.iinc 3 1, 3) := by decide +kernel
theorem dX3_countInState_35 : decode cX3_countInState 35 = .ok (.goto (-31), 3) := by decide +kernel
theorem dX3_countInState_38 : decode cX3_countInState 38 = .ok (.iload_n 2, 1) := by decide +kernel
theorem dX3_countInState_39 : decode cX3_countInState 39 = .ok (.ireturn, 1) := by decide +kernel
theorem dX3_countInLeg_0 : decode cX3_countInLeg 0 = .ok (.iconst 0, 1) := by decide +kernel
theorem dX3_countInLeg_1 : decode cX3_countInLeg 1 = .ok (.istore_n 2, 1) := by decide +kernel
theorem dX3_countInLeg_2 : decode cX3_countInLeg 2 = .ok (.iconst 0, 1) := by decide +kernel
theorem dX3_countInLeg_3 : decode cX3_countInLeg 3 = .ok (.istore_n 3, 1) := by decide +kernel
theorem dX3_countInLeg_4 : decode cX3_countInLeg 4 = .ok (.iload_n 3, 1) := by decide +kernel
theorem dX3_countInLeg_5 : decode cX3_countInLeg 5 = .ok (.aload_n 0, 1) := by decide +kernel
theorem dX3_countInLeg_6 : decode cX3_countInLeg 6 = .ok (.getfield 43, 3) := by decide +kernel
theorem dX3_countInLeg_9 : decode cX3_countInLeg 9 = .ok (.if_icmp .ge 29, 3) := by decide +kernel
theorem dX3_countInLeg_12 : decode cX3_countInLeg 12 = .ok (.iload_n 2, 1) := by decide +kernel
theorem dX3_countInLeg_13 : decode cX3_countInLeg 13 = .ok (.aload_n 0, 1) := by decide +kernel
theorem dX3_countInLeg_14 : decode cX3_countInLeg 14 = .ok (.iload_n 3, 1) := by decide +kernel
theorem dX3_countInLeg_15 : decode cX3_countInLeg 15 = .ok (.invokevirtual 58, 3) := by decide +kernel
theorem dX3_countInLeg_18 : decode cX3_countInLeg 18 = .ok (.getfield 68, 3) := by decide +kernel
theorem dX3_countInLeg_21 : decode cX3_countInLeg 21 = .ok (.iload_n 1, 1) := by decide +kernel
theorem dX3_countInLeg_22 : decode cX3_countInLeg 22 = .ok (.if_icmp .ne 7, 3) := by decide +kernel
theorem dX3_countInLeg_25 : decode cX3_countInLeg 25 = .ok (.iconst 1, 1) := by decide +kernel
theorem dX3_countInLeg_26 : decode cX3_countInLeg 26 = .ok (.goto 4, 3) := by decide +kernel
theorem dX3_countInLeg_29 : decode cX3_countInLeg 29 = .ok (.iconst 0, 1) := by decide +kernel
theorem dX3_countInLeg_30 : decode cX3_countInLeg 30 = .ok (.iadd, 1) := by decide +kernel
theorem dX3_countInLeg_31 : decode cX3_countInLeg 31 = .ok (.istore_n 2, 1) := by decide +kernel
theorem dX3_countInLeg_32 : decode cX3_countInLeg 32 = .ok (.iinc 3 1, 3) := by decide +kernel
theorem dX3_countInLeg_35 : decode cX3_countInLeg 35 = .ok (.goto (-31), 3) := by decide +kernel
theorem dX3_countInLeg_38 : decode cX3_countInLeg 38 = .ok (.iload_n 2, 1) := by decide +kernel
theorem dX3_countInLeg_39 : decode cX3_countInLeg 39 = .ok (.ireturn, 1) := by decide +kernel
theorem dX3_numberOf_0 : decode cX3_numberOf 0 = .ok (.aload_n 0, 1) := by decide +kernel
theorem dX3_numberOf_1 : decode cX3_numberOf 1 = .ok (.iload_n 1, 1) := by decide +kernel
theorem dX3_numberOf_2 : decode cX3_numberOf 2 = .ok (.invokevirtual 58, 3) := by decide +kernel
theorem dX3_numberOf_5 : decode cX3_numberOf 5 = .ok (.astore_n 3, 1) := by decide +kernel
theorem dX3_numberOf_6 : decode cX3_numberOf 6 = .ok (.iload_n 2, 1) := by decide +kernel
theorem dX3_numberOf_7 : decode cX3_numberOf 7 = .ok (.tableswitch 129 0 12 #[65, 70, 75, 80, 85, 90, 95, 100, 105, 110, 115, 129, 120], 65) := by decide +kernel
theorem dX3_numberOf_72 : decode cX3_numberOf 72 = .ok (.aload_n 3, 1) := by decide +kernel
theorem dX3_numberOf_73 : decode cX3_numberOf 73 = .ok (.getfield 68, 3) := by decide +kernel
theorem dX3_numberOf_76 : decode cX3_numberOf 76 = .ok (.ireturn, 1) := by decide +kernel
theorem dX3_numberOf_77 : decode cX3_numberOf 77 = .ok (.aload_n 3, 1) := by decide +kernel
theorem dX3_numberOf_78 : decode cX3_numberOf 78 = .ok (.getfield 71, 3) := by decide +kernel
theorem dX3_numberOf_81 : decode cX3_numberOf 81 = .ok (.ireturn, 1) := by decide +kernel
theorem dX3_numberOf_82 : decode cX3_numberOf 82 = .ok (.aload_n 3, 1) := by decide +kernel
theorem dX3_numberOf_83 : decode cX3_numberOf 83 = .ok (.getfield 74, 3) := by decide +kernel
theorem dX3_numberOf_86 : decode cX3_numberOf 86 = .ok (.ireturn, 1) := by decide +kernel
theorem dX3_numberOf_87 : decode cX3_numberOf 87 = .ok (.aload_n 3, 1) := by decide +kernel
theorem dX3_numberOf_88 : decode cX3_numberOf 88 = .ok (.getfield 77, 3) := by decide +kernel
theorem dX3_numberOf_91 : decode cX3_numberOf 91 = .ok (.ireturn, 1) := by decide +kernel
theorem dX3_numberOf_92 : decode cX3_numberOf 92 = .ok (.aload_n 3, 1) := by decide +kernel
theorem dX3_numberOf_93 : decode cX3_numberOf 93 = .ok (.getfield 80, 3) := by decide +kernel
theorem dX3_numberOf_96 : decode cX3_numberOf 96 = .ok (.ireturn, 1) := by decide +kernel
theorem dX3_numberOf_97 : decode cX3_numberOf 97 = .ok (.aload_n 3, 1) := by decide +kernel
theorem dX3_numberOf_98 : decode cX3_numberOf 98 = .ok (.getfield 83, 3) := by decide +kernel
theorem dX3_numberOf_101 : decode cX3_numberOf 101 = .ok (.ireturn, 1) := by decide +kernel
theorem dX3_numberOf_102 : decode cX3_numberOf 102 = .ok (.aload_n 3, 1) := by decide +kernel
theorem dX3_numberOf_103 : decode cX3_numberOf 103 = .ok (.getfield 65, 3) := by decide +kernel
theorem dX3_numberOf_106 : decode cX3_numberOf 106 = .ok (.ireturn, 1) := by decide +kernel
theorem dX3_numberOf_107 : decode cX3_numberOf 107 = .ok (.aload_n 3, 1) := by decide +kernel
theorem dX3_numberOf_108 : decode cX3_numberOf 108 = .ok (.getfield 86, 3) := by decide +kernel
theorem dX3_numberOf_111 : decode cX3_numberOf 111 = .ok (.ireturn, 1) := by decide +kernel
theorem dX3_numberOf_112 : decode cX3_numberOf 112 = .ok (.aload_n 3, 1) := by decide +kernel
theorem dX3_numberOf_113 : decode cX3_numberOf 113 = .ok (.invokevirtual 89, 3) := by decide +kernel
theorem dX3_numberOf_116 : decode cX3_numberOf 116 = .ok (.ireturn, 1) := by decide +kernel
theorem dX3_numberOf_117 : decode cX3_numberOf 117 = .ok (.aload_n 3, 1) := by decide +kernel
theorem dX3_numberOf_118 : decode cX3_numberOf 118 = .ok (.getfield 93, 3) := by decide +kernel
theorem dX3_numberOf_121 : decode cX3_numberOf 121 = .ok (.ireturn, 1) := by decide +kernel
theorem dX3_numberOf_122 : decode cX3_numberOf 122 = .ok (.aload_n 3, 1) := by decide +kernel
theorem dX3_numberOf_123 : decode cX3_numberOf 123 = .ok (.getfield 96, 3) := by decide +kernel
theorem dX3_numberOf_126 : decode cX3_numberOf 126 = .ok (.ireturn, 1) := by decide +kernel
theorem dX3_numberOf_127 : decode cX3_numberOf 127 = .ok (.aload_n 0, 1) := by decide +kernel
theorem dX3_numberOf_128 : decode cX3_numberOf 128 = .ok (.aload_n 3, 1) := by decide +kernel
theorem dX3_numberOf_129 : decode cX3_numberOf 129 = .ok (.getfield 71, 3) := by decide +kernel
theorem dX3_numberOf_132 : decode cX3_numberOf 132 = .ok (.invokevirtual 50, 3) := by decide +kernel
theorem dX3_numberOf_135 : decode cX3_numberOf 135 = .ok (.ireturn, 1) := by decide +kernel
theorem dX3_numberOf_136 : decode cX3_numberOf 136 = .ok (.iload_n 1, 1) := by decide +kernel
theorem dX3_numberOf_137 : decode cX3_numberOf 137 = .ok (.ireturn, 1) := by decide +kernel
theorem dX3_toldBy_0 : decode cX3_toldBy 0 = .ok (.aload_n 0, 1) := by decide +kernel
theorem dX3_toldBy_1 : decode cX3_toldBy 1 = .ok (.aload_n 1, 1) := by decide +kernel
theorem dX3_toldBy_2 : decode cX3_toldBy 2 = .ok (.getfield 68, 3) := by decide +kernel
theorem dX3_toldBy_5 : decode cX3_toldBy 5 = .ok (.invokevirtual 99, 3) := by decide +kernel
theorem dX3_toldBy_8 : decode cX3_toldBy 8 = .ok (.astore_n 2, 1) := by decide +kernel
theorem dX3_toldBy_9 : decode cX3_toldBy 9 = .ok (.aload_n 1, 1) := by decide +kernel
theorem dX3_toldBy_10 : decode cX3_toldBy 10 = .ok (.invokevirtual 103, 3) := by decide +kernel
theorem dX3_toldBy_13 : decode cX3_toldBy 13 = .ok (.i2l, 1) := by decide +kernel
theorem dX3_toldBy_14 : decode cX3_toldBy 14 = .ok (.aload_n 2, 1) := by decide +kernel
theorem dX3_toldBy_15 : decode cX3_toldBy 15 = .ok (.getfield 106, 3) := by decide +kernel
theorem dX3_toldBy_18 : decode cX3_toldBy 18 = .ok (.lsub, 1) := by decide +kernel
theorem dX3_toldBy_19 : decode cX3_toldBy 19 = .ok (.aload_n 1, 1) := by decide +kernel
theorem dX3_toldBy_20 : decode cX3_toldBy 20 = .ok (.getfield 96, 3) := by decide +kernel
theorem dX3_toldBy_23 : decode cX3_toldBy 23 = .ok (.i2l, 1) := by decide +kernel
theorem dX3_toldBy_24 : decode cX3_toldBy 24 = .ok (.lsub, 1) := by decide +kernel
theorem dX3_toldBy_25 : decode cX3_toldBy 25 = .ok (.lstore_n 3, 1) := by decide +kernel
theorem dX3_toldBy_26 : decode cX3_toldBy 26 = .ok (.aload_n 0, 1) := by decide +kernel
theorem dX3_toldBy_27 : decode cX3_toldBy 27 = .ok (.getfield 40, 3) := by decide +kernel
theorem dX3_toldBy_30 : decode cX3_toldBy 30 = .ok (.i2l, 1) := by decide +kernel
theorem dX3_toldBy_31 : decode cX3_toldBy 31 = .ok (.lload_n 3, 1) := by decide +kernel
theorem dX3_toldBy_32 : decode cX3_toldBy 32 = .ok (.aload_n 2, 1) := by decide +kernel
theorem dX3_toldBy_33 : decode cX3_toldBy 33 = .ok (.getfield 110, 3) := by decide +kernel
theorem dX3_toldBy_36 : decode cX3_toldBy 36 = .ok (.i2l, 1) := by decide +kernel
theorem dX3_toldBy_37 : decode cX3_toldBy 37 = .ok (.lmul, 1) := by decide +kernel
theorem dX3_toldBy_38 : decode cX3_toldBy 38 = .ok (.ldc2_w 113, 3) := by decide +kernel
theorem dX3_toldBy_41 : decode cX3_toldBy 41 = .ok (.ldiv, 1) := by decide +kernel
theorem dX3_toldBy_42 : decode cX3_toldBy 42 = .ok (.lsub, 1) := by decide +kernel
theorem dX3_toldBy_43 : decode cX3_toldBy 43 = .ok (.l2i, 1) := by decide +kernel
theorem dX3_toldBy_44 : decode cX3_toldBy 44 = .ok (.ireturn, 1) := by decide +kernel
theorem dX3_wrongBy_0 : decode cX3_wrongBy 0 = .ok (.aload_n 0, 1) := by decide +kernel
theorem dX3_wrongBy_1 : decode cX3_wrongBy 1 = .ok (.aload_n 1, 1) := by decide +kernel
theorem dX3_wrongBy_2 : decode cX3_wrongBy 2 = .ok (.invokevirtual 115, 3) := by decide +kernel
theorem dX3_wrongBy_5 : decode cX3_wrongBy 5 = .ok (.aload_n 0, 1) := by decide +kernel
theorem dX3_wrongBy_6 : decode cX3_wrongBy 6 = .ok (.aload_n 1, 1) := by decide +kernel
theorem dX3_wrongBy_7 : decode cX3_wrongBy 7 = .ok (.getfield 71, 3) := by decide +kernel
theorem dX3_wrongBy_10 : decode cX3_wrongBy 10 = .ok (.invokevirtual 50, 3) := by decide +kernel
theorem dX3_wrongBy_13 : decode cX3_wrongBy 13 = .ok (.isub, 1) := by decide +kernel
theorem dX3_wrongBy_14 : decode cX3_wrongBy 14 = .ok (.ireturn, 1) := by decide +kernel
theorem dX3_differenceOf_0 : decode cX3_differenceOf 0 = .ok (.aload_n 1, 1) := by decide +kernel
theorem dX3_differenceOf_1 : decode cX3_differenceOf 1 = .ok (.getfield 68, 3) := by decide +kernel
theorem dX3_differenceOf_4 : decode cX3_differenceOf 4 = .ok (.aload_n 2, 1) := by decide +kernel
theorem dX3_differenceOf_5 : decode cX3_differenceOf 5 = .ok (.getfield 68, 3) := by decide +kernel
theorem dX3_differenceOf_8 : decode cX3_differenceOf 8 = .ok (.if_icmp .eq 15, 3) := by decide +kernel
theorem dX3_differenceOf_11 : decode cX3_differenceOf 11 = .ok (.aload_n 0, 1) := by decide +kernel
theorem dX3_differenceOf_12 : decode cX3_differenceOf 12 = .ok (.aload_n 1, 1) := by decide +kernel
theorem dX3_differenceOf_13 : decode cX3_differenceOf 13 = .ok (.invokevirtual 115, 3) := by decide +kernel
theorem dX3_differenceOf_16 : decode cX3_differenceOf 16 = .ok (.aload_n 0, 1) := by decide +kernel
theorem dX3_differenceOf_17 : decode cX3_differenceOf 17 = .ok (.aload_n 2, 1) := by decide +kernel
theorem dX3_differenceOf_18 : decode cX3_differenceOf 18 = .ok (.invokevirtual 115, 3) := by decide +kernel
theorem dX3_differenceOf_21 : decode cX3_differenceOf 21 = .ok (.isub, 1) := by decide +kernel
theorem dX3_differenceOf_22 : decode cX3_differenceOf 22 = .ok (.ireturn, 1) := by decide +kernel
theorem dX3_differenceOf_23 : decode cX3_differenceOf 23 = .ok (.aload_n 2, 1) := by decide +kernel
theorem dX3_differenceOf_24 : decode cX3_differenceOf 24 = .ok (.invokevirtual 103, 3) := by decide +kernel
theorem dX3_differenceOf_27 : decode cX3_differenceOf 27 = .ok (.aload_n 1, 1) := by decide +kernel
theorem dX3_differenceOf_28 : decode cX3_differenceOf 28 = .ok (.invokevirtual 103, 3) := by decide +kernel
theorem dX3_differenceOf_31 : decode cX3_differenceOf 31 = .ok (.isub, 1) := by decide +kernel
theorem dX3_differenceOf_32 : decode cX3_differenceOf 32 = .ok (.aload_n 2, 1) := by decide +kernel
theorem dX3_differenceOf_33 : decode cX3_differenceOf 33 = .ok (.getfield 96, 3) := by decide +kernel
theorem dX3_differenceOf_36 : decode cX3_differenceOf 36 = .ok (.isub, 1) := by decide +kernel
theorem dX3_differenceOf_37 : decode cX3_differenceOf 37 = .ok (.aload_n 1, 1) := by decide +kernel
theorem dX3_differenceOf_38 : decode cX3_differenceOf 38 = .ok (.getfield 96, 3) := by decide +kernel
theorem dX3_differenceOf_41 : decode cX3_differenceOf 41 = .ok (.iadd, 1) := by decide +kernel
theorem dX3_differenceOf_42 : decode cX3_differenceOf 42 = .ok (.i2l, 1) := by decide +kernel
theorem dX3_differenceOf_43 : decode cX3_differenceOf 43 = .ok (.lstore_n 3, 1) := by decide +kernel
theorem dX3_differenceOf_44 : decode cX3_differenceOf 44 = .ok (.lload_n 3, 1) := by decide +kernel
theorem dX3_differenceOf_45 : decode cX3_differenceOf 45 = .ok (.aload_n 0, 1) := by decide +kernel
theorem dX3_differenceOf_46 : decode cX3_differenceOf 46 = .ok (.aload_n 1, 1) := by decide +kernel
theorem dX3_differenceOf_47 : decode cX3_differenceOf 47 = .ok (.getfield 68, 3) := by decide +kernel
theorem dX3_differenceOf_50 : decode cX3_differenceOf 50 = .ok (.invokevirtual 99, 3) := by decide +kernel
theorem dX3_differenceOf_53 : decode cX3_differenceOf 53 = .ok (.getfield 110, 3) := by decide +kernel
theorem dX3_differenceOf_56 : decode cX3_differenceOf 56 = .ok (.i2l, 1) := by decide +kernel
theorem dX3_differenceOf_57 : decode cX3_differenceOf 57 = .ok (.lmul, 1) := by decide +kernel
theorem dX3_differenceOf_58 : decode cX3_differenceOf 58 = .ok (.ldc2_w 113, 3) := by decide +kernel
theorem dX3_differenceOf_61 : decode cX3_differenceOf 61 = .ok (.ldiv, 1) := by decide +kernel
theorem dX3_differenceOf_62 : decode cX3_differenceOf 62 = .ok (.l2i, 1) := by decide +kernel
theorem dX3_differenceOf_63 : decode cX3_differenceOf 63 = .ok (.ireturn, 1) := by decide +kernel
theorem dX3_settle_0 : decode cX3_settle 0 = .ok (.iconst 0, 1) := by decide +kernel
theorem dX3_settle_1 : decode cX3_settle 1 = .ok (.istore_n 1, 1) := by decide +kernel
theorem dX3_settle_2 : decode cX3_settle 2 = .ok (.iload_n 1, 1) := by decide +kernel
theorem dX3_settle_3 : decode cX3_settle 3 = .ok (.aload_n 0, 1) := by decide +kernel
theorem dX3_settle_4 : decode cX3_settle 4 = .ok (.getfield 43, 3) := by decide +kernel
theorem dX3_settle_7 : decode cX3_settle 7 = .ok (.if_icmp .ge 85, 3) := by decide +kernel
theorem dX3_settle_10 : decode cX3_settle 10 = .ok (.aload_n 0, 1) := by decide +kernel
theorem dX3_settle_11 : decode cX3_settle 11 = .ok (.iload_n 1, 1) := by decide +kernel
theorem dX3_settle_12 : decode cX3_settle 12 = .ok (.invokevirtual 58, 3) := by decide +kernel
theorem dX3_settle_15 : decode cX3_settle 15 = .ok (.astore_n 2, 1) := by decide +kernel
theorem dX3_settle_16 : decode cX3_settle 16 = .ok (.aload_n 0, 1) := by decide +kernel
theorem dX3_settle_17 : decode cX3_settle 17 = .ok (.aload_n 2, 1) := by decide +kernel
theorem dX3_settle_18 : decode cX3_settle 18 = .ok (.getfield 68, 3) := by decide +kernel
theorem dX3_settle_21 : decode cX3_settle 21 = .ok (.invokevirtual 99, 3) := by decide +kernel
theorem dX3_settle_24 : decode cX3_settle 24 = .ok (.astore_n 3, 1) := by decide +kernel
theorem dX3_settle_25 : decode cX3_settle 25 = .ok (.aload_n 2, 1) := by decide +kernel
theorem dX3_settle_26 : decode cX3_settle 26 = .ok (.aload_n 3, 1) := by decide +kernel
theorem dX3_settle_27 : decode cX3_settle 27 = .ok (.getfield 110, 3) := by decide +kernel
theorem dX3_settle_30 : decode cX3_settle 30 = .ok (.ifCond .ne 7, 3) := by decide +kernel
theorem dX3_settle_33 : decode cX3_settle 33 = .ok (.iconst 0, 1) := by decide +kernel
theorem dX3_settle_34 : decode cX3_settle 34 = .ok (.goto 25, 3) := by decide +kernel
theorem dX3_settle_37 : decode cX3_settle 37 = .ok (.aload_n 0, 1) := by decide +kernel
theorem dX3_settle_38 : decode cX3_settle 38 = .ok (.getfield 40, 3) := by decide +kernel
theorem dX3_settle_41 : decode cX3_settle 41 = .ok (.aload_n 0, 1) := by decide +kernel
theorem dX3_settle_42 : decode cX3_settle 42 = .ok (.aload_n 2, 1) := by decide +kernel
theorem dX3_settle_43 : decode cX3_settle 43 = .ok (.getfield 71, 3) := by decide +kernel
theorem dX3_settle_46 : decode cX3_settle 46 = .ok (.invokevirtual 50, 3) := by decide +kernel
theorem dX3_settle_49 : decode cX3_settle 49 = .ok (.isub, 1) := by decide +kernel
theorem dX3_settle_50 : decode cX3_settle 50 = .ok (.sipush 1000, 3) := by decide +kernel
theorem dX3_settle_53 : decode cX3_settle 53 = .ok (.imul, 1) := by decide +kernel
theorem dX3_settle_54 : decode cX3_settle 54 = .ok (.aload_n 3, 1) := by decide +kernel
theorem dX3_settle_55 : decode cX3_settle 55 = .ok (.getfield 110, 3) := by decide +kernel
theorem dX3_settle_58 : decode cX3_settle 58 = .ok (.idiv, 1) := by decide +kernel
theorem dX3_settle_59 : decode cX3_settle 59 = .ok (.putfield 93, 3) := by decide +kernel
theorem dX3_settle_62 : decode cX3_settle 62 = .ok (.aload_n 2, 1) := by decide +kernel
theorem dX3_settle_63 : decode cX3_settle 63 = .ok (.aload_n 2, 1) := by decide +kernel
theorem dX3_settle_64 : decode cX3_settle 64 = .ok (.getfield 74, 3) := by decide +kernel
theorem dX3_settle_67 : decode cX3_settle 67 = .ok (.ifCond .ne 7, 3) := by decide +kernel
theorem dX3_settle_70 : decode cX3_settle 70 = .ok (.iconst 0, 1) := by decide +kernel
theorem dX3_settle_71 : decode cX3_settle 71 = .ok (.goto 12, 3) := by decide +kernel
theorem dX3_settle_74 : decode cX3_settle 74 = .ok (.aload_n 3, 1) := by decide +kernel
theorem dX3_settle_75 : decode cX3_settle 75 = .ok (.getfield 119, 3) := by decide +kernel
theorem dX3_settle_78 : decode cX3_settle 78 = .ok (.aload_n 2, 1) := by decide +kernel
theorem dX3_settle_79 : decode cX3_settle 79 = .ok (.getfield 74, 3) := by decide +kernel
theorem dX3_settle_82 : decode cX3_settle 82 = .ok (.idiv, 1) := by decide +kernel
theorem dX3_settle_83 : decode cX3_settle 83 = .ok (.putfield 96, 3) := by decide +kernel
theorem dX3_settle_86 : decode cX3_settle 86 = .ok (.iinc 1 1, 3) := by decide +kernel
theorem dX3_settle_89 : decode cX3_settle 89 = .ok (.goto (-87), 3) := by decide +kernel
theorem dX3_settle_92 : decode cX3_settle 92 = .ok (.aload_n 0, 1) := by decide +kernel
theorem dX3_settle_93 : decode cX3_settle 93 = .ok (.iconst 0, 1) := by decide +kernel
theorem dX3_settle_94 : decode cX3_settle 94 = .ok (.invokevirtual 122, 3) := by decide +kernel
theorem dX3_settle_97 : decode cX3_settle 97 = .ok (.aload_n 0, 1) := by decide +kernel
theorem dX3_settle_98 : decode cX3_settle 98 = .ok (.iconst 1, 1) := by decide +kernel
theorem dX3_settle_99 : decode cX3_settle 99 = .ok (.invokevirtual 122, 3) := by decide +kernel
theorem dX3_settle_102 : decode cX3_settle 102 = .ok (.iadd, 1) := by decide +kernel
theorem dX3_settle_103 : decode cX3_settle 103 = .ok (.istore_n 1, 1) := by decide +kernel
theorem dX3_settle_104 : decode cX3_settle 104 = .ok (.iconst 0, 1) := by decide +kernel
theorem dX3_settle_105 : decode cX3_settle 105 = .ok (.istore_n 2, 1) := by decide +kernel
theorem dX3_settle_106 : decode cX3_settle 106 = .ok (.iload_n 2, 1) := by decide +kernel
theorem dX3_settle_107 : decode cX3_settle 107 = .ok (.aload_n 0, 1) := by decide +kernel
theorem dX3_settle_108 : decode cX3_settle 108 = .ok (.getfield 43, 3) := by decide +kernel
theorem dX3_settle_111 : decode cX3_settle 111 = .ok (.if_icmp .ge 35, 3) := by decide +kernel
theorem dX3_settle_114 : decode cX3_settle 114 = .ok (.aload_n 0, 1) := by decide +kernel
theorem dX3_settle_115 : decode cX3_settle 115 = .ok (.iload_n 2, 1) := by decide +kernel
theorem dX3_settle_116 : decode cX3_settle 116 = .ok (.invokevirtual 58, 3) := by decide +kernel
theorem dX3_settle_119 : decode cX3_settle 119 = .ok (.astore_n 3, 1) := by decide +kernel
theorem dX3_settle_120 : decode cX3_settle 120 = .ok (.aload_n 3, 1) := by decide +kernel
theorem dX3_settle_121 : decode cX3_settle 121 = .ok (.aload_n 3, 1) := by decide +kernel
theorem dX3_settle_122 : decode cX3_settle 122 = .ok (.aload_n 0, 1) := by decide +kernel
theorem dX3_settle_123 : decode cX3_settle 123 = .ok (.aload_n 3, 1) := by decide +kernel
theorem dX3_settle_124 : decode cX3_settle 124 = .ok (.getfield 68, 3) := by decide +kernel
theorem dX3_settle_127 : decode cX3_settle 127 = .ok (.invokevirtual 99, 3) := by decide +kernel
theorem dX3_settle_130 : decode cX3_settle 130 = .ok (.getfield 106, 3) := by decide +kernel
theorem dX3_settle_133 : decode cX3_settle 133 = .ok (.invokevirtual 125, 3) := by decide +kernel
theorem dX3_settle_136 : decode cX3_settle 136 = .ok (.l2i, 1) := by decide +kernel
theorem dX3_settle_137 : decode cX3_settle 137 = .ok (.putfield 86, 3) := by decide +kernel
theorem dX3_settle_140 : decode cX3_settle 140 = .ok (.iinc 2 1, 3) := by decide +kernel
theorem dX3_settle_143 : decode cX3_settle 143 = .ok (.goto (-37), 3) := by decide +kernel
theorem dX3_settle_146 : decode cX3_settle 146 = .ok (.iload_n 1, 1) := by decide +kernel
theorem dX3_settle_147 : decode cX3_settle 147 = .ok (.ireturn, 1) := by decide +kernel
theorem dX3_settleLeg_0 : decode cX3_settleLeg 0 = .ok (.aload_n 0, 1) := by decide +kernel
theorem dX3_settleLeg_1 : decode cX3_settleLeg 1 = .ok (.iload_n 1, 1) := by decide +kernel
theorem dX3_settleLeg_2 : decode cX3_settleLeg 2 = .ok (.invokevirtual 99, 3) := by decide +kernel
theorem dX3_settleLeg_5 : decode cX3_settleLeg 5 = .ok (.astore_n 2, 1) := by decide +kernel
theorem dX3_settleLeg_6 : decode cX3_settleLeg 6 = .ok (.iconst 0, 1) := by decide +kernel
theorem dX3_settleLeg_7 : decode cX3_settleLeg 7 = .ok (.istore_n 3, 1) := by decide +kernel
theorem dX3_settleLeg_8 : decode cX3_settleLeg 8 = .ok (.iconst 1, 1) := by decide +kernel
theorem dX3_settleLeg_9 : decode cX3_settleLeg 9 = .ok (.istore 4, 2) := by decide +kernel
theorem dX3_settleLeg_11 : decode cX3_settleLeg 11 = .ok (.iconst 0, 1) := by decide +kernel
theorem dX3_settleLeg_12 : decode cX3_settleLeg 12 = .ok (.istore 5, 2) := by decide +kernel
theorem dX3_settleLeg_14 : decode cX3_settleLeg 14 = .ok (.iload 5, 2) := by decide +kernel
theorem dX3_settleLeg_16 : decode cX3_settleLeg 16 = .ok (.bipush 12, 2) := by decide +kernel
theorem dX3_settleLeg_18 : decode cX3_settleLeg 18 = .ok (.if_icmp .gt 35, 3) := by decide +kernel
theorem dX3_settleLeg_21 : decode cX3_settleLeg 21 = .ok (.iload 4, 2) := by decide +kernel
theorem dX3_settleLeg_23 : decode cX3_settleLeg 23 = .ok (.ifCond .le 30, 3) := by decide +kernel
theorem dX3_settleLeg_26 : decode cX3_settleLeg 26 = .ok (.aload_n 2, 1) := by decide +kernel
theorem dX3_settleLeg_27 : decode cX3_settleLeg 27 = .ok (.aload_n 0, 1) := by decide +kernel
theorem dX3_settleLeg_28 : decode cX3_settleLeg 28 = .ok (.iload_n 1, 1) := by decide +kernel
theorem dX3_settleLeg_29 : decode cX3_settleLeg 29 = .ok (.invokevirtual 129, 3) := by decide +kernel
theorem dX3_settleLeg_32 : decode cX3_settleLeg 32 = .ok (.putfield 106, 3) := by decide +kernel
theorem dX3_settleLeg_35 : decode cX3_settleLeg 35 = .ok (.aload_n 0, 1) := by decide +kernel
theorem dX3_settleLeg_36 : decode cX3_settleLeg 36 = .ok (.iload_n 1, 1) := by decide +kernel
theorem dX3_settleLeg_37 : decode cX3_settleLeg 37 = .ok (.invokevirtual 133, 3) := by decide +kernel
theorem dX3_settleLeg_40 : decode cX3_settleLeg 40 = .ok (.istore 4, 2) := by decide +kernel
theorem dX3_settleLeg_42 : decode cX3_settleLeg 42 = .ok (.iload_n 3, 1) := by decide +kernel
theorem dX3_settleLeg_43 : decode cX3_settleLeg 43 = .ok (.iload 4, 2) := by decide +kernel
theorem dX3_settleLeg_45 : decode cX3_settleLeg 45 = .ok (.iadd, 1) := by decide +kernel
theorem dX3_settleLeg_46 : decode cX3_settleLeg 46 = .ok (.istore_n 3, 1) := by decide +kernel
theorem dX3_settleLeg_47 : decode cX3_settleLeg 47 = .ok (.iinc 5 1, 3) := by decide +kernel
theorem dX3_settleLeg_50 : decode cX3_settleLeg 50 = .ok (.goto (-36), 3) := by decide +kernel
theorem dX3_settleLeg_53 : decode cX3_settleLeg 53 = .ok (.iload_n 3, 1) := by decide +kernel
theorem dX3_settleLeg_54 : decode cX3_settleLeg 54 = .ok (.ireturn, 1) := by decide +kernel
theorem dX3_greatestLevel_0 : decode cX3_greatestLevel 0 = .ok (.aload_n 0, 1) := by decide +kernel
theorem dX3_greatestLevel_1 : decode cX3_greatestLevel 1 = .ok (.iload_n 1, 1) := by decide +kernel
theorem dX3_greatestLevel_2 : decode cX3_greatestLevel 2 = .ok (.invokevirtual 99, 3) := by decide +kernel
theorem dX3_greatestLevel_5 : decode cX3_greatestLevel 5 = .ok (.astore_n 2, 1) := by decide +kernel
theorem dX3_greatestLevel_6 : decode cX3_greatestLevel 6 = .ok (.aload_n 2, 1) := by decide +kernel
theorem dX3_greatestLevel_7 : decode cX3_greatestLevel 7 = .ok (.getfield 136, 3) := by decide +kernel
theorem dX3_greatestLevel_10 : decode cX3_greatestLevel 10 = .ok (.ifCond .ne 5, 3) := by decide +kernel
theorem dX3_greatestLevel_13 : decode cX3_greatestLevel 13 = .ok (.lconst 0, 1) := by decide +kernel
theorem dX3_greatestLevel_14 : decode cX3_greatestLevel 14 = .ok (.lreturn, 1) := by decide +kernel
theorem dX3_greatestLevel_15 : decode cX3_greatestLevel 15 = .ok (.aload_n 2, 1) := by decide +kernel
theorem dX3_greatestLevel_16 : decode cX3_greatestLevel 16 = .ok (.getfield 139, 3) := by decide +kernel
theorem dX3_greatestLevel_19 : decode cX3_greatestLevel 19 = .ok (.aload_n 0, 1) := by decide +kernel
theorem dX3_greatestLevel_20 : decode cX3_greatestLevel 20 = .ok (.iload_n 1, 1) := by decide +kernel
theorem dX3_greatestLevel_21 : decode cX3_greatestLevel 21 = .ok (.invokevirtual 142, 3) := by decide +kernel
theorem dX3_greatestLevel_24 : decode cX3_greatestLevel 24 = .ok (.lsub, 1) := by decide +kernel
theorem dX3_greatestLevel_25 : decode cX3_greatestLevel 25 = .ok (.aload_n 2, 1) := by decide +kernel
theorem dX3_greatestLevel_26 : decode cX3_greatestLevel 26 = .ok (.getfield 136, 3) := by decide +kernel
theorem dX3_greatestLevel_29 : decode cX3_greatestLevel 29 = .ok (.i2l, 1) := by decide +kernel
theorem dX3_greatestLevel_30 : decode cX3_greatestLevel 30 = .ok (.invokestatic 145, 3) := by decide +kernel
theorem dX3_greatestLevel_33 : decode cX3_greatestLevel 33 = .ok (.lstore_n 3, 1) := by decide +kernel
theorem dX3_greatestLevel_34 : decode cX3_greatestLevel 34 = .ok (.aload_n 2, 1) := by decide +kernel
theorem dX3_greatestLevel_35 : decode cX3_greatestLevel 35 = .ok (.getfield 139, 3) := by decide +kernel
theorem dX3_greatestLevel_38 : decode cX3_greatestLevel 38 = .ok (.aload_n 2, 1) := by decide +kernel
theorem dX3_greatestLevel_39 : decode cX3_greatestLevel 39 = .ok (.getfield 136, 3) := by decide +kernel
theorem dX3_greatestLevel_42 : decode cX3_greatestLevel 42 = .ok (.i2l, 1) := by decide +kernel
theorem dX3_greatestLevel_43 : decode cX3_greatestLevel 43 = .ok (.invokestatic 145, 3) := by decide +kernel
theorem dX3_greatestLevel_46 : decode cX3_greatestLevel 46 = .ok (.lstore 5, 2) := by decide +kernel
theorem dX3_greatestLevel_48 : decode cX3_greatestLevel 48 = .ok (.iconst 0, 1) := by decide +kernel
theorem dX3_greatestLevel_49 : decode cX3_greatestLevel 49 = .ok (.istore 7, 2) := by decide +kernel
theorem dX3_greatestLevel_51 : decode cX3_greatestLevel 51 = .ok (.iload 7, 2) := by decide +kernel
theorem dX3_greatestLevel_53 : decode cX3_greatestLevel 53 = .ok (.bipush 64, 2) := by decide +kernel
theorem dX3_greatestLevel_55 : decode cX3_greatestLevel 55 = .ok (.if_icmp .ge 66, 3) := by decide +kernel
theorem dX3_greatestLevel_58 : decode cX3_greatestLevel 58 = .ok (.lload_n 3, 1) := by decide +kernel
theorem dX3_greatestLevel_59 : decode cX3_greatestLevel 59 = .ok (.lload 5, 2) := by decide +kernel
theorem dX3_greatestLevel_61 : decode cX3_greatestLevel 61 = .ok (.lcmp, 1) := by decide +kernel
theorem dX3_greatestLevel_62 : decode cX3_greatestLevel 62 = .ok (.ifCond .ge 59, 3) := by decide +kernel
theorem dX3_greatestLevel_65 : decode cX3_greatestLevel 65 = .ok (.lload_n 3, 1) := by decide +kernel
theorem dX3_greatestLevel_66 : decode cX3_greatestLevel 66 = .ok (.lload 5, 2) := by decide +kernel
theorem dX3_greatestLevel_68 : decode cX3_greatestLevel 68 = .ok (.lload_n 3, 1) := by decide +kernel
theorem dX3_greatestLevel_69 : decode cX3_greatestLevel 69 = .ok (.lsub, 1) := by decide +kernel
theorem dX3_greatestLevel_70 : decode cX3_greatestLevel 70 = .ok (.lconst 1, 1) := by decide +kernel
theorem dX3_greatestLevel_71 : decode cX3_greatestLevel 71 = .ok (.ladd, 1) := by decide +kernel
theorem dX3_greatestLevel_72 : decode cX3_greatestLevel 72 = .ok (.ldc2_w 151, 3) := by decide +kernel
theorem dX3_greatestLevel_75 : decode cX3_greatestLevel 75 = .ok (.ldiv, 1) := by decide +kernel
theorem dX3_greatestLevel_76 : decode cX3_greatestLevel 76 = .ok (.ladd, 1) := by decide +kernel
theorem dX3_greatestLevel_77 : decode cX3_greatestLevel 77 = .ok (.lstore 8, 2) := by decide +kernel
theorem dX3_greatestLevel_79 : decode cX3_greatestLevel 79 = .ok (.aload_n 2, 1) := by decide +kernel
theorem dX3_greatestLevel_80 : decode cX3_greatestLevel 80 = .ok (.getfield 136, 3) := by decide +kernel
theorem dX3_greatestLevel_83 : decode cX3_greatestLevel 83 = .ok (.i2l, 1) := by decide +kernel
theorem dX3_greatestLevel_84 : decode cX3_greatestLevel 84 = .ok (.lload 8, 2) := by decide +kernel
theorem dX3_greatestLevel_86 : decode cX3_greatestLevel 86 = .ok (.lmul, 1) := by decide +kernel
theorem dX3_greatestLevel_87 : decode cX3_greatestLevel 87 = .ok (.aload_n 0, 1) := by decide +kernel
theorem dX3_greatestLevel_88 : decode cX3_greatestLevel 88 = .ok (.iload_n 1, 1) := by decide +kernel
theorem dX3_greatestLevel_89 : decode cX3_greatestLevel 89 = .ok (.lload 8, 2) := by decide +kernel
theorem dX3_greatestLevel_91 : decode cX3_greatestLevel 91 = .ok (.invokevirtual 153, 3) := by decide +kernel
theorem dX3_greatestLevel_94 : decode cX3_greatestLevel 94 = .ok (.ladd, 1) := by decide +kernel
theorem dX3_greatestLevel_95 : decode cX3_greatestLevel 95 = .ok (.aload_n 2, 1) := by decide +kernel
theorem dX3_greatestLevel_96 : decode cX3_greatestLevel 96 = .ok (.getfield 139, 3) := by decide +kernel
theorem dX3_greatestLevel_99 : decode cX3_greatestLevel 99 = .ok (.lcmp, 1) := by decide +kernel
theorem dX3_greatestLevel_100 : decode cX3_greatestLevel 100 = .ok (.ifCond .gt 9, 3) := by decide +kernel
theorem dX3_greatestLevel_103 : decode cX3_greatestLevel 103 = .ok (.lload 8, 2) := by decide +kernel
theorem dX3_greatestLevel_105 : decode cX3_greatestLevel 105 = .ok (.lstore_n 3, 1) := by decide +kernel
theorem dX3_greatestLevel_106 : decode cX3_greatestLevel 106 = .ok (.goto 9, 3) := by decide +kernel
theorem dX3_greatestLevel_109 : decode cX3_greatestLevel 109 = .ok (.lload 8, 2) := by decide +kernel
theorem dX3_greatestLevel_111 : decode cX3_greatestLevel 111 = .ok (.lconst 1, 1) := by decide +kernel
theorem dX3_greatestLevel_112 : decode cX3_greatestLevel 112 = .ok (.lsub, 1) := by decide +kernel
theorem dX3_greatestLevel_113 : decode cX3_greatestLevel 113 = .ok (.lstore 5, 2) := by decide +kernel
theorem dX3_greatestLevel_115 : decode cX3_greatestLevel 115 = .ok (.iinc 7 1, 3) := by decide +kernel
theorem dX3_greatestLevel_118 : decode cX3_greatestLevel 118 = .ok (.goto (-67), 3) := by decide +kernel
theorem dX3_greatestLevel_121 : decode cX3_greatestLevel 121 = .ok (.lload_n 3, 1) := by decide +kernel
theorem dX3_greatestLevel_122 : decode cX3_greatestLevel 122 = .ok (.lreturn, 1) := by decide +kernel
theorem dX3_fullVolumes_0 : decode cX3_fullVolumes 0 = .ok (.lconst 0, 1) := by decide +kernel
theorem dX3_fullVolumes_1 : decode cX3_fullVolumes 1 = .ok (.lstore_n 2, 1) := by decide +kernel
theorem dX3_fullVolumes_2 : decode cX3_fullVolumes 2 = .ok (.iconst 0, 1) := by decide +kernel
theorem dX3_fullVolumes_3 : decode cX3_fullVolumes 3 = .ok (.istore 4, 2) := by decide +kernel
theorem dX3_fullVolumes_5 : decode cX3_fullVolumes 5 = .ok (.iload 4, 2) := by decide +kernel
theorem dX3_fullVolumes_7 : decode cX3_fullVolumes 7 = .ok (.aload_n 0, 1) := by decide +kernel
theorem dX3_fullVolumes_8 : decode cX3_fullVolumes 8 = .ok (.getfield 43, 3) := by decide +kernel
theorem dX3_fullVolumes_11 : decode cX3_fullVolumes 11 = .ok (.if_icmp .ge 42, 3) := by decide +kernel
theorem dX3_fullVolumes_14 : decode cX3_fullVolumes 14 = .ok (.aload_n 0, 1) := by decide +kernel
theorem dX3_fullVolumes_15 : decode cX3_fullVolumes 15 = .ok (.iload 4, 2) := by decide +kernel
theorem dX3_fullVolumes_17 : decode cX3_fullVolumes 17 = .ok (.invokevirtual 58, 3) := by decide +kernel
theorem dX3_fullVolumes_20 : decode cX3_fullVolumes 20 = .ok (.astore 5, 2) := by decide +kernel
theorem dX3_fullVolumes_22 : decode cX3_fullVolumes 22 = .ok (.aload 5, 2) := by decide +kernel
theorem dX3_fullVolumes_24 : decode cX3_fullVolumes 24 = .ok (.getfield 68, 3) := by decide +kernel
theorem dX3_fullVolumes_27 : decode cX3_fullVolumes 27 = .ok (.iload_n 1, 1) := by decide +kernel
theorem dX3_fullVolumes_28 : decode cX3_fullVolumes 28 = .ok (.if_icmp .ne 19, 3) := by decide +kernel
theorem dX3_fullVolumes_31 : decode cX3_fullVolumes 31 = .ok (.aload 5, 2) := by decide +kernel
theorem dX3_fullVolumes_33 : decode cX3_fullVolumes 33 = .ok (.getfield 65, 3) := by decide +kernel
theorem dX3_fullVolumes_36 : decode cX3_fullVolumes 36 = .ok (.ifCond .ne 11, 3) := by decide +kernel
theorem dX3_fullVolumes_39 : decode cX3_fullVolumes 39 = .ok (.lload_n 2, 1) := by decide +kernel
theorem dX3_fullVolumes_40 : decode cX3_fullVolumes 40 = .ok (.aload 5, 2) := by decide +kernel
theorem dX3_fullVolumes_42 : decode cX3_fullVolumes 42 = .ok (.invokevirtual 157, 3) := by decide +kernel
theorem dX3_fullVolumes_45 : decode cX3_fullVolumes 45 = .ok (.ladd, 1) := by decide +kernel
theorem dX3_fullVolumes_46 : decode cX3_fullVolumes 46 = .ok (.lstore_n 2, 1) := by decide +kernel
theorem dX3_fullVolumes_47 : decode cX3_fullVolumes 47 = .ok (.iinc 4 1, 3) := by decide +kernel
theorem dX3_fullVolumes_50 : decode cX3_fullVolumes 50 = .ok (.goto (-45), 3) := by decide +kernel
theorem dX3_fullVolumes_53 : decode cX3_fullVolumes 53 = .ok (.lload_n 2, 1) := by decide +kernel
theorem dX3_fullVolumes_54 : decode cX3_fullVolumes 54 = .ok (.lreturn, 1) := by decide +kernel
theorem dX3_volumesAt_0 : decode cX3_volumesAt 0 = .ok (.lconst 0, 1) := by decide +kernel
theorem dX3_volumesAt_1 : decode cX3_volumesAt 1 = .ok (.lstore 4, 2) := by decide +kernel
theorem dX3_volumesAt_3 : decode cX3_volumesAt 3 = .ok (.iconst 0, 1) := by decide +kernel
theorem dX3_volumesAt_4 : decode cX3_volumesAt 4 = .ok (.istore 6, 2) := by decide +kernel
theorem dX3_volumesAt_6 : decode cX3_volumesAt 6 = .ok (.iload 6, 2) := by decide +kernel
theorem dX3_volumesAt_8 : decode cX3_volumesAt 8 = .ok (.aload_n 0, 1) := by decide +kernel
theorem dX3_volumesAt_9 : decode cX3_volumesAt 9 = .ok (.getfield 43, 3) := by decide +kernel
theorem dX3_volumesAt_12 : decode cX3_volumesAt 12 = .ok (.if_icmp .ge 51, 3) := by decide +kernel
theorem dX3_volumesAt_15 : decode cX3_volumesAt 15 = .ok (.aload_n 0, 1) := by decide +kernel
theorem dX3_volumesAt_16 : decode cX3_volumesAt 16 = .ok (.iload 6, 2) := by decide +kernel
theorem dX3_volumesAt_18 : decode cX3_volumesAt 18 = .ok (.invokevirtual 58, 3) := by decide +kernel
theorem dX3_volumesAt_21 : decode cX3_volumesAt 21 = .ok (.astore 7, 2) := by decide +kernel
theorem dX3_volumesAt_23 : decode cX3_volumesAt 23 = .ok (.aload 7, 2) := by decide +kernel
theorem dX3_volumesAt_25 : decode cX3_volumesAt 25 = .ok (.getfield 68, 3) := by decide +kernel
theorem dX3_volumesAt_28 : decode cX3_volumesAt 28 = .ok (.iload_n 1, 1) := by decide +kernel
theorem dX3_volumesAt_29 : decode cX3_volumesAt 29 = .ok (.if_icmp .ne 28, 3) := by decide +kernel
theorem dX3_volumesAt_32 : decode cX3_volumesAt 32 = .ok (.lload 4, 2) := by decide +kernel
theorem dX3_volumesAt_34 : decode cX3_volumesAt 34 = .ok (.aload 7, 2) := by decide +kernel
theorem dX3_volumesAt_36 : decode cX3_volumesAt 36 = .ok (.lload_n 2, 1) := by decide +kernel
theorem dX3_volumesAt_37 : decode cX3_volumesAt 37 = .ok (.invokevirtual 125, 3) := by decide +kernel
theorem dX3_volumesAt_40 : decode cX3_volumesAt 40 = .ok (.aload 7, 2) := by decide +kernel
theorem dX3_volumesAt_42 : decode cX3_volumesAt 42 = .ok (.getfield 74, 3) := by decide +kernel
theorem dX3_volumesAt_45 : decode cX3_volumesAt 45 = .ok (.i2l, 1) := by decide +kernel
theorem dX3_volumesAt_46 : decode cX3_volumesAt 46 = .ok (.lmul, 1) := by decide +kernel
theorem dX3_volumesAt_47 : decode cX3_volumesAt 47 = .ok (.aload 7, 2) := by decide +kernel
theorem dX3_volumesAt_49 : decode cX3_volumesAt 49 = .ok (.getfield 74, 3) := by decide +kernel
theorem dX3_volumesAt_52 : decode cX3_volumesAt 52 = .ok (.i2l, 1) := by decide +kernel
theorem dX3_volumesAt_53 : decode cX3_volumesAt 53 = .ok (.lmul, 1) := by decide +kernel
theorem dX3_volumesAt_54 : decode cX3_volumesAt 54 = .ok (.ladd, 1) := by decide +kernel
theorem dX3_volumesAt_55 : decode cX3_volumesAt 55 = .ok (.lstore 4, 2) := by decide +kernel
theorem dX3_volumesAt_57 : decode cX3_volumesAt 57 = .ok (.iinc 6 1, 3) := by decide +kernel
theorem dX3_volumesAt_60 : decode cX3_volumesAt 60 = .ok (.goto (-54), 3) := by decide +kernel
theorem dX3_volumesAt_63 : decode cX3_volumesAt 63 = .ok (.lload 4, 2) := by decide +kernel
theorem dX3_volumesAt_65 : decode cX3_volumesAt 65 = .ok (.lreturn, 1) := by decide +kernel
theorem dX3_breakTubes_0 : decode cX3_breakTubes 0 = .ok (.aload_n 0, 1) := by decide +kernel
theorem dX3_breakTubes_1 : decode cX3_breakTubes 1 = .ok (.iload_n 1, 1) := by decide +kernel
theorem dX3_breakTubes_2 : decode cX3_breakTubes 2 = .ok (.invokevirtual 99, 3) := by decide +kernel
theorem dX3_breakTubes_5 : decode cX3_breakTubes 5 = .ok (.astore_n 2, 1) := by decide +kernel
theorem dX3_breakTubes_6 : decode cX3_breakTubes 6 = .ok (.iconst 0, 1) := by decide +kernel
theorem dX3_breakTubes_7 : decode cX3_breakTubes 7 = .ok (.istore_n 3, 1) := by decide +kernel
theorem dX3_breakTubes_8 : decode cX3_breakTubes 8 = .ok (.iconst 0, 1) := by decide +kernel
theorem dX3_breakTubes_9 : decode cX3_breakTubes 9 = .ok (.istore 4, 2) := by decide +kernel
theorem dX3_breakTubes_11 : decode cX3_breakTubes 11 = .ok (.iload 4, 2) := by decide +kernel
theorem dX3_breakTubes_13 : decode cX3_breakTubes 13 = .ok (.aload_n 0, 1) := by decide +kernel
theorem dX3_breakTubes_14 : decode cX3_breakTubes 14 = .ok (.getfield 43, 3) := by decide +kernel
theorem dX3_breakTubes_17 : decode cX3_breakTubes 17 = .ok (.if_icmp .ge 113, 3) := by decide +kernel
theorem dX3_breakTubes_20 : decode cX3_breakTubes 20 = .ok (.aload_n 0, 1) := by decide +kernel
theorem dX3_breakTubes_21 : decode cX3_breakTubes 21 = .ok (.iload 4, 2) := by decide +kernel
theorem dX3_breakTubes_23 : decode cX3_breakTubes 23 = .ok (.invokevirtual 58, 3) := by decide +kernel
theorem dX3_breakTubes_26 : decode cX3_breakTubes 26 = .ok (.astore 5, 2) := by decide +kernel
theorem dX3_breakTubes_28 : decode cX3_breakTubes 28 = .ok (.aload 5, 2) := by decide +kernel
theorem dX3_breakTubes_30 : decode cX3_breakTubes 30 = .ok (.getfield 68, 3) := by decide +kernel
theorem dX3_breakTubes_33 : decode cX3_breakTubes 33 = .ok (.iload_n 1, 1) := by decide +kernel
theorem dX3_breakTubes_34 : decode cX3_breakTubes 34 = .ok (.if_icmp .ne 90, 3) := by decide +kernel
theorem dX3_breakTubes_37 : decode cX3_breakTubes 37 = .ok (.aload 5, 2) := by decide +kernel
theorem dX3_breakTubes_39 : decode cX3_breakTubes 39 = .ok (.getfield 65, 3) := by decide +kernel
theorem dX3_breakTubes_42 : decode cX3_breakTubes 42 = .ok (.ifCond .ne 82, 3) := by decide +kernel
theorem dX3_breakTubes_45 : decode cX3_breakTubes 45 = .ok (.aload 5, 2) := by decide +kernel
theorem dX3_breakTubes_47 : decode cX3_breakTubes 47 = .ok (.aload_n 2, 1) := by decide +kernel
theorem dX3_breakTubes_48 : decode cX3_breakTubes 48 = .ok (.getfield 106, 3) := by decide +kernel
theorem dX3_breakTubes_51 : decode cX3_breakTubes 51 = .ok (.invokevirtual 161, 3) := by decide +kernel
theorem dX3_breakTubes_54 : decode cX3_breakTubes 54 = .ok (.lstore 6, 2) := by decide +kernel
theorem dX3_breakTubes_56 : decode cX3_breakTubes 56 = .ok (.lload 6, 2) := by decide +kernel
theorem dX3_breakTubes_58 : decode cX3_breakTubes 58 = .ok (.lconst 0, 1) := by decide +kernel
theorem dX3_breakTubes_59 : decode cX3_breakTubes 59 = .ok (.lcmp, 1) := by decide +kernel
theorem dX3_breakTubes_60 : decode cX3_breakTubes 60 = .ok (.ifCond .ge 15, 3) := by decide +kernel
theorem dX3_breakTubes_63 : decode cX3_breakTubes 63 = .ok (.aload 5, 2) := by decide +kernel
theorem dX3_breakTubes_65 : decode cX3_breakTubes 65 = .ok (.iconst 1, 1) := by decide +kernel
theorem dX3_breakTubes_66 : decode cX3_breakTubes 66 = .ok (.putfield 65, 3) := by decide +kernel
theorem dX3_breakTubes_69 : decode cX3_breakTubes 69 = .ok (.iinc 3 1, 3) := by decide +kernel
theorem dX3_breakTubes_72 : decode cX3_breakTubes 72 = .ok (.goto 52, 3) := by decide +kernel
theorem dX3_breakTubes_75 : decode cX3_breakTubes 75 = .ok (.lload 6, 2) := by decide +kernel
theorem dX3_breakTubes_77 : decode cX3_breakTubes 77 = .ok (.aload 5, 2) := by decide +kernel
theorem dX3_breakTubes_79 : decode cX3_breakTubes 79 = .ok (.invokevirtual 164, 3) := by decide +kernel
theorem dX3_breakTubes_82 : decode cX3_breakTubes 82 = .ok (.i2l, 1) := by decide +kernel
theorem dX3_breakTubes_83 : decode cX3_breakTubes 83 = .ok (.lcmp, 1) := by decide +kernel
theorem dX3_breakTubes_84 : decode cX3_breakTubes 84 = .ok (.ifCond .le 40, 3) := by decide +kernel
theorem dX3_breakTubes_87 : decode cX3_breakTubes 87 = .ok (.aload 5, 2) := by decide +kernel
theorem dX3_breakTubes_89 : decode cX3_breakTubes 89 = .ok (.iconst 2, 1) := by decide +kernel
theorem dX3_breakTubes_90 : decode cX3_breakTubes 90 = .ok (.putfield 65, 3) := by decide +kernel
theorem dX3_breakTubes_93 : decode cX3_breakTubes 93 = .ok (.iinc 3 1, 3) := by decide +kernel
theorem dX3_breakTubes_96 : decode cX3_breakTubes 96 = .ok (.aload_n 2, 1) := by decide +kernel
theorem dX3_breakTubes_97 : decode cX3_breakTubes 97 = .ok (.dup, 1) := by decide +kernel
theorem dX3_breakTubes_98 : decode cX3_breakTubes 98 = .ok (.getfield 139, 3) := by decide +kernel
theorem dX3_breakTubes_101 : decode cX3_breakTubes 101 = .ok (.aload 5, 2) := by decide +kernel
theorem dX3_breakTubes_103 : decode cX3_breakTubes 103 = .ok (.invokevirtual 157, 3) := by decide +kernel
theorem dX3_breakTubes_106 : decode cX3_breakTubes 106 = .ok (.lsub, 1) := by decide +kernel
theorem dX3_breakTubes_107 : decode cX3_breakTubes 107 = .ok (.putfield 139, 3) := by decide +kernel
theorem dX3_breakTubes_110 : decode cX3_breakTubes 110 = .ok (.aload_n 2, 1) := by decide +kernel
theorem dX3_breakTubes_111 : decode cX3_breakTubes 111 = .ok (.dup, 1) := by decide +kernel
theorem dX3_breakTubes_112 : decode cX3_breakTubes 112 = .ok (.getfield 167, 3) := by decide +kernel
theorem dX3_breakTubes_115 : decode cX3_breakTubes 115 = .ok (.aload 5, 2) := by decide +kernel
theorem dX3_breakTubes_117 : decode cX3_breakTubes 117 = .ok (.invokevirtual 157, 3) := by decide +kernel
theorem dX3_breakTubes_120 : decode cX3_breakTubes 120 = .ok (.ladd, 1) := by decide +kernel
theorem dX3_breakTubes_121 : decode cX3_breakTubes 121 = .ok (.putfield 167, 3) := by decide +kernel
theorem dX3_breakTubes_124 : decode cX3_breakTubes 124 = .ok (.iinc 4 1, 3) := by decide +kernel
theorem dX3_breakTubes_127 : decode cX3_breakTubes 127 = .ok (.goto (-116), 3) := by decide +kernel
theorem dX3_breakTubes_130 : decode cX3_breakTubes 130 = .ok (.iload_n 3, 1) := by decide +kernel
theorem dX3_breakTubes_131 : decode cX3_breakTubes 131 = .ok (.ireturn, 1) := by decide +kernel
theorem dX4_init_0 : decode cX4_init 0 = .ok (.aload_n 0, 1) := by decide +kernel
theorem dX4_init_1 : decode cX4_init 1 = .ok (.invokespecial 3, 3) := by decide +kernel
theorem dX4_init_4 : decode cX4_init 4 = .ok (.aload_n 0, 1) := by decide +kernel
theorem dX4_init_5 : decode cX4_init 5 = .ok (.aload_n 1, 1) := by decide +kernel
theorem dX4_init_6 : decode cX4_init 6 = .ok (.putfield 9, 3) := by decide +kernel
theorem dX4_init_9 : decode cX4_init 9 = .ok (.aload_n 0, 1) := by decide +kernel
theorem dX4_init_10 : decode cX4_init 10 = .ok (.aload_n 2, 1) := by decide +kernel
theorem dX4_init_11 : decode cX4_init 11 = .ok (.putfield 15, 3) := by decide +kernel
theorem dX4_init_14 : decode cX4_init 14 = .ok (.return_, 1) := by decide +kernel
theorem dX4_read_0 : decode cX4_read 0 = .ok (.aload_n 0, 1) := by decide +kernel
theorem dX4_read_1 : decode cX4_read 1 = .ok (.getfield 9, 3) := by decide +kernel
theorem dX4_read_4 : decode cX4_read 4 = .ok (.ldc 19, 2) := by decide +kernel
theorem dX4_read_6 : decode cX4_read 6 = .ok (.invokevirtual 21, 3) := by decide +kernel
theorem dX4_read_9 : decode cX4_read 9 = .ok (.aload_n 0, 1) := by decide +kernel
theorem dX4_read_10 : decode cX4_read 10 = .ok (.getfield 9, 3) := by decide +kernel
theorem dX4_read_13 : decode cX4_read 13 = .ok (.iconst 2, 1) := by decide +kernel
theorem dX4_read_14 : decode cX4_read 14 = .ok (.bipush 8, 2) := by decide +kernel
theorem dX4_read_16 : decode cX4_read 16 = .ok (.invokevirtual 27, 3) := by decide +kernel
theorem dX4_read_19 : decode cX4_read 19 = .ok (.istore_n 1, 1) := by decide +kernel
theorem dX4_read_20 : decode cX4_read 20 = .ok (.aload_n 0, 1) := by decide +kernel
theorem dX4_read_21 : decode cX4_read 21 = .ok (.getfield 9, 3) := by decide +kernel
theorem dX4_read_24 : decode cX4_read 24 = .ok (.iconst 0, 1) := by decide +kernel
theorem dX4_read_25 : decode cX4_read 25 = .ok (.ldc 31, 2) := by decide +kernel
theorem dX4_read_27 : decode cX4_read 27 = .ok (.invokevirtual 27, 3) := by decide +kernel
theorem dX4_read_30 : decode cX4_read 30 = .ok (.istore_n 2, 1) := by decide +kernel
theorem dX4_read_31 : decode cX4_read 31 = .ok (.aload_n 0, 1) := by decide +kernel
theorem dX4_read_32 : decode cX4_read 32 = .ok (.getfield 15, 3) := by decide +kernel
theorem dX4_read_35 : decode cX4_read 35 = .ok (.iload_n 1, 1) := by decide +kernel
theorem dX4_read_36 : decode cX4_read 36 = .ok (.iload_n 2, 1) := by decide +kernel
theorem dX4_read_37 : decode cX4_read 37 = .ok (.invokevirtual 32, 3) := by decide +kernel
theorem dX4_read_40 : decode cX4_read 40 = .ok (.aload_n 0, 1) := by decide +kernel
theorem dX4_read_41 : decode cX4_read 41 = .ok (.getfield 9, 3) := by decide +kernel
theorem dX4_read_44 : decode cX4_read 44 = .ok (.bipush 59, 2) := by decide +kernel
theorem dX4_read_46 : decode cX4_read 46 = .ok (.invokevirtual 38, 3) := by decide +kernel
theorem dX4_read_49 : decode cX4_read 49 = .ok (.iconst 0, 1) := by decide +kernel
theorem dX4_read_50 : decode cX4_read 50 = .ok (.istore_n 3, 1) := by decide +kernel
theorem dX4_read_51 : decode cX4_read 51 = .ok (.iload_n 3, 1) := by decide +kernel
theorem dX4_read_52 : decode cX4_read 52 = .ok (.sipush 600, 3) := by decide +kernel
theorem dX4_read_55 : decode cX4_read 55 = .ok (.if_icmp .ge 32, 3) := by decide +kernel
theorem dX4_read_58 : decode cX4_read 58 = .ok (.aload_n 0, 1) := by decide +kernel
theorem dX4_read_59 : decode cX4_read 59 = .ok (.getfield 9, 3) := by decide +kernel
theorem dX4_read_62 : decode cX4_read 62 = .ok (.invokevirtual 42, 3) := by decide +kernel
theorem dX4_read_65 : decode cX4_read 65 = .ok (.ifCond .eq 22, 3) := by decide +kernel
theorem dX4_read_68 : decode cX4_read 68 = .ok (.aload_n 0, 1) := by decide +kernel
theorem dX4_read_69 : decode cX4_read 69 = .ok (.invokevirtual 46, 3) := by decide +kernel
theorem dX4_read_72 : decode cX4_read 72 = .ok (.aload_n 0, 1) := by decide +kernel
theorem dX4_read_73 : decode cX4_read 73 = .ok (.getfield 9, 3) := by decide +kernel
theorem dX4_read_76 : decode cX4_read 76 = .ok (.bipush 59, 2) := by decide +kernel
theorem dX4_read_78 : decode cX4_read 78 = .ok (.invokevirtual 38, 3) := by decide +kernel
theorem dX4_read_81 : decode cX4_read 81 = .ok (.iinc 3 1, 3) := by decide +kernel
theorem dX4_read_84 : decode cX4_read 84 = .ok (.goto (-33), 3) := by decide +kernel
theorem dX4_read_87 : decode cX4_read 87 = .ok (.return_, 1) := by decide +kernel
theorem dX4_readClause_0 : decode cX4_readClause 0 = .ok (.aload_n 0, 1) := by decide +kernel
theorem dX4_readClause_1 : decode cX4_readClause 1 = .ok (.getfield 9, 3) := by decide +kernel
theorem dX4_readClause_4 : decode cX4_readClause 4 = .ok (.ldc 49, 2) := by decide +kernel
theorem dX4_readClause_6 : decode cX4_readClause 6 = .ok (.invokevirtual 51, 3) := by decide +kernel
theorem dX4_readClause_9 : decode cX4_readClause 9 = .ok (.ifCond .eq 10, 3) := by decide +kernel
theorem dX4_readClause_12 : decode cX4_readClause 12 = .ok (.aload_n 0, 1) := by decide +kernel
theorem dX4_readClause_13 : decode cX4_readClause 13 = .ok (.invokevirtual 55, 3) := by decide +kernel
theorem dX4_readClause_16 : decode cX4_readClause 16 = .ok (.goto 67, 3) := by decide +kernel
theorem dX4_readClause_19 : decode cX4_readClause 19 = .ok (.aload_n 0, 1) := by decide +kernel
theorem dX4_readClause_20 : decode cX4_readClause 20 = .ok (.getfield 9, 3) := by decide +kernel
theorem dX4_readClause_23 : decode cX4_readClause 23 = .ok (.ldc 58, 2) := by decide +kernel
theorem dX4_readClause_25 : decode cX4_readClause 25 = .ok (.invokevirtual 51, 3) := by decide +kernel
theorem dX4_readClause_28 : decode cX4_readClause 28 = .ok (.ifCond .eq 10, 3) := by decide +kernel
theorem dX4_readClause_31 : decode cX4_readClause 31 = .ok (.aload_n 0, 1) := by decide +kernel
theorem dX4_readClause_32 : decode cX4_readClause 32 = .ok (.invokevirtual 60, 3) := by decide +kernel
theorem dX4_readClause_35 : decode cX4_readClause 35 = .ok (.goto 48, 3) := by decide +kernel
theorem dX4_readClause_38 : decode cX4_readClause 38 = .ok (.aload_n 0, 1) := by decide +kernel
theorem dX4_readClause_39 : decode cX4_readClause 39 = .ok (.getfield 9, 3) := by decide +kernel
theorem dX4_readClause_42 : decode cX4_readClause 42 = .ok (.ldc 63, 2) := by decide +kernel
theorem dX4_readClause_44 : decode cX4_readClause 44 = .ok (.invokevirtual 21, 3) := by decide +kernel
theorem dX4_readClause_47 : decode cX4_readClause 47 = .ok (.aload_n 0, 1) := by decide +kernel
theorem dX4_readClause_48 : decode cX4_readClause 48 = .ok (.getfield 9, 3) := by decide +kernel
theorem dX4_readClause_51 : decode cX4_readClause 51 = .ok (.iconst 0, 1) := by decide +kernel
theorem dX4_readClause_52 : decode cX4_readClause 52 = .ok (.aload_n 0, 1) := by decide +kernel
theorem dX4_readClause_53 : decode cX4_readClause 53 = .ok (.getfield 15, 3) := by decide +kernel
theorem dX4_readClause_56 : decode cX4_readClause 56 = .ok (.getfield 65, 3) := by decide +kernel
theorem dX4_readClause_59 : decode cX4_readClause 59 = .ok (.iconst 1, 1) := by decide +kernel
theorem dX4_readClause_60 : decode cX4_readClause 60 = .ok (.isub, 1) := by decide +kernel
theorem dX4_readClause_61 : decode cX4_readClause 61 = .ok (.invokevirtual 27, 3) := by decide +kernel
theorem dX4_readClause_64 : decode cX4_readClause 64 = .ok (.istore_n 1, 1) := by decide +kernel
theorem dX4_readClause_65 : decode cX4_readClause 65 = .ok (.aload_n 0, 1) := by decide +kernel
theorem dX4_readClause_66 : decode cX4_readClause 66 = .ok (.getfield 15, 3) := by decide +kernel
theorem dX4_readClause_69 : decode cX4_readClause 69 = .ok (.iload_n 1, 1) := by decide +kernel
theorem dX4_readClause_70 : decode cX4_readClause 70 = .ok (.aload_n 0, 1) := by decide +kernel
theorem dX4_readClause_71 : decode cX4_readClause 71 = .ok (.getfield 9, 3) := by decide +kernel
theorem dX4_readClause_74 : decode cX4_readClause 74 = .ok (.iconst 0, 1) := by decide +kernel
theorem dX4_readClause_75 : decode cX4_readClause 75 = .ok (.ldc 31, 2) := by decide +kernel
theorem dX4_readClause_77 : decode cX4_readClause 77 = .ok (.invokevirtual 27, 3) := by decide +kernel
theorem dX4_readClause_80 : decode cX4_readClause 80 = .ok (.invokevirtual 69, 3) := by decide +kernel
theorem dX4_readClause_83 : decode cX4_readClause 83 = .ok (.return_, 1) := by decide +kernel
theorem dX4_readLeg_0 : decode cX4_readLeg 0 = .ok (.aload_n 0, 1) := by decide +kernel
theorem dX4_readLeg_1 : decode cX4_readLeg 1 = .ok (.getfield 9, 3) := by decide +kernel
theorem dX4_readLeg_4 : decode cX4_readLeg 4 = .ok (.invokevirtual 72, 3) := by decide +kernel
theorem dX4_readLeg_7 : decode cX4_readLeg 7 = .ok (.aload_n 0, 1) := by decide +kernel
theorem dX4_readLeg_8 : decode cX4_readLeg 8 = .ok (.getfield 15, 3) := by decide +kernel
theorem dX4_readLeg_11 : decode cX4_readLeg 11 = .ok (.aload_n 0, 1) := by decide +kernel
theorem dX4_readLeg_12 : decode cX4_readLeg 12 = .ok (.getfield 9, 3) := by decide +kernel
theorem dX4_readLeg_15 : decode cX4_readLeg 15 = .ok (.iconst 0, 1) := by decide +kernel
theorem dX4_readLeg_16 : decode cX4_readLeg 16 = .ok (.iconst 1, 1) := by decide +kernel
theorem dX4_readLeg_17 : decode cX4_readLeg 17 = .ok (.invokevirtual 27, 3) := by decide +kernel
theorem dX4_readLeg_20 : decode cX4_readLeg 20 = .ok (.invokevirtual 75, 3) := by decide +kernel
theorem dX4_readLeg_23 : decode cX4_readLeg 23 = .ok (.astore_n 1, 1) := by decide +kernel
theorem dX4_readLeg_24 : decode cX4_readLeg 24 = .ok (.aload_n 0, 1) := by decide +kernel
theorem dX4_readLeg_25 : decode cX4_readLeg 25 = .ok (.getfield 9, 3) := by decide +kernel
theorem dX4_readLeg_28 : decode cX4_readLeg 28 = .ok (.bipush 100, 2) := by decide +kernel
theorem dX4_readLeg_30 : decode cX4_readLeg 30 = .ok (.sipush 20000, 3) := by decide +kernel
theorem dX4_readLeg_33 : decode cX4_readLeg 33 = .ok (.invokevirtual 27, 3) := by decide +kernel
theorem dX4_readLeg_36 : decode cX4_readLeg 36 = .ok (.istore_n 2, 1) := by decide +kernel
theorem dX4_readLeg_37 : decode cX4_readLeg 37 = .ok (.aload_n 0, 1) := by decide +kernel
theorem dX4_readLeg_38 : decode cX4_readLeg 38 = .ok (.getfield 9, 3) := by decide +kernel
theorem dX4_readLeg_41 : decode cX4_readLeg 41 = .ok (.bipush 100, 2) := by decide +kernel
theorem dX4_readLeg_43 : decode cX4_readLeg 43 = .ok (.ldc 31, 2) := by decide +kernel
theorem dX4_readLeg_45 : decode cX4_readLeg 45 = .ok (.invokevirtual 27, 3) := by decide +kernel
theorem dX4_readLeg_48 : decode cX4_readLeg 48 = .ok (.istore_n 3, 1) := by decide +kernel
theorem dX4_readLeg_49 : decode cX4_readLeg 49 = .ok (.aload_n 1, 1) := by decide +kernel
theorem dX4_readLeg_50 : decode cX4_readLeg 50 = .ok (.iload_n 2, 1) := by decide +kernel
theorem dX4_readLeg_51 : decode cX4_readLeg 51 = .ok (.iload_n 3, 1) := by decide +kernel
theorem dX4_readLeg_52 : decode cX4_readLeg 52 = .ok (.aload_n 0, 1) := by decide +kernel
theorem dX4_readLeg_53 : decode cX4_readLeg 53 = .ok (.getfield 9, 3) := by decide +kernel
theorem dX4_readLeg_56 : decode cX4_readLeg 56 = .ok (.invokevirtual 79, 3) := by decide +kernel
theorem dX4_readLeg_59 : decode cX4_readLeg 59 = .ok (.invokevirtual 83, 3) := by decide +kernel
theorem dX4_readLeg_62 : decode cX4_readLeg 62 = .ok (.return_, 1) := by decide +kernel
theorem dX4_readTube_0 : decode cX4_readTube 0 = .ok (.aload_n 0, 1) := by decide +kernel
theorem dX4_readTube_1 : decode cX4_readTube 1 = .ok (.getfield 15, 3) := by decide +kernel
theorem dX4_readTube_4 : decode cX4_readTube 4 = .ok (.getfield 89, 3) := by decide +kernel
theorem dX4_readTube_7 : decode cX4_readTube 7 = .ok (.bipush 12, 2) := by decide +kernel
theorem dX4_readTube_9 : decode cX4_readTube 9 = .ok (.if_icmp .lt 12, 3) := by decide +kernel
theorem dX4_readTube_12 : decode cX4_readTube 12 = .ok (.aload_n 0, 1) := by decide +kernel
theorem dX4_readTube_13 : decode cX4_readTube 13 = .ok (.getfield 9, 3) := by decide +kernel
theorem dX4_readTube_16 : decode cX4_readTube 16 = .ok (.iconst 3, 1) := by decide +kernel
theorem dX4_readTube_17 : decode cX4_readTube 17 = .ok (.invokevirtual 92, 3) := by decide +kernel
theorem dX4_readTube_20 : decode cX4_readTube 20 = .ok (.return_, 1) := by decide +kernel
theorem dX4_readTube_21 : decode cX4_readTube 21 = .ok (.aload_n 0, 1) := by decide +kernel
theorem dX4_readTube_22 : decode cX4_readTube 22 = .ok (.getfield 9, 3) := by decide +kernel
theorem dX4_readTube_25 : decode cX4_readTube 25 = .ok (.invokevirtual 72, 3) := by decide +kernel
theorem dX4_readTube_28 : decode cX4_readTube 28 = .ok (.aload_n 0, 1) := by decide +kernel
theorem dX4_readTube_29 : decode cX4_readTube 29 = .ok (.getfield 15, 3) := by decide +kernel
theorem dX4_readTube_32 : decode cX4_readTube 32 = .ok (.invokevirtual 96, 3) := by decide +kernel
theorem dX4_readTube_35 : decode cX4_readTube 35 = .ok (.astore_n 1, 1) := by decide +kernel
theorem dX4_readTube_36 : decode cX4_readTube 36 = .ok (.aload_n 0, 1) := by decide +kernel
theorem dX4_readTube_37 : decode cX4_readTube 37 = .ok (.getfield 9, 3) := by decide +kernel
theorem dX4_readTube_40 : decode cX4_readTube 40 = .ok (.iconst 0, 1) := by decide +kernel
theorem dX4_readTube_41 : decode cX4_readTube 41 = .ok (.iconst 1, 1) := by decide +kernel
theorem dX4_readTube_42 : decode cX4_readTube 42 = .ok (.invokevirtual 27, 3) := by decide +kernel
theorem dX4_readTube_45 : decode cX4_readTube 45 = .ok (.istore_n 2, 1) := by decide +kernel
theorem dX4_readTube_46 : decode cX4_readTube 46 = .ok (.aload_n 1, 1) := by decide +kernel
theorem dX4_readTube_47 : decode cX4_readTube 47 = .ok (.iload_n 2, 1) := by decide +kernel
theorem dX4_readTube_48 : decode cX4_readTube 48 = .ok (.aload_n 0, 1) := by decide +kernel
theorem dX4_readTube_49 : decode cX4_readTube 49 = .ok (.getfield 9, 3) := by decide +kernel
theorem dX4_readTube_52 : decode cX4_readTube 52 = .ok (.iconst 0, 1) := by decide +kernel
theorem dX4_readTube_53 : decode cX4_readTube 53 = .ok (.aload_n 0, 1) := by decide +kernel
theorem dX4_readTube_54 : decode cX4_readTube 54 = .ok (.getfield 15, 3) := by decide +kernel
theorem dX4_readTube_57 : decode cX4_readTube 57 = .ok (.getfield 65, 3) := by decide +kernel
theorem dX4_readTube_60 : decode cX4_readTube 60 = .ok (.iconst 1, 1) := by decide +kernel
theorem dX4_readTube_61 : decode cX4_readTube 61 = .ok (.isub, 1) := by decide +kernel
theorem dX4_readTube_62 : decode cX4_readTube 62 = .ok (.invokevirtual 27, 3) := by decide +kernel
theorem dX4_readTube_65 : decode cX4_readTube 65 = .ok (.invokevirtual 100, 3) := by decide +kernel
theorem dX4_readTube_68 : decode cX4_readTube 68 = .ok (.aload_n 0, 1) := by decide +kernel
theorem dX4_readTube_69 : decode cX4_readTube 69 = .ok (.getfield 9, 3) := by decide +kernel
theorem dX4_readTube_72 : decode cX4_readTube 72 = .ok (.iconst 1, 1) := by decide +kernel
theorem dX4_readTube_73 : decode cX4_readTube 73 = .ok (.bipush 20, 2) := by decide +kernel
theorem dX4_readTube_75 : decode cX4_readTube 75 = .ok (.invokevirtual 27, 3) := by decide +kernel
theorem dX4_readTube_78 : decode cX4_readTube 78 = .ok (.istore_n 3, 1) := by decide +kernel
theorem dX4_readTube_79 : decode cX4_readTube 79 = .ok (.aload_n 0, 1) := by decide +kernel
theorem dX4_readTube_80 : decode cX4_readTube 80 = .ok (.getfield 9, 3) := by decide +kernel
theorem dX4_readTube_83 : decode cX4_readTube 83 = .ok (.bipush 50, 2) := by decide +kernel
theorem dX4_readTube_85 : decode cX4_readTube 85 = .ok (.sipush 1000, 3) := by decide +kernel
theorem dX4_readTube_88 : decode cX4_readTube 88 = .ok (.invokevirtual 27, 3) := by decide +kernel
theorem dX4_readTube_91 : decode cX4_readTube 91 = .ok (.istore 4, 2) := by decide +kernel
theorem dX4_readTube_93 : decode cX4_readTube 93 = .ok (.aload_n 1, 1) := by decide +kernel
theorem dX4_readTube_94 : decode cX4_readTube 94 = .ok (.iload_n 3, 1) := by decide +kernel
theorem dX4_readTube_95 : decode cX4_readTube 95 = .ok (.iload 4, 2) := by decide +kernel
theorem dX4_readTube_97 : decode cX4_readTube 97 = .ok (.aload_n 0, 1) := by decide +kernel
theorem dX4_readTube_98 : decode cX4_readTube 98 = .ok (.getfield 9, 3) := by decide +kernel
theorem dX4_readTube_101 : decode cX4_readTube 101 = .ok (.bipush 10, 2) := by decide +kernel
theorem dX4_readTube_103 : decode cX4_readTube 103 = .ok (.sipush 2000, 3) := by decide +kernel
theorem dX4_readTube_106 : decode cX4_readTube 106 = .ok (.invokevirtual 27, 3) := by decide +kernel
theorem dX4_readTube_109 : decode cX4_readTube 109 = .ok (.invokevirtual 105, 3) := by decide +kernel
theorem dX4_readTube_112 : decode cX4_readTube 112 = .ok (.aload_n 0, 1) := by decide +kernel
theorem dX4_readTube_113 : decode cX4_readTube 113 = .ok (.getfield 9, 3) := by decide +kernel
theorem dX4_readTube_116 : decode cX4_readTube 116 = .ok (.ldc 108, 2) := by decide +kernel
theorem dX4_readTube_118 : decode cX4_readTube 118 = .ok (.invokevirtual 51, 3) := by decide +kernel
theorem dX4_readTube_121 : decode cX4_readTube 121 = .ok (.ifCond .eq 21, 3) := by decide +kernel
theorem dX4_readTube_124 : decode cX4_readTube 124 = .ok (.aload_n 0, 1) := by decide +kernel
theorem dX4_readTube_125 : decode cX4_readTube 125 = .ok (.getfield 9, 3) := by decide +kernel
theorem dX4_readTube_128 : decode cX4_readTube 128 = .ok (.invokevirtual 72, 3) := by decide +kernel
theorem dX4_readTube_131 : decode cX4_readTube 131 = .ok (.aload_n 1, 1) := by decide +kernel
theorem dX4_readTube_132 : decode cX4_readTube 132 = .ok (.aload_n 0, 1) := by decide +kernel
theorem dX4_readTube_133 : decode cX4_readTube 133 = .ok (.getfield 9, 3) := by decide +kernel
theorem dX4_readTube_136 : decode cX4_readTube 136 = .ok (.invokevirtual 79, 3) := by decide +kernel
theorem dX4_readTube_139 : decode cX4_readTube 139 = .ok (.putfield 110, 3) := by decide +kernel
theorem dX4_readTube_142 : decode cX4_readTube 142 = .ok (.return_, 1) := by decide +kernel
theorem dX5_init_0 : decode cX5_init 0 = .ok (.aload_n 0, 1) := by decide +kernel
theorem dX5_init_1 : decode cX5_init 1 = .ok (.invokespecial 3, 3) := by decide +kernel
theorem dX5_init_4 : decode cX5_init 4 = .ok (.aload_n 0, 1) := by decide +kernel
theorem dX5_init_5 : decode cX5_init 5 = .ok (.sipush 600, 3) := by decide +kernel
theorem dX5_init_8 : decode cX5_init 8 = .ok (.newarray .byte, 2) := by decide +kernel
theorem dX5_init_10 : decode cX5_init 10 = .ok (.putfield 9, 3) := by decide +kernel
theorem dX5_init_13 : decode cX5_init 13 = .ok (.aload_n 0, 1) := by decide +kernel
theorem dX5_init_14 : decode cX5_init 14 = .ok (.iconst (-1), 1) := by decide +kernel
theorem dX5_init_15 : decode cX5_init 15 = .ok (.putfield 15, 3) := by decide +kernel
theorem dX5_init_18 : decode cX5_init 18 = .ok (.return_, 1) := by decide +kernel
theorem dX5_hasRoomFor_0 : decode cX5_hasRoomFor 0 = .ok (.aload_n 0, 1) := by decide +kernel
theorem dX5_hasRoomFor_1 : decode cX5_hasRoomFor 1 = .ok (.getfield 19, 3) := by decide +kernel
theorem dX5_hasRoomFor_4 : decode cX5_hasRoomFor 4 = .ok (.iload_n 1, 1) := by decide +kernel
theorem dX5_hasRoomFor_5 : decode cX5_hasRoomFor 5 = .ok (.iadd, 1) := by decide +kernel
theorem dX5_hasRoomFor_6 : decode cX5_hasRoomFor 6 = .ok (.aload_n 0, 1) := by decide +kernel
theorem dX5_hasRoomFor_7 : decode cX5_hasRoomFor 7 = .ok (.getfield 9, 3) := by decide +kernel
theorem dX5_hasRoomFor_10 : decode cX5_hasRoomFor 10 = .ok (.arraylength, 1) := by decide +kernel
theorem dX5_hasRoomFor_11 : decode cX5_hasRoomFor 11 = .ok (.if_icmp .gt 7, 3) := by decide +kernel
theorem dX5_hasRoomFor_14 : decode cX5_hasRoomFor 14 = .ok (.iconst 1, 1) := by decide +kernel
theorem dX5_hasRoomFor_15 : decode cX5_hasRoomFor 15 = .ok (.goto 4, 3) := by decide +kernel
theorem dX5_hasRoomFor_18 : decode cX5_hasRoomFor 18 = .ok (.iconst 0, 1) := by decide +kernel
theorem dX5_hasRoomFor_19 : decode cX5_hasRoomFor 19 = .ok (.ireturn, 1) := by decide +kernel
theorem dX5_append_0 : decode cX5_append 0 = .ok (.bipush 24, 2) := by decide +kernel
theorem dX5_append_2 : decode cX5_append 2 = .ok (.istore_n 2, 1) := by decide +kernel
theorem dX5_append_3 : decode cX5_append 3 = .ok (.iload_n 2, 1) := by decide +kernel
theorem dX5_append_4 : decode cX5_append 4 = .ok (.ifCond .lt 51, 3) := by decide +kernel
theorem dX5_append_7 : decode cX5_append 7 = .ok (.aload_n 0, 1) := by decide +kernel
theorem dX5_append_8 : decode cX5_append 8 = .ok (.getfield 19, 3) := by decide +kernel
theorem dX5_append_11 : decode cX5_append 11 = .ok (.ifCond .lt 38, 3) := by decide +kernel
theorem dX5_append_14 : decode cX5_append 14 = .ok (.aload_n 0, 1) := by decide +kernel
theorem dX5_append_15 : decode cX5_append 15 = .ok (.getfield 19, 3) := by decide +kernel
theorem dX5_append_18 : decode cX5_append 18 = .ok (.aload_n 0, 1) := by decide +kernel
theorem dX5_append_19 : decode cX5_append 19 = .ok (.getfield 9, 3) := by decide +kernel
theorem dX5_append_22 : decode cX5_append 22 = .ok (.arraylength, 1) := by decide +kernel
theorem dX5_append_23 : decode cX5_append 23 = .ok (.if_icmp .ge 26, 3) := by decide +kernel
theorem dX5_append_26 : decode cX5_append 26 = .ok (.aload_n 0, 1) := by decide +kernel
theorem dX5_append_27 : decode cX5_append 27 = .ok (.getfield 9, 3) := by decide +kernel
theorem dX5_append_30 : decode cX5_append 30 = .ok (.aload_n 0, 1) := by decide +kernel
theorem dX5_append_31 : decode cX5_append 31 = .ok (.getfield 19, 3) := by decide +kernel
theorem dX5_append_34 : decode cX5_append 34 = .ok (.iload_n 1, 1) := by decide +kernel
theorem dX5_append_35 : decode cX5_append 35 = .ok (.iload_n 2, 1) := by decide +kernel
theorem dX5_append_36 : decode cX5_append 36 = .ok (.ishr, 1) := by decide +kernel
theorem dX5_append_37 : decode cX5_append 37 = .ok (.i2b, 1) := by decide +kernel
theorem dX5_append_38 : decode cX5_append 38 = .ok (.bastore, 1) := by decide +kernel
theorem dX5_append_39 : decode cX5_append 39 = .ok (.aload_n 0, 1) := by decide +kernel
theorem dX5_append_40 : decode cX5_append 40 = .ok (.dup, 1) := by decide +kernel
theorem dX5_append_41 : decode cX5_append 41 = .ok (.getfield 19, 3) := by decide +kernel
theorem dX5_append_44 : decode cX5_append 44 = .ok (.iconst 1, 1) := by decide +kernel
theorem dX5_append_45 : decode cX5_append 45 = .ok (.iadd, 1) := by decide +kernel
theorem dX5_append_46 : decode cX5_append 46 = .ok (.putfield 19, 3) := by decide +kernel
theorem dX5_append_49 : decode cX5_append 49 = .ok (.iinc 2 (-8), 3) := by decide +kernel
theorem dX5_append_52 : decode cX5_append 52 = .ok (.goto (-49), 3) := by decide +kernel
theorem dX5_append_55 : decode cX5_append 55 = .ok (.return_, 1) := by decide +kernel
theorem dX5_empty_0 : decode cX5_empty 0 = .ok (.aload_n 0, 1) := by decide +kernel
theorem dX5_empty_1 : decode cX5_empty 1 = .ok (.iconst 0, 1) := by decide +kernel
theorem dX5_empty_2 : decode cX5_empty 2 = .ok (.putfield 19, 3) := by decide +kernel
theorem dX5_empty_5 : decode cX5_empty 5 = .ok (.return_, 1) := by decide +kernel
theorem dX5_begin_0 : decode cX5_begin 0 = .ok (.aload_n 0, 1) := by decide +kernel
theorem dX5_begin_1 : decode cX5_begin 1 = .ok (.iload_n 1, 1) := by decide +kernel
theorem dX5_begin_2 : decode cX5_begin 2 = .ok (.aload_n 0, 1) := by decide +kernel
theorem dX5_begin_3 : decode cX5_begin 3 = .ok (.getfield 9, 3) := by decide +kernel
theorem dX5_begin_6 : decode cX5_begin 6 = .ok (.arraylength, 1) := by decide +kernel
theorem dX5_begin_7 : decode cX5_begin 7 = .ok (.invokestatic 22, 3) := by decide +kernel
theorem dX5_begin_10 : decode cX5_begin 10 = .ok (.putfield 28, 3) := by decide +kernel
theorem dX5_begin_13 : decode cX5_begin 13 = .ok (.aload_n 0, 1) := by decide +kernel
theorem dX5_begin_14 : decode cX5_begin 14 = .ok (.iconst 0, 1) := by decide +kernel
theorem dX5_begin_15 : decode cX5_begin 15 = .ok (.putfield 31, 3) := by decide +kernel
theorem dX5_begin_18 : decode cX5_begin 18 = .ok (.aload_n 0, 1) := by decide +kernel
theorem dX5_begin_19 : decode cX5_begin 19 = .ok (.iconst 0, 1) := by decide +kernel
theorem dX5_begin_20 : decode cX5_begin 20 = .ok (.putfield 34, 3) := by decide +kernel
theorem dX5_begin_23 : decode cX5_begin 23 = .ok (.aload_n 0, 1) := by decide +kernel
theorem dX5_begin_24 : decode cX5_begin 24 = .ok (.iconst (-1), 1) := by decide +kernel
theorem dX5_begin_25 : decode cX5_begin 25 = .ok (.putfield 15, 3) := by decide +kernel
theorem dX5_begin_28 : decode cX5_begin 28 = .ok (.aload_n 0, 1) := by decide +kernel
theorem dX5_begin_29 : decode cX5_begin 29 = .ok (.invokevirtual 37, 3) := by decide +kernel
theorem dX5_begin_32 : decode cX5_begin 32 = .ok (.return_, 1) := by decide +kernel
theorem dX5_advance_0 : decode cX5_advance 0 = .ok (.aload_n 0, 1) := by decide +kernel
theorem dX5_advance_1 : decode cX5_advance 1 = .ok (.getfield 31, 3) := by decide +kernel
theorem dX5_advance_4 : decode cX5_advance 4 = .ok (.aload_n 0, 1) := by decide +kernel
theorem dX5_advance_5 : decode cX5_advance 5 = .ok (.getfield 28, 3) := by decide +kernel
theorem dX5_advance_8 : decode cX5_advance 8 = .ok (.if_icmp .ge 42, 3) := by decide +kernel
theorem dX5_advance_11 : decode cX5_advance 11 = .ok (.aload_n 0, 1) := by decide +kernel
theorem dX5_advance_12 : decode cX5_advance 12 = .ok (.aload_n 0, 1) := by decide +kernel
theorem dX5_advance_13 : decode cX5_advance 13 = .ok (.getfield 31, 3) := by decide +kernel
theorem dX5_advance_16 : decode cX5_advance 16 = .ok (.invokevirtual 40, 3) := by decide +kernel
theorem dX5_advance_19 : decode cX5_advance 19 = .ok (.bipush 32, 2) := by decide +kernel
theorem dX5_advance_21 : decode cX5_advance 21 = .ok (.if_icmp .eq 16, 3) := by decide +kernel
theorem dX5_advance_24 : decode cX5_advance 24 = .ok (.aload_n 0, 1) := by decide +kernel
theorem dX5_advance_25 : decode cX5_advance 25 = .ok (.aload_n 0, 1) := by decide +kernel
theorem dX5_advance_26 : decode cX5_advance 26 = .ok (.getfield 31, 3) := by decide +kernel
theorem dX5_advance_29 : decode cX5_advance 29 = .ok (.invokevirtual 40, 3) := by decide +kernel
theorem dX5_advance_32 : decode cX5_advance 32 = .ok (.bipush 10, 2) := by decide +kernel
theorem dX5_advance_34 : decode cX5_advance 34 = .ok (.if_icmp .ne 16, 3) := by decide +kernel
theorem dX5_advance_37 : decode cX5_advance 37 = .ok (.aload_n 0, 1) := by decide +kernel
theorem dX5_advance_38 : decode cX5_advance 38 = .ok (.dup, 1) := by decide +kernel
theorem dX5_advance_39 : decode cX5_advance 39 = .ok (.getfield 31, 3) := by decide +kernel
theorem dX5_advance_42 : decode cX5_advance 42 = .ok (.iconst 1, 1) := by decide +kernel
theorem dX5_advance_43 : decode cX5_advance 43 = .ok (.iadd, 1) := by decide +kernel
theorem dX5_advance_44 : decode cX5_advance 44 = .ok (.putfield 31, 3) := by decide +kernel
theorem dX5_advance_47 : decode cX5_advance 47 = .ok (.goto (-47), 3) := by decide +kernel
theorem dX5_advance_50 : decode cX5_advance 50 = .ok (.aload_n 0, 1) := by decide +kernel
theorem dX5_advance_51 : decode cX5_advance 51 = .ok (.aload_n 0, 1) := by decide +kernel
theorem dX5_advance_52 : decode cX5_advance 52 = .ok (.getfield 31, 3) := by decide +kernel
theorem dX5_advance_55 : decode cX5_advance 55 = .ok (.putfield 44, 3) := by decide +kernel
theorem dX5_advance_58 : decode cX5_advance 58 = .ok (.aload_n 0, 1) := by decide +kernel
theorem dX5_advance_59 : decode cX5_advance 59 = .ok (.iconst 0, 1) := by decide +kernel
theorem dX5_advance_60 : decode cX5_advance 60 = .ok (.putfield 47, 3) := by decide +kernel
theorem dX5_advance_63 : decode cX5_advance 63 = .ok (.aload_n 0, 1) := by decide +kernel
theorem dX5_advance_64 : decode cX5_advance 64 = .ok (.getfield 31, 3) := by decide +kernel
theorem dX5_advance_67 : decode cX5_advance 67 = .ok (.aload_n 0, 1) := by decide +kernel
theorem dX5_advance_68 : decode cX5_advance 68 = .ok (.getfield 28, 3) := by decide +kernel
theorem dX5_advance_71 : decode cX5_advance 71 = .ok (.if_icmp .lt 11, 3) := by decide +kernel
theorem dX5_advance_74 : decode cX5_advance 74 = .ok (.aload_n 0, 1) := by decide +kernel
theorem dX5_advance_75 : decode cX5_advance 75 = .ok (.iconst 0, 1) := by decide +kernel
theorem dX5_advance_76 : decode cX5_advance 76 = .ok (.putfield 50, 3) := by decide +kernel
theorem dX5_advance_79 : decode cX5_advance 79 = .ok (.goto 171, 3) := by decide +kernel
theorem dX5_advance_82 : decode cX5_advance 82 = .ok (.aload_n 0, 1) := by decide +kernel
theorem dX5_advance_83 : decode cX5_advance 83 = .ok (.aload_n 0, 1) := by decide +kernel
theorem dX5_advance_84 : decode cX5_advance 84 = .ok (.getfield 31, 3) := by decide +kernel
theorem dX5_advance_87 : decode cX5_advance 87 = .ok (.invokevirtual 40, 3) := by decide +kernel
theorem dX5_advance_90 : decode cX5_advance 90 = .ok (.invokestatic 53, 3) := by decide +kernel
theorem dX5_advance_93 : decode cX5_advance 93 = .ok (.ifCond .eq 46, 3) := by decide +kernel
theorem dX5_advance_96 : decode cX5_advance 96 = .ok (.aload_n 0, 1) := by decide +kernel
theorem dX5_advance_97 : decode cX5_advance 97 = .ok (.iconst 1, 1) := by decide +kernel
theorem dX5_advance_98 : decode cX5_advance 98 = .ok (.putfield 50, 3) := by decide +kernel
theorem dX5_advance_101 : decode cX5_advance 101 = .ok (.aload_n 0, 1) := by decide +kernel
theorem dX5_advance_102 : decode cX5_advance 102 = .ok (.getfield 31, 3) := by decide +kernel
theorem dX5_advance_105 : decode cX5_advance 105 = .ok (.aload_n 0, 1) := by decide +kernel
theorem dX5_advance_106 : decode cX5_advance 106 = .ok (.getfield 28, 3) := by decide +kernel
theorem dX5_advance_109 : decode cX5_advance 109 = .ok (.if_icmp .ge 141, 3) := by decide +kernel
theorem dX5_advance_112 : decode cX5_advance 112 = .ok (.aload_n 0, 1) := by decide +kernel
theorem dX5_advance_113 : decode cX5_advance 113 = .ok (.aload_n 0, 1) := by decide +kernel
theorem dX5_advance_114 : decode cX5_advance 114 = .ok (.getfield 31, 3) := by decide +kernel
theorem dX5_advance_117 : decode cX5_advance 117 = .ok (.invokevirtual 40, 3) := by decide +kernel
theorem dX5_advance_120 : decode cX5_advance 120 = .ok (.invokestatic 53, 3) := by decide +kernel
theorem dX5_advance_123 : decode cX5_advance 123 = .ok (.ifCond .eq 127, 3) := by decide +kernel
theorem dX5_advance_126 : decode cX5_advance 126 = .ok (.aload_n 0, 1) := by decide +kernel
theorem dX5_advance_127 : decode cX5_advance 127 = .ok (.dup, 1) := by decide +kernel
theorem dX5_advance_128 : decode cX5_advance 128 = .ok (.getfield 31, 3) := by decide +kernel
theorem dX5_advance_131 : decode cX5_advance 131 = .ok (.iconst 1, 1) := by decide +kernel
theorem dX5_advance_132 : decode cX5_advance 132 = .ok (.iadd, 1) := by decide +kernel
theorem dX5_advance_133 : decode cX5_advance 133 = .ok (.putfield 31, 3) := by decide +kernel
theorem dX5_advance_136 : decode cX5_advance 136 = .ok (.goto (-35), 3) := by decide +kernel
theorem dX5_advance_139 : decode cX5_advance 139 = .ok (.aload_n 0, 1) := by decide +kernel
theorem dX5_advance_140 : decode cX5_advance 140 = .ok (.aload_n 0, 1) := by decide +kernel
theorem dX5_advance_141 : decode cX5_advance 141 = .ok (.getfield 31, 3) := by decide +kernel
theorem dX5_advance_144 : decode cX5_advance 144 = .ok (.invokevirtual 40, 3) := by decide +kernel
theorem dX5_advance_147 : decode cX5_advance 147 = .ok (.invokestatic 57, 3) := by decide +kernel
theorem dX5_advance_150 : decode cX5_advance 150 = .ok (.ifCond .eq 85, 3) := by decide +kernel
theorem dX5_advance_153 : decode cX5_advance 153 = .ok (.aload_n 0, 1) := by decide +kernel
theorem dX5_advance_154 : decode cX5_advance 154 = .ok (.iconst 2, 1) := by decide +kernel
theorem dX5_advance_155 : decode cX5_advance 155 = .ok (.putfield 50, 3) := by decide +kernel
theorem dX5_advance_158 : decode cX5_advance 158 = .ok (.aload_n 0, 1) := by decide +kernel
theorem dX5_advance_159 : decode cX5_advance 159 = .ok (.getfield 31, 3) := by decide +kernel
theorem dX5_advance_162 : decode cX5_advance 162 = .ok (.aload_n 0, 1) := by decide +kernel
theorem dX5_advance_163 : decode cX5_advance 163 = .ok (.getfield 28, 3) := by decide +kernel
theorem dX5_advance_166 : decode cX5_advance 166 = .ok (.if_icmp .ge 84, 3) := by decide +kernel
theorem dX5_advance_169 : decode cX5_advance 169 = .ok (.aload_n 0, 1) := by decide +kernel
theorem dX5_advance_170 : decode cX5_advance 170 = .ok (.aload_n 0, 1) := by decide +kernel
theorem dX5_advance_171 : decode cX5_advance 171 = .ok (.getfield 31, 3) := by decide +kernel
theorem dX5_advance_174 : decode cX5_advance 174 = .ok (.invokevirtual 40, 3) := by decide +kernel
theorem dX5_advance_177 : decode cX5_advance 177 = .ok (.invokestatic 57, 3) := by decide +kernel
theorem dX5_advance_180 : decode cX5_advance 180 = .ok (.ifCond .eq 70, 3) := by decide +kernel
theorem dX5_advance_183 : decode cX5_advance 183 = .ok (.aload_n 0, 1) := by decide +kernel
theorem dX5_advance_184 : decode cX5_advance 184 = .ok (.aload_n 0, 1) := by decide +kernel
theorem dX5_advance_185 : decode cX5_advance 185 = .ok (.getfield 47, 3) := by decide +kernel
theorem dX5_advance_188 : decode cX5_advance 188 = .ok (.ldc 60, 2) := by decide +kernel
theorem dX5_advance_190 : decode cX5_advance 190 = .ok (.if_icmp .le 10, 3) := by decide +kernel
theorem dX5_advance_193 : decode cX5_advance 193 = .ok (.aload_n 0, 1) := by decide +kernel
theorem dX5_advance_194 : decode cX5_advance 194 = .ok (.getfield 47, 3) := by decide +kernel
theorem dX5_advance_197 : decode cX5_advance 197 = .ok (.goto 22, 3) := by decide +kernel
theorem dX5_advance_200 : decode cX5_advance 200 = .ok (.aload_n 0, 1) := by decide +kernel
theorem dX5_advance_201 : decode cX5_advance 201 = .ok (.getfield 47, 3) := by decide +kernel
theorem dX5_advance_204 : decode cX5_advance 204 = .ok (.bipush 10, 2) := by decide +kernel
theorem dX5_advance_206 : decode cX5_advance 206 = .ok (.imul, 1) := by decide +kernel
theorem dX5_advance_207 : decode cX5_advance 207 = .ok (.aload_n 0, 1) := by decide +kernel
theorem dX5_advance_208 : decode cX5_advance 208 = .ok (.aload_n 0, 1) := by decide +kernel
theorem dX5_advance_209 : decode cX5_advance 209 = .ok (.getfield 31, 3) := by decide +kernel
theorem dX5_advance_212 : decode cX5_advance 212 = .ok (.invokevirtual 40, 3) := by decide +kernel
theorem dX5_advance_215 : decode cX5_advance 215 = .ok (.iadd, 1) := by decide +kernel
theorem dX5_advance_216 : decode cX5_advance 216 = .ok (.bipush 48, 2) := by decide +kernel
theorem dX5_advance_218 : decode cX5_advance 218 = .ok (.isub, 1) := by decide +kernel
theorem dX5_advance_219 : decode cX5_advance 219 = .ok (.putfield 47, 3) := by decide +kernel
theorem dX5_advance_222 : decode cX5_advance 222 = .ok (.aload_n 0, 1) := by decide +kernel
theorem dX5_advance_223 : decode cX5_advance 223 = .ok (.dup, 1) := by decide +kernel
theorem dX5_advance_224 : decode cX5_advance 224 = .ok (.getfield 31, 3) := by decide +kernel
theorem dX5_advance_227 : decode cX5_advance 227 = .ok (.iconst 1, 1) := by decide +kernel
theorem dX5_advance_228 : decode cX5_advance 228 = .ok (.iadd, 1) := by decide +kernel
theorem dX5_advance_229 : decode cX5_advance 229 = .ok (.putfield 31, 3) := by decide +kernel
theorem dX5_advance_232 : decode cX5_advance 232 = .ok (.goto (-74), 3) := by decide +kernel
theorem dX5_advance_235 : decode cX5_advance 235 = .ok (.aload_n 0, 1) := by decide +kernel
theorem dX5_advance_236 : decode cX5_advance 236 = .ok (.iconst 3, 1) := by decide +kernel
theorem dX5_advance_237 : decode cX5_advance 237 = .ok (.putfield 50, 3) := by decide +kernel
theorem dX5_advance_240 : decode cX5_advance 240 = .ok (.aload_n 0, 1) := by decide +kernel
theorem dX5_advance_241 : decode cX5_advance 241 = .ok (.dup, 1) := by decide +kernel
theorem dX5_advance_242 : decode cX5_advance 242 = .ok (.getfield 31, 3) := by decide +kernel
theorem dX5_advance_245 : decode cX5_advance 245 = .ok (.iconst 1, 1) := by decide +kernel
theorem dX5_advance_246 : decode cX5_advance 246 = .ok (.iadd, 1) := by decide +kernel
theorem dX5_advance_247 : decode cX5_advance 247 = .ok (.putfield 31, 3) := by decide +kernel
theorem dX5_advance_250 : decode cX5_advance 250 = .ok (.return_, 1) := by decide +kernel
theorem dX5_byteAt_0 : decode cX5_byteAt 0 = .ok (.iload_n 1, 1) := by decide +kernel
theorem dX5_byteAt_1 : decode cX5_byteAt 1 = .ok (.ifCond .lt 21, 3) := by decide +kernel
theorem dX5_byteAt_4 : decode cX5_byteAt 4 = .ok (.iload_n 1, 1) := by decide +kernel
theorem dX5_byteAt_5 : decode cX5_byteAt 5 = .ok (.aload_n 0, 1) := by decide +kernel
theorem dX5_byteAt_6 : decode cX5_byteAt 6 = .ok (.getfield 9, 3) := by decide +kernel
theorem dX5_byteAt_9 : decode cX5_byteAt 9 = .ok (.arraylength, 1) := by decide +kernel
theorem dX5_byteAt_10 : decode cX5_byteAt 10 = .ok (.if_icmp .ge 12, 3) := by decide +kernel
theorem dX5_byteAt_13 : decode cX5_byteAt 13 = .ok (.aload_n 0, 1) := by decide +kernel
theorem dX5_byteAt_14 : decode cX5_byteAt 14 = .ok (.getfield 9, 3) := by decide +kernel
theorem dX5_byteAt_17 : decode cX5_byteAt 17 = .ok (.iload_n 1, 1) := by decide +kernel
theorem dX5_byteAt_18 : decode cX5_byteAt 18 = .ok (.baload, 1) := by decide +kernel
theorem dX5_byteAt_19 : decode cX5_byteAt 19 = .ok (.goto 4, 3) := by decide +kernel
theorem dX5_byteAt_22 : decode cX5_byteAt 22 = .ok (.iconst 0, 1) := by decide +kernel
theorem dX5_byteAt_23 : decode cX5_byteAt 23 = .ok (.ireturn, 1) := by decide +kernel
theorem dX5_isLetter_0 : decode cX5_isLetter 0 = .ok (.iload_n 0, 1) := by decide +kernel
theorem dX5_isLetter_1 : decode cX5_isLetter 1 = .ok (.bipush 97, 2) := by decide +kernel
theorem dX5_isLetter_3 : decode cX5_isLetter 3 = .ok (.if_icmp .lt 13, 3) := by decide +kernel
theorem dX5_isLetter_6 : decode cX5_isLetter 6 = .ok (.iload_n 0, 1) := by decide +kernel
theorem dX5_isLetter_7 : decode cX5_isLetter 7 = .ok (.bipush 122, 2) := by decide +kernel
theorem dX5_isLetter_9 : decode cX5_isLetter 9 = .ok (.if_icmp .gt 7, 3) := by decide +kernel
theorem dX5_isLetter_12 : decode cX5_isLetter 12 = .ok (.iconst 1, 1) := by decide +kernel
theorem dX5_isLetter_13 : decode cX5_isLetter 13 = .ok (.goto 4, 3) := by decide +kernel
theorem dX5_isLetter_16 : decode cX5_isLetter 16 = .ok (.iconst 0, 1) := by decide +kernel
theorem dX5_isLetter_17 : decode cX5_isLetter 17 = .ok (.ireturn, 1) := by decide +kernel
theorem dX5_isDigit_0 : decode cX5_isDigit 0 = .ok (.iload_n 0, 1) := by decide +kernel
theorem dX5_isDigit_1 : decode cX5_isDigit 1 = .ok (.bipush 48, 2) := by decide +kernel
theorem dX5_isDigit_3 : decode cX5_isDigit 3 = .ok (.if_icmp .lt 13, 3) := by decide +kernel
theorem dX5_isDigit_6 : decode cX5_isDigit 6 = .ok (.iload_n 0, 1) := by decide +kernel
theorem dX5_isDigit_7 : decode cX5_isDigit 7 = .ok (.bipush 57, 2) := by decide +kernel
theorem dX5_isDigit_9 : decode cX5_isDigit 9 = .ok (.if_icmp .gt 7, 3) := by decide +kernel
theorem dX5_isDigit_12 : decode cX5_isDigit 12 = .ok (.iconst 1, 1) := by decide +kernel
theorem dX5_isDigit_13 : decode cX5_isDigit 13 = .ok (.goto 4, 3) := by decide +kernel
theorem dX5_isDigit_16 : decode cX5_isDigit 16 = .ok (.iconst 0, 1) := by decide +kernel
theorem dX5_isDigit_17 : decode cX5_isDigit 17 = .ok (.ireturn, 1) := by decide +kernel
theorem dX5_fail_0 : decode cX5_fail 0 = .ok (.aload_n 0, 1) := by decide +kernel
theorem dX5_fail_1 : decode cX5_fail 1 = .ok (.getfield 34, 3) := by decide +kernel
theorem dX5_fail_4 : decode cX5_fail 4 = .ok (.ifCond .ne 16, 3) := by decide +kernel
theorem dX5_fail_7 : decode cX5_fail 7 = .ok (.aload_n 0, 1) := by decide +kernel
theorem dX5_fail_8 : decode cX5_fail 8 = .ok (.iload_n 1, 1) := by decide +kernel
theorem dX5_fail_9 : decode cX5_fail 9 = .ok (.putfield 34, 3) := by decide +kernel
theorem dX5_fail_12 : decode cX5_fail 12 = .ok (.aload_n 0, 1) := by decide +kernel
theorem dX5_fail_13 : decode cX5_fail 13 = .ok (.aload_n 0, 1) := by decide +kernel
theorem dX5_fail_14 : decode cX5_fail 14 = .ok (.getfield 44, 3) := by decide +kernel
theorem dX5_fail_17 : decode cX5_fail 17 = .ok (.putfield 15, 3) := by decide +kernel
theorem dX5_fail_20 : decode cX5_fail 20 = .ok (.return_, 1) := by decide +kernel
theorem dX5_goesOn_0 : decode cX5_goesOn 0 = .ok (.aload_n 0, 1) := by decide +kernel
theorem dX5_goesOn_1 : decode cX5_goesOn 1 = .ok (.getfield 34, 3) := by decide +kernel
theorem dX5_goesOn_4 : decode cX5_goesOn 4 = .ok (.ifCond .ne 14, 3) := by decide +kernel
theorem dX5_goesOn_7 : decode cX5_goesOn 7 = .ok (.aload_n 0, 1) := by decide +kernel
theorem dX5_goesOn_8 : decode cX5_goesOn 8 = .ok (.getfield 50, 3) := by decide +kernel
theorem dX5_goesOn_11 : decode cX5_goesOn 11 = .ok (.ifCond .eq 7, 3) := by decide +kernel
theorem dX5_goesOn_14 : decode cX5_goesOn 14 = .ok (.iconst 1, 1) := by decide +kernel
theorem dX5_goesOn_15 : decode cX5_goesOn 15 = .ok (.goto 4, 3) := by decide +kernel
theorem dX5_goesOn_18 : decode cX5_goesOn 18 = .ok (.iconst 0, 1) := by decide +kernel
theorem dX5_goesOn_19 : decode cX5_goesOn 19 = .ok (.ireturn, 1) := by decide +kernel
theorem dX5_isWord_0 : decode cX5_isWord 0 = .ok (.aload_n 0, 1) := by decide +kernel
theorem dX5_isWord_1 : decode cX5_isWord 1 = .ok (.getfield 50, 3) := by decide +kernel
theorem dX5_isWord_4 : decode cX5_isWord 4 = .ok (.iconst 1, 1) := by decide +kernel
theorem dX5_isWord_5 : decode cX5_isWord 5 = .ok (.if_icmp .ne 23, 3) := by decide +kernel
theorem dX5_isWord_8 : decode cX5_isWord 8 = .ok (.aload_n 0, 1) := by decide +kernel
theorem dX5_isWord_9 : decode cX5_isWord 9 = .ok (.getfield 31, 3) := by decide +kernel
theorem dX5_isWord_12 : decode cX5_isWord 12 = .ok (.aload_n 0, 1) := by decide +kernel
theorem dX5_isWord_13 : decode cX5_isWord 13 = .ok (.getfield 44, 3) := by decide +kernel
theorem dX5_isWord_16 : decode cX5_isWord 16 = .ok (.isub, 1) := by decide +kernel
theorem dX5_isWord_17 : decode cX5_isWord 17 = .ok (.aload_n 1, 1) := by decide +kernel
theorem dX5_isWord_18 : decode cX5_isWord 18 = .ok (.invokevirtual 61, 3) := by decide +kernel
theorem dX5_isWord_21 : decode cX5_isWord 21 = .ok (.if_icmp .ne 7, 3) := by decide +kernel
theorem dX5_isWord_24 : decode cX5_isWord 24 = .ok (.iconst 1, 1) := by decide +kernel
theorem dX5_isWord_25 : decode cX5_isWord 25 = .ok (.goto 4, 3) := by decide +kernel
theorem dX5_isWord_28 : decode cX5_isWord 28 = .ok (.iconst 0, 1) := by decide +kernel
theorem dX5_isWord_29 : decode cX5_isWord 29 = .ok (.istore_n 2, 1) := by decide +kernel
theorem dX5_isWord_30 : decode cX5_isWord 30 = .ok (.iconst 0, 1) := by decide +kernel
theorem dX5_isWord_31 : decode cX5_isWord 31 = .ok (.istore_n 3, 1) := by decide +kernel
theorem dX5_isWord_32 : decode cX5_isWord 32 = .ok (.iload_n 3, 1) := by decide +kernel
theorem dX5_isWord_33 : decode cX5_isWord 33 = .ok (.aload_n 1, 1) := by decide +kernel
theorem dX5_isWord_34 : decode cX5_isWord 34 = .ok (.invokevirtual 61, 3) := by decide +kernel
theorem dX5_isWord_37 : decode cX5_isWord 37 = .ok (.if_icmp .ge 57, 3) := by decide +kernel
theorem dX5_isWord_40 : decode cX5_isWord 40 = .ok (.iload_n 2, 1) := by decide +kernel
theorem dX5_isWord_41 : decode cX5_isWord 41 = .ok (.ifCond .eq 53, 3) := by decide +kernel
theorem dX5_isWord_44 : decode cX5_isWord 44 = .ok (.aload_n 0, 1) := by decide +kernel
theorem dX5_isWord_45 : decode cX5_isWord 45 = .ok (.getfield 44, 3) := by decide +kernel
theorem dX5_isWord_48 : decode cX5_isWord 48 = .ok (.iload_n 3, 1) := by decide +kernel
theorem dX5_isWord_49 : decode cX5_isWord 49 = .ok (.iadd, 1) := by decide +kernel
theorem dX5_isWord_50 : decode cX5_isWord 50 = .ok (.istore 4, 2) := by decide +kernel
theorem dX5_isWord_52 : decode cX5_isWord 52 = .ok (.iload 4, 2) := by decide +kernel
theorem dX5_isWord_54 : decode cX5_isWord 54 = .ok (.ifCond .lt 32, 3) := by decide +kernel
theorem dX5_isWord_57 : decode cX5_isWord 57 = .ok (.iload 4, 2) := by decide +kernel
theorem dX5_isWord_59 : decode cX5_isWord 59 = .ok (.aload_n 0, 1) := by decide +kernel
theorem dX5_isWord_60 : decode cX5_isWord 60 = .ok (.getfield 9, 3) := by decide +kernel
theorem dX5_isWord_63 : decode cX5_isWord 63 = .ok (.arraylength, 1) := by decide +kernel
theorem dX5_isWord_64 : decode cX5_isWord 64 = .ok (.if_icmp .ge 22, 3) := by decide +kernel
theorem dX5_isWord_67 : decode cX5_isWord 67 = .ok (.aload_n 0, 1) := by decide +kernel
theorem dX5_isWord_68 : decode cX5_isWord 68 = .ok (.getfield 9, 3) := by decide +kernel
theorem dX5_isWord_71 : decode cX5_isWord 71 = .ok (.iload 4, 2) := by decide +kernel
theorem dX5_isWord_73 : decode cX5_isWord 73 = .ok (.baload, 1) := by decide +kernel
theorem dX5_isWord_74 : decode cX5_isWord 74 = .ok (.aload_n 1, 1) := by decide +kernel
theorem dX5_isWord_75 : decode cX5_isWord 75 = .ok (.iload_n 3, 1) := by decide +kernel
theorem dX5_isWord_76 : decode cX5_isWord 76 = .ok (.invokevirtual 67, 3) := by decide +kernel
theorem dX5_isWord_79 : decode cX5_isWord 79 = .ok (.if_icmp .ne 7, 3) := by decide +kernel
theorem dX5_isWord_82 : decode cX5_isWord 82 = .ok (.iconst 1, 1) := by decide +kernel
theorem dX5_isWord_83 : decode cX5_isWord 83 = .ok (.goto 4, 3) := by decide +kernel
theorem dX5_isWord_86 : decode cX5_isWord 86 = .ok (.iconst 0, 1) := by decide +kernel
theorem dX5_isWord_87 : decode cX5_isWord 87 = .ok (.istore_n 2, 1) := by decide +kernel
theorem dX5_isWord_88 : decode cX5_isWord 88 = .ok (.iinc 3 1, 3) := by decide +kernel
theorem dX5_isWord_91 : decode cX5_isWord 91 = .ok (.goto (-59), 3) := by decide +kernel
theorem dX5_isWord_94 : decode cX5_isWord 94 = .ok (.iload_n 2, 1) := by decide +kernel
theorem dX5_isWord_95 : decode cX5_isWord 95 = .ok (.ireturn, 1) := by decide +kernel
theorem dX5_isSign_0 : decode cX5_isSign 0 = .ok (.aload_n 0, 1) := by decide +kernel
theorem dX5_isSign_1 : decode cX5_isSign 1 = .ok (.getfield 50, 3) := by decide +kernel
theorem dX5_isSign_4 : decode cX5_isSign 4 = .ok (.iconst 3, 1) := by decide +kernel
theorem dX5_isSign_5 : decode cX5_isSign 5 = .ok (.if_icmp .ne 19, 3) := by decide +kernel
theorem dX5_isSign_8 : decode cX5_isSign 8 = .ok (.aload_n 0, 1) := by decide +kernel
theorem dX5_isSign_9 : decode cX5_isSign 9 = .ok (.aload_n 0, 1) := by decide +kernel
theorem dX5_isSign_10 : decode cX5_isSign 10 = .ok (.getfield 44, 3) := by decide +kernel
theorem dX5_isSign_13 : decode cX5_isSign 13 = .ok (.invokevirtual 40, 3) := by decide +kernel
theorem dX5_isSign_16 : decode cX5_isSign 16 = .ok (.iload_n 1, 1) := by decide +kernel
theorem dX5_isSign_17 : decode cX5_isSign 17 = .ok (.if_icmp .ne 7, 3) := by decide +kernel
theorem dX5_isSign_20 : decode cX5_isSign 20 = .ok (.iconst 1, 1) := by decide +kernel
theorem dX5_isSign_21 : decode cX5_isSign 21 = .ok (.goto 4, 3) := by decide +kernel
theorem dX5_isSign_24 : decode cX5_isSign 24 = .ok (.iconst 0, 1) := by decide +kernel
theorem dX5_isSign_25 : decode cX5_isSign 25 = .ok (.ireturn, 1) := by decide +kernel
theorem dX5_takeWord_0 : decode cX5_takeWord 0 = .ok (.aload_n 0, 1) := by decide +kernel
theorem dX5_takeWord_1 : decode cX5_takeWord 1 = .ok (.aload_n 1, 1) := by decide +kernel
theorem dX5_takeWord_2 : decode cX5_takeWord 2 = .ok (.invokevirtual 71, 3) := by decide +kernel
theorem dX5_takeWord_5 : decode cX5_takeWord 5 = .ok (.ifCond .eq 10, 3) := by decide +kernel
theorem dX5_takeWord_8 : decode cX5_takeWord 8 = .ok (.aload_n 0, 1) := by decide +kernel
theorem dX5_takeWord_9 : decode cX5_takeWord 9 = .ok (.invokevirtual 37, 3) := by decide +kernel
theorem dX5_takeWord_12 : decode cX5_takeWord 12 = .ok (.goto 8, 3) := by decide +kernel
theorem dX5_takeWord_15 : decode cX5_takeWord 15 = .ok (.aload_n 0, 1) := by decide +kernel
theorem dX5_takeWord_16 : decode cX5_takeWord 16 = .ok (.iconst 1, 1) := by decide +kernel
theorem dX5_takeWord_17 : decode cX5_takeWord 17 = .ok (.invokevirtual 75, 3) := by decide +kernel
theorem dX5_takeWord_20 : decode cX5_takeWord 20 = .ok (.return_, 1) := by decide +kernel
theorem dX5_takeSign_0 : decode cX5_takeSign 0 = .ok (.aload_n 0, 1) := by decide +kernel
theorem dX5_takeSign_1 : decode cX5_takeSign 1 = .ok (.iload_n 1, 1) := by decide +kernel
theorem dX5_takeSign_2 : decode cX5_takeSign 2 = .ok (.invokevirtual 79, 3) := by decide +kernel
theorem dX5_takeSign_5 : decode cX5_takeSign 5 = .ok (.ifCond .eq 10, 3) := by decide +kernel
theorem dX5_takeSign_8 : decode cX5_takeSign 8 = .ok (.aload_n 0, 1) := by decide +kernel
theorem dX5_takeSign_9 : decode cX5_takeSign 9 = .ok (.invokevirtual 37, 3) := by decide +kernel
theorem dX5_takeSign_12 : decode cX5_takeSign 12 = .ok (.goto 8, 3) := by decide +kernel
theorem dX5_takeSign_15 : decode cX5_takeSign 15 = .ok (.aload_n 0, 1) := by decide +kernel
theorem dX5_takeSign_16 : decode cX5_takeSign 16 = .ok (.iconst 1, 1) := by decide +kernel
theorem dX5_takeSign_17 : decode cX5_takeSign 17 = .ok (.invokevirtual 75, 3) := by decide +kernel
theorem dX5_takeSign_20 : decode cX5_takeSign 20 = .ok (.return_, 1) := by decide +kernel
theorem dX5_takeEnd_0 : decode cX5_takeEnd 0 = .ok (.aload_n 0, 1) := by decide +kernel
theorem dX5_takeEnd_1 : decode cX5_takeEnd 1 = .ok (.getfield 50, 3) := by decide +kernel
theorem dX5_takeEnd_4 : decode cX5_takeEnd 4 = .ok (.ifCond .eq 8, 3) := by decide +kernel
theorem dX5_takeEnd_7 : decode cX5_takeEnd 7 = .ok (.aload_n 0, 1) := by decide +kernel
theorem dX5_takeEnd_8 : decode cX5_takeEnd 8 = .ok (.iconst 1, 1) := by decide +kernel
theorem dX5_takeEnd_9 : decode cX5_takeEnd 9 = .ok (.invokevirtual 75, 3) := by decide +kernel
theorem dX5_takeEnd_12 : decode cX5_takeEnd 12 = .ok (.return_, 1) := by decide +kernel
theorem dX5_takeNumber_0 : decode cX5_takeNumber 0 = .ok (.aload_n 0, 1) := by decide +kernel
theorem dX5_takeNumber_1 : decode cX5_takeNumber 1 = .ok (.getfield 47, 3) := by decide +kernel
theorem dX5_takeNumber_4 : decode cX5_takeNumber 4 = .ok (.istore_n 3, 1) := by decide +kernel
theorem dX5_takeNumber_5 : decode cX5_takeNumber 5 = .ok (.aload_n 0, 1) := by decide +kernel
theorem dX5_takeNumber_6 : decode cX5_takeNumber 6 = .ok (.getfield 50, 3) := by decide +kernel
theorem dX5_takeNumber_9 : decode cX5_takeNumber 9 = .ok (.iconst 2, 1) := by decide +kernel
theorem dX5_takeNumber_10 : decode cX5_takeNumber 10 = .ok (.if_icmp .eq 10, 3) := by decide +kernel
theorem dX5_takeNumber_13 : decode cX5_takeNumber 13 = .ok (.aload_n 0, 1) := by decide +kernel
theorem dX5_takeNumber_14 : decode cX5_takeNumber 14 = .ok (.iconst 1, 1) := by decide +kernel
theorem dX5_takeNumber_15 : decode cX5_takeNumber 15 = .ok (.invokevirtual 75, 3) := by decide +kernel
theorem dX5_takeNumber_18 : decode cX5_takeNumber 18 = .ok (.iload_n 1, 1) := by decide +kernel
theorem dX5_takeNumber_19 : decode cX5_takeNumber 19 = .ok (.ireturn, 1) := by decide +kernel
theorem dX5_takeNumber_20 : decode cX5_takeNumber 20 = .ok (.iload_n 3, 1) := by decide +kernel
theorem dX5_takeNumber_21 : decode cX5_takeNumber 21 = .ok (.iload_n 1, 1) := by decide +kernel
theorem dX5_takeNumber_22 : decode cX5_takeNumber 22 = .ok (.if_icmp .lt 8, 3) := by decide +kernel
theorem dX5_takeNumber_25 : decode cX5_takeNumber 25 = .ok (.iload_n 3, 1) := by decide +kernel
theorem dX5_takeNumber_26 : decode cX5_takeNumber 26 = .ok (.iload_n 2, 1) := by decide +kernel
theorem dX5_takeNumber_27 : decode cX5_takeNumber 27 = .ok (.if_icmp .le 10, 3) := by decide +kernel
theorem dX5_takeNumber_30 : decode cX5_takeNumber 30 = .ok (.aload_n 0, 1) := by decide +kernel
theorem dX5_takeNumber_31 : decode cX5_takeNumber 31 = .ok (.iconst 2, 1) := by decide +kernel
theorem dX5_takeNumber_32 : decode cX5_takeNumber 32 = .ok (.invokevirtual 75, 3) := by decide +kernel
theorem dX5_takeNumber_35 : decode cX5_takeNumber 35 = .ok (.iload_n 1, 1) := by decide +kernel
theorem dX5_takeNumber_36 : decode cX5_takeNumber 36 = .ok (.ireturn, 1) := by decide +kernel
theorem dX5_takeNumber_37 : decode cX5_takeNumber 37 = .ok (.aload_n 0, 1) := by decide +kernel
theorem dX5_takeNumber_38 : decode cX5_takeNumber 38 = .ok (.invokevirtual 37, 3) := by decide +kernel
theorem dX5_takeNumber_41 : decode cX5_takeNumber 41 = .ok (.iload_n 3, 1) := by decide +kernel
theorem dX5_takeNumber_42 : decode cX5_takeNumber 42 = .ok (.ireturn, 1) := by decide +kernel
theorem dX5_takeSigned_0 : decode cX5_takeSigned 0 = .ok (.aload_n 0, 1) := by decide +kernel
theorem dX5_takeSigned_1 : decode cX5_takeSigned 1 = .ok (.bipush 45, 2) := by decide +kernel
theorem dX5_takeSigned_3 : decode cX5_takeSigned 3 = .ok (.invokevirtual 79, 3) := by decide +kernel
theorem dX5_takeSigned_6 : decode cX5_takeSigned 6 = .ok (.istore_n 1, 1) := by decide +kernel
theorem dX5_takeSigned_7 : decode cX5_takeSigned 7 = .ok (.iload_n 1, 1) := by decide +kernel
theorem dX5_takeSigned_8 : decode cX5_takeSigned 8 = .ok (.ifCond .eq 7, 3) := by decide +kernel
theorem dX5_takeSigned_11 : decode cX5_takeSigned 11 = .ok (.aload_n 0, 1) := by decide +kernel
theorem dX5_takeSigned_12 : decode cX5_takeSigned 12 = .ok (.invokevirtual 37, 3) := by decide +kernel
theorem dX5_takeSigned_15 : decode cX5_takeSigned 15 = .ok (.aload_n 0, 1) := by decide +kernel
theorem dX5_takeSigned_16 : decode cX5_takeSigned 16 = .ok (.iconst 0, 1) := by decide +kernel
theorem dX5_takeSigned_17 : decode cX5_takeSigned 17 = .ok (.sipush 9999, 3) := by decide +kernel
theorem dX5_takeSigned_20 : decode cX5_takeSigned 20 = .ok (.invokevirtual 83, 3) := by decide +kernel
theorem dX5_takeSigned_23 : decode cX5_takeSigned 23 = .ok (.istore_n 2, 1) := by decide +kernel
theorem dX5_takeSigned_24 : decode cX5_takeSigned 24 = .ok (.iload_n 1, 1) := by decide +kernel
theorem dX5_takeSigned_25 : decode cX5_takeSigned 25 = .ok (.ifCond .eq 8, 3) := by decide +kernel
theorem dX5_takeSigned_28 : decode cX5_takeSigned 28 = .ok (.iload_n 2, 1) := by decide +kernel
theorem dX5_takeSigned_29 : decode cX5_takeSigned 29 = .ok (.ineg, 1) := by decide +kernel
theorem dX5_takeSigned_30 : decode cX5_takeSigned 30 = .ok (.goto 4, 3) := by decide +kernel
theorem dX5_takeSigned_33 : decode cX5_takeSigned 33 = .ok (.iload_n 2, 1) := by decide +kernel
theorem dX5_takeSigned_34 : decode cX5_takeSigned 34 = .ok (.ireturn, 1) := by decide +kernel
theorem dX6_init_0 : decode cX6_init 0 = .ok (.aload_n 0, 1) := by decide +kernel
theorem dX6_init_1 : decode cX6_init 1 = .ok (.invokespecial 3, 3) := by decide +kernel
theorem dX6_init_4 : decode cX6_init 4 = .ok (.return_, 1) := by decide +kernel
theorem dX6_stand_0 : decode cX6_stand 0 = .ok (.aload_n 0, 1) := by decide +kernel
theorem dX6_stand_1 : decode cX6_stand 1 = .ok (.iload_n 1, 1) := by decide +kernel
theorem dX6_stand_2 : decode cX6_stand 2 = .ok (.putfield 9, 3) := by decide +kernel
theorem dX6_stand_5 : decode cX6_stand 5 = .ok (.aload_n 0, 1) := by decide +kernel
theorem dX6_stand_6 : decode cX6_stand 6 = .ok (.iload_n 2, 1) := by decide +kernel
theorem dX6_stand_7 : decode cX6_stand 7 = .ok (.putfield 15, 3) := by decide +kernel
theorem dX6_stand_10 : decode cX6_stand 10 = .ok (.aload_n 0, 1) := by decide +kernel
theorem dX6_stand_11 : decode cX6_stand 11 = .ok (.iconst 0, 1) := by decide +kernel
theorem dX6_stand_12 : decode cX6_stand 12 = .ok (.putfield 18, 3) := by decide +kernel
theorem dX6_stand_15 : decode cX6_stand 15 = .ok (.aload_n 0, 1) := by decide +kernel
theorem dX6_stand_16 : decode cX6_stand 16 = .ok (.iconst 0, 1) := by decide +kernel
theorem dX6_stand_17 : decode cX6_stand 17 = .ok (.putfield 21, 3) := by decide +kernel
theorem dX6_stand_20 : decode cX6_stand 20 = .ok (.return_, 1) := by decide +kernel
theorem dX6_shape_0 : decode cX6_shape 0 = .ok (.aload_n 0, 1) := by decide +kernel
theorem dX6_shape_1 : decode cX6_shape 1 = .ok (.iload_n 1, 1) := by decide +kernel
theorem dX6_shape_2 : decode cX6_shape 2 = .ok (.putfield 24, 3) := by decide +kernel
theorem dX6_shape_5 : decode cX6_shape 5 = .ok (.aload_n 0, 1) := by decide +kernel
theorem dX6_shape_6 : decode cX6_shape 6 = .ok (.iload_n 2, 1) := by decide +kernel
theorem dX6_shape_7 : decode cX6_shape 7 = .ok (.putfield 27, 3) := by decide +kernel
theorem dX6_shape_10 : decode cX6_shape 10 = .ok (.aload_n 0, 1) := by decide +kernel
theorem dX6_shape_11 : decode cX6_shape 11 = .ok (.iload_n 3, 1) := by decide +kernel
theorem dX6_shape_12 : decode cX6_shape 12 = .ok (.putfield 30, 3) := by decide +kernel
theorem dX6_shape_15 : decode cX6_shape 15 = .ok (.return_, 1) := by decide +kernel
theorem dX6_copyFrom_0 : decode cX6_copyFrom 0 = .ok (.aload_n 0, 1) := by decide +kernel
theorem dX6_copyFrom_1 : decode cX6_copyFrom 1 = .ok (.aload_n 1, 1) := by decide +kernel
theorem dX6_copyFrom_2 : decode cX6_copyFrom 2 = .ok (.getfield 9, 3) := by decide +kernel
theorem dX6_copyFrom_5 : decode cX6_copyFrom 5 = .ok (.aload_n 1, 1) := by decide +kernel
theorem dX6_copyFrom_6 : decode cX6_copyFrom 6 = .ok (.getfield 15, 3) := by decide +kernel
theorem dX6_copyFrom_9 : decode cX6_copyFrom 9 = .ok (.invokevirtual 33, 3) := by decide +kernel
theorem dX6_copyFrom_12 : decode cX6_copyFrom 12 = .ok (.aload_n 0, 1) := by decide +kernel
theorem dX6_copyFrom_13 : decode cX6_copyFrom 13 = .ok (.aload_n 1, 1) := by decide +kernel
theorem dX6_copyFrom_14 : decode cX6_copyFrom 14 = .ok (.getfield 24, 3) := by decide +kernel
theorem dX6_copyFrom_17 : decode cX6_copyFrom 17 = .ok (.aload_n 1, 1) := by decide +kernel
theorem dX6_copyFrom_18 : decode cX6_copyFrom 18 = .ok (.getfield 27, 3) := by decide +kernel
theorem dX6_copyFrom_21 : decode cX6_copyFrom 21 = .ok (.aload_n 1, 1) := by decide +kernel
theorem dX6_copyFrom_22 : decode cX6_copyFrom 22 = .ok (.getfield 30, 3) := by decide +kernel
theorem dX6_copyFrom_25 : decode cX6_copyFrom 25 = .ok (.invokevirtual 37, 3) := by decide +kernel
theorem dX6_copyFrom_28 : decode cX6_copyFrom 28 = .ok (.aload_n 0, 1) := by decide +kernel
theorem dX6_copyFrom_29 : decode cX6_copyFrom 29 = .ok (.aload_n 1, 1) := by decide +kernel
theorem dX6_copyFrom_30 : decode cX6_copyFrom 30 = .ok (.getfield 18, 3) := by decide +kernel
theorem dX6_copyFrom_33 : decode cX6_copyFrom 33 = .ok (.putfield 18, 3) := by decide +kernel
theorem dX6_copyFrom_36 : decode cX6_copyFrom 36 = .ok (.aload_n 0, 1) := by decide +kernel
theorem dX6_copyFrom_37 : decode cX6_copyFrom 37 = .ok (.aload_n 1, 1) := by decide +kernel
theorem dX6_copyFrom_38 : decode cX6_copyFrom 38 = .ok (.getfield 21, 3) := by decide +kernel
theorem dX6_copyFrom_41 : decode cX6_copyFrom 41 = .ok (.putfield 21, 3) := by decide +kernel
theorem dX6_copyFrom_44 : decode cX6_copyFrom 44 = .ok (.aload_n 0, 1) := by decide +kernel
theorem dX6_copyFrom_45 : decode cX6_copyFrom 45 = .ok (.aload_n 1, 1) := by decide +kernel
theorem dX6_copyFrom_46 : decode cX6_copyFrom 46 = .ok (.getfield 41, 3) := by decide +kernel
theorem dX6_copyFrom_49 : decode cX6_copyFrom 49 = .ok (.putfield 41, 3) := by decide +kernel
theorem dX6_copyFrom_52 : decode cX6_copyFrom 52 = .ok (.aload_n 0, 1) := by decide +kernel
theorem dX6_copyFrom_53 : decode cX6_copyFrom 53 = .ok (.aload_n 1, 1) := by decide +kernel
theorem dX6_copyFrom_54 : decode cX6_copyFrom 54 = .ok (.getfield 44, 3) := by decide +kernel
theorem dX6_copyFrom_57 : decode cX6_copyFrom 57 = .ok (.putfield 44, 3) := by decide +kernel
theorem dX6_copyFrom_60 : decode cX6_copyFrom 60 = .ok (.aload_n 0, 1) := by decide +kernel
theorem dX6_copyFrom_61 : decode cX6_copyFrom 61 = .ok (.aload_n 1, 1) := by decide +kernel
theorem dX6_copyFrom_62 : decode cX6_copyFrom 62 = .ok (.getfield 47, 3) := by decide +kernel
theorem dX6_copyFrom_65 : decode cX6_copyFrom 65 = .ok (.putfield 47, 3) := by decide +kernel
theorem dX6_copyFrom_68 : decode cX6_copyFrom 68 = .ok (.return_, 1) := by decide +kernel
theorem dX6_fullColumn_0 : decode cX6_fullColumn 0 = .ok (.bipush 100, 2) := by decide +kernel
theorem dX6_fullColumn_2 : decode cX6_fullColumn 2 = .ok (.aload_n 0, 1) := by decide +kernel
theorem dX6_fullColumn_3 : decode cX6_fullColumn 3 = .ok (.getfield 30, 3) := by decide +kernel
theorem dX6_fullColumn_6 : decode cX6_fullColumn 6 = .ok (.imul, 1) := by decide +kernel
theorem dX6_fullColumn_7 : decode cX6_fullColumn 7 = .ok (.ireturn, 1) := by decide +kernel
theorem dX6_fullVolume_0 : decode cX6_fullVolume 0 = .ok (.aload_n 0, 1) := by decide +kernel
theorem dX6_fullVolume_1 : decode cX6_fullVolume 1 = .ok (.invokevirtual 50, 3) := by decide +kernel
theorem dX6_fullVolume_4 : decode cX6_fullVolume 4 = .ok (.i2l, 1) := by decide +kernel
theorem dX6_fullVolume_5 : decode cX6_fullVolume 5 = .ok (.aload_n 0, 1) := by decide +kernel
theorem dX6_fullVolume_6 : decode cX6_fullVolume 6 = .ok (.getfield 24, 3) := by decide +kernel
theorem dX6_fullVolume_9 : decode cX6_fullVolume 9 = .ok (.i2l, 1) := by decide +kernel
theorem dX6_fullVolume_10 : decode cX6_fullVolume 10 = .ok (.lmul, 1) := by decide +kernel
theorem dX6_fullVolume_11 : decode cX6_fullVolume 11 = .ok (.aload_n 0, 1) := by decide +kernel
theorem dX6_fullVolume_12 : decode cX6_fullVolume 12 = .ok (.getfield 24, 3) := by decide +kernel
theorem dX6_fullVolume_15 : decode cX6_fullVolume 15 = .ok (.i2l, 1) := by decide +kernel
theorem dX6_fullVolume_16 : decode cX6_fullVolume 16 = .ok (.lmul, 1) := by decide +kernel
theorem dX6_fullVolume_17 : decode cX6_fullVolume 17 = .ok (.lreturn, 1) := by decide +kernel
theorem dX6_runAt_0 : decode cX6_runAt 0 = .ok (.aload_n 0, 1) := by decide +kernel
theorem dX6_runAt_1 : decode cX6_runAt 1 = .ok (.getfield 27, 3) := by decide +kernel
theorem dX6_runAt_4 : decode cX6_runAt 4 = .ok (.ifCond .ne 7, 3) := by decide +kernel
theorem dX6_runAt_7 : decode cX6_runAt 7 = .ok (.lconst 0, 1) := by decide +kernel
theorem dX6_runAt_8 : decode cX6_runAt 8 = .ok (.goto 26, 3) := by decide +kernel
theorem dX6_runAt_11 : decode cX6_runAt 11 = .ok (.lload_n 1, 1) := by decide +kernel
theorem dX6_runAt_12 : decode cX6_runAt 12 = .ok (.aload_n 0, 1) := by decide +kernel
theorem dX6_runAt_13 : decode cX6_runAt 13 = .ok (.getfield 41, 3) := by decide +kernel
theorem dX6_runAt_16 : decode cX6_runAt 16 = .ok (.i2l, 1) := by decide +kernel
theorem dX6_runAt_17 : decode cX6_runAt 17 = .ok (.ladd, 1) := by decide +kernel
theorem dX6_runAt_18 : decode cX6_runAt 18 = .ok (.aload_n 0, 1) := by decide +kernel
theorem dX6_runAt_19 : decode cX6_runAt 19 = .ok (.getfield 44, 3) := by decide +kernel
theorem dX6_runAt_22 : decode cX6_runAt 22 = .ok (.i2l, 1) := by decide +kernel
theorem dX6_runAt_23 : decode cX6_runAt 23 = .ok (.ladd, 1) := by decide +kernel
theorem dX6_runAt_24 : decode cX6_runAt 24 = .ok (.ldc2_w 54, 3) := by decide +kernel
theorem dX6_runAt_27 : decode cX6_runAt 27 = .ok (.lmul, 1) := by decide +kernel
theorem dX6_runAt_28 : decode cX6_runAt 28 = .ok (.aload_n 0, 1) := by decide +kernel
theorem dX6_runAt_29 : decode cX6_runAt 29 = .ok (.getfield 27, 3) := by decide +kernel
theorem dX6_runAt_32 : decode cX6_runAt 32 = .ok (.i2l, 1) := by decide +kernel
theorem dX6_runAt_33 : decode cX6_runAt 33 = .ok (.ldiv, 1) := by decide +kernel
theorem dX6_runAt_34 : decode cX6_runAt 34 = .ok (.lreturn, 1) := by decide +kernel
theorem dX6_columnAt_0 : decode cX6_columnAt 0 = .ok (.aload_n 0, 1) := by decide +kernel
theorem dX6_columnAt_1 : decode cX6_columnAt 1 = .ok (.getfield 21, 3) := by decide +kernel
theorem dX6_columnAt_4 : decode cX6_columnAt 4 = .ok (.ifCond .ne 23, 3) := by decide +kernel
theorem dX6_columnAt_7 : decode cX6_columnAt 7 = .ok (.lconst 0, 1) := by decide +kernel
theorem dX6_columnAt_8 : decode cX6_columnAt 8 = .ok (.aload_n 0, 1) := by decide +kernel
theorem dX6_columnAt_9 : decode cX6_columnAt 9 = .ok (.invokevirtual 50, 3) := by decide +kernel
theorem dX6_columnAt_12 : decode cX6_columnAt 12 = .ok (.i2l, 1) := by decide +kernel
theorem dX6_columnAt_13 : decode cX6_columnAt 13 = .ok (.aload_n 0, 1) := by decide +kernel
theorem dX6_columnAt_14 : decode cX6_columnAt 14 = .ok (.lload_n 1, 1) := by decide +kernel
theorem dX6_columnAt_15 : decode cX6_columnAt 15 = .ok (.invokevirtual 56, 3) := by decide +kernel
theorem dX6_columnAt_18 : decode cX6_columnAt 18 = .ok (.invokestatic 60, 3) := by decide +kernel
theorem dX6_columnAt_21 : decode cX6_columnAt 21 = .ok (.invokestatic 66, 3) := by decide +kernel
theorem dX6_columnAt_24 : decode cX6_columnAt 24 = .ok (.goto 4, 3) := by decide +kernel
theorem dX6_columnAt_27 : decode cX6_columnAt 27 = .ok (.lconst 0, 1) := by decide +kernel
theorem dX6_columnAt_28 : decode cX6_columnAt 28 = .ok (.lreturn, 1) := by decide +kernel
theorem dX6_shownReading_0 : decode cX6_shownReading 0 = .ok (.aload_n 0, 1) := by decide +kernel
theorem dX6_shownReading_1 : decode cX6_shownReading 1 = .ok (.getfield 47, 3) := by decide +kernel
theorem dX6_shownReading_4 : decode cX6_shownReading 4 = .ok (.bipush 10, 2) := by decide +kernel
theorem dX6_shownReading_6 : decode cX6_shownReading 6 = .ok (.idiv, 1) := by decide +kernel
theorem dX6_shownReading_7 : decode cX6_shownReading 7 = .ok (.aload_n 0, 1) := by decide +kernel
theorem dX6_shownReading_8 : decode cX6_shownReading 8 = .ok (.getfield 18, 3) := by decide +kernel
theorem dX6_shownReading_11 : decode cX6_shownReading 11 = .ok (.iadd, 1) := by decide +kernel
theorem dX6_shownReading_12 : decode cX6_shownReading 12 = .ok (.ireturn, 1) := by decide +kernel
theorem dX6_columnHeight_0 : decode cX6_columnHeight 0 = .ok (.aload_n 0, 1) := by decide +kernel
theorem dX6_columnHeight_1 : decode cX6_columnHeight 1 = .ok (.getfield 47, 3) := by decide +kernel
theorem dX6_columnHeight_4 : decode cX6_columnHeight 4 = .ok (.aload_n 0, 1) := by decide +kernel
theorem dX6_columnHeight_5 : decode cX6_columnHeight 5 = .ok (.getfield 27, 3) := by decide +kernel
theorem dX6_columnHeight_8 : decode cX6_columnHeight 8 = .ok (.imul, 1) := by decide +kernel
theorem dX6_columnHeight_9 : decode cX6_columnHeight 9 = .ok (.sipush 1000, 3) := by decide +kernel
theorem dX6_columnHeight_12 : decode cX6_columnHeight 12 = .ok (.idiv, 1) := by decide +kernel
theorem dX6_columnHeight_13 : decode cX6_columnHeight 13 = .ok (.ireturn, 1) := by decide +kernel
theorem dX7_init_0 : decode cX7_init 0 = .ok (.aload_n 0, 1) := by decide +kernel
theorem dX7_init_1 : decode cX7_init 1 = .ok (.invokespecial 1, 3) := by decide +kernel
theorem dX7_init_4 : decode cX7_init 4 = .ok (.aload_n 0, 1) := by decide +kernel
theorem dX7_init_5 : decode cX7_init 5 = .ok (.new 7, 3) := by decide +kernel
theorem dX7_init_8 : decode cX7_init 8 = .ok (.dup, 1) := by decide +kernel
theorem dX7_init_9 : decode cX7_init 9 = .ok (.invokespecial 9, 3) := by decide +kernel
theorem dX7_init_12 : decode cX7_init 12 = .ok (.putfield 10, 3) := by decide +kernel
theorem dX7_init_15 : decode cX7_init 15 = .ok (.aload_n 0, 1) := by decide +kernel
theorem dX7_init_16 : decode cX7_init 16 = .ok (.new 7, 3) := by decide +kernel
theorem dX7_init_19 : decode cX7_init 19 = .ok (.dup, 1) := by decide +kernel
theorem dX7_init_20 : decode cX7_init 20 = .ok (.invokespecial 9, 3) := by decide +kernel
theorem dX7_init_23 : decode cX7_init 23 = .ok (.putfield 16, 3) := by decide +kernel
theorem dX7_init_26 : decode cX7_init 26 = .ok (.aload_n 0, 1) := by decide +kernel
theorem dX7_init_27 : decode cX7_init 27 = .ok (.new 7, 3) := by decide +kernel
theorem dX7_init_30 : decode cX7_init 30 = .ok (.dup, 1) := by decide +kernel
theorem dX7_init_31 : decode cX7_init 31 = .ok (.invokespecial 9, 3) := by decide +kernel
theorem dX7_init_34 : decode cX7_init 34 = .ok (.putfield 19, 3) := by decide +kernel
theorem dX7_init_37 : decode cX7_init 37 = .ok (.aload_n 0, 1) := by decide +kernel
theorem dX7_init_38 : decode cX7_init 38 = .ok (.new 22, 3) := by decide +kernel
theorem dX7_init_41 : decode cX7_init 41 = .ok (.dup, 1) := by decide +kernel
theorem dX7_init_42 : decode cX7_init 42 = .ok (.invokespecial 24, 3) := by decide +kernel
theorem dX7_init_45 : decode cX7_init 45 = .ok (.putfield 25, 3) := by decide +kernel
theorem dX7_init_48 : decode cX7_init 48 = .ok (.aload_n 0, 1) := by decide +kernel
theorem dX7_init_49 : decode cX7_init 49 = .ok (.new 29, 3) := by decide +kernel
theorem dX7_init_52 : decode cX7_init 52 = .ok (.dup, 1) := by decide +kernel
theorem dX7_init_53 : decode cX7_init 53 = .ok (.invokespecial 31, 3) := by decide +kernel
theorem dX7_init_56 : decode cX7_init 56 = .ok (.putfield 32, 3) := by decide +kernel
theorem dX7_init_59 : decode cX7_init 59 = .ok (.aload_n 0, 1) := by decide +kernel
theorem dX7_init_60 : decode cX7_init 60 = .ok (.new 36, 3) := by decide +kernel
theorem dX7_init_63 : decode cX7_init 63 = .ok (.dup, 1) := by decide +kernel
theorem dX7_init_64 : decode cX7_init 64 = .ok (.invokespecial 38, 3) := by decide +kernel
theorem dX7_init_67 : decode cX7_init 67 = .ok (.putfield 39, 3) := by decide +kernel
theorem dX7_init_70 : decode cX7_init 70 = .ok (.aload_n 0, 1) := by decide +kernel
theorem dX7_init_71 : decode cX7_init 71 = .ok (.getfield 10, 3) := by decide +kernel
theorem dX7_init_74 : decode cX7_init 74 = .ok (.iconst 2, 1) := by decide +kernel
theorem dX7_init_75 : decode cX7_init 75 = .ok (.ldc 43, 2) := by decide +kernel
theorem dX7_init_77 : decode cX7_init 77 = .ok (.invokevirtual 44, 3) := by decide +kernel
theorem dX7_init_80 : decode cX7_init 80 = .ok (.return_, 1) := by decide +kernel
theorem dX7_feed_0 : decode cX7_feed 0 = .ok (.aload_n 0, 1) := by decide +kernel
theorem dX7_feed_1 : decode cX7_feed 1 = .ok (.getfield 32, 3) := by decide +kernel
theorem dX7_feed_4 : decode cX7_feed 4 = .ok (.bipush 20, 2) := by decide +kernel
theorem dX7_feed_6 : decode cX7_feed 6 = .ok (.invokevirtual 48, 3) := by decide +kernel
theorem dX7_feed_9 : decode cX7_feed 9 = .ok (.ifCond .ne 5, 3) := by decide +kernel
theorem dX7_feed_12 : decode cX7_feed 12 = .ok (.iconst (-1), 1) := by decide +kernel
theorem dX7_feed_13 : decode cX7_feed 13 = .ok (.ireturn, 1) := by decide +kernel
theorem dX7_feed_14 : decode cX7_feed 14 = .ok (.aload_n 0, 1) := by decide +kernel
theorem dX7_feed_15 : decode cX7_feed 15 = .ok (.getfield 32, 3) := by decide +kernel
theorem dX7_feed_18 : decode cX7_feed 18 = .ok (.iload_n 1, 1) := by decide +kernel
theorem dX7_feed_19 : decode cX7_feed 19 = .ok (.invokevirtual 52, 3) := by decide +kernel
theorem dX7_feed_22 : decode cX7_feed 22 = .ok (.aload_n 0, 1) := by decide +kernel
theorem dX7_feed_23 : decode cX7_feed 23 = .ok (.getfield 32, 3) := by decide +kernel
theorem dX7_feed_26 : decode cX7_feed 26 = .ok (.iload_n 2, 1) := by decide +kernel
theorem dX7_feed_27 : decode cX7_feed 27 = .ok (.invokevirtual 52, 3) := by decide +kernel
theorem dX7_feed_30 : decode cX7_feed 30 = .ok (.aload_n 0, 1) := by decide +kernel
theorem dX7_feed_31 : decode cX7_feed 31 = .ok (.getfield 32, 3) := by decide +kernel
theorem dX7_feed_34 : decode cX7_feed 34 = .ok (.iload_n 3, 1) := by decide +kernel
theorem dX7_feed_35 : decode cX7_feed 35 = .ok (.invokevirtual 52, 3) := by decide +kernel
theorem dX7_feed_38 : decode cX7_feed 38 = .ok (.aload_n 0, 1) := by decide +kernel
theorem dX7_feed_39 : decode cX7_feed 39 = .ok (.getfield 32, 3) := by decide +kernel
theorem dX7_feed_42 : decode cX7_feed 42 = .ok (.iload 4, 2) := by decide +kernel
theorem dX7_feed_44 : decode cX7_feed 44 = .ok (.invokevirtual 52, 3) := by decide +kernel
theorem dX7_feed_47 : decode cX7_feed 47 = .ok (.aload_n 0, 1) := by decide +kernel
theorem dX7_feed_48 : decode cX7_feed 48 = .ok (.getfield 32, 3) := by decide +kernel
theorem dX7_feed_51 : decode cX7_feed 51 = .ok (.iload 5, 2) := by decide +kernel
theorem dX7_feed_53 : decode cX7_feed 53 = .ok (.invokevirtual 52, 3) := by decide +kernel
theorem dX7_feed_56 : decode cX7_feed 56 = .ok (.aload_n 0, 1) := by decide +kernel
theorem dX7_feed_57 : decode cX7_feed 57 = .ok (.getfield 32, 3) := by decide +kernel
theorem dX7_feed_60 : decode cX7_feed 60 = .ok (.getfield 56, 3) := by decide +kernel
theorem dX7_feed_63 : decode cX7_feed 63 = .ok (.ireturn, 1) := by decide +kernel
theorem dX7_load_0 : decode cX7_load 0 = .ok (.iload_n 1, 1) := by decide +kernel
theorem dX7_load_1 : decode cX7_load 1 = .ok (.iconst 0, 1) := by decide +kernel
theorem dX7_load_2 : decode cX7_load 2 = .ok (.aload_n 0, 1) := by decide +kernel
theorem dX7_load_3 : decode cX7_load 3 = .ok (.getfield 32, 3) := by decide +kernel
theorem dX7_load_6 : decode cX7_load 6 = .ok (.getfield 56, 3) := by decide +kernel
theorem dX7_load_9 : decode cX7_load 9 = .ok (.invokestatic 60, 3) := by decide +kernel
theorem dX7_load_12 : decode cX7_load 12 = .ok (.aload_n 0, 1) := by decide +kernel
theorem dX7_load_13 : decode cX7_load 13 = .ok (.getfield 32, 3) := by decide +kernel
theorem dX7_load_16 : decode cX7_load 16 = .ok (.iload_n 1, 1) := by decide +kernel
theorem dX7_load_17 : decode cX7_load 17 = .ok (.invokevirtual 64, 3) := by decide +kernel
theorem dX7_load_20 : decode cX7_load 20 = .ok (.new 67, 3) := by decide +kernel
theorem dX7_load_23 : decode cX7_load 23 = .ok (.dup, 1) := by decide +kernel
theorem dX7_load_24 : decode cX7_load 24 = .ok (.aload_n 0, 1) := by decide +kernel
theorem dX7_load_25 : decode cX7_load 25 = .ok (.getfield 32, 3) := by decide +kernel
theorem dX7_load_28 : decode cX7_load 28 = .ok (.aload_n 0, 1) := by decide +kernel
theorem dX7_load_29 : decode cX7_load 29 = .ok (.getfield 16, 3) := by decide +kernel
theorem dX7_load_32 : decode cX7_load 32 = .ok (.invokespecial 69, 3) := by decide +kernel
theorem dX7_load_35 : decode cX7_load 35 = .ok (.astore_n 2, 1) := by decide +kernel
theorem dX7_load_36 : decode cX7_load 36 = .ok (.aload_n 2, 1) := by decide +kernel
theorem dX7_load_37 : decode cX7_load 37 = .ok (.invokevirtual 72, 3) := by decide +kernel
theorem dX7_load_40 : decode cX7_load 40 = .ok (.aload_n 0, 1) := by decide +kernel
theorem dX7_load_41 : decode cX7_load 41 = .ok (.getfield 32, 3) := by decide +kernel
theorem dX7_load_44 : decode cX7_load 44 = .ok (.invokevirtual 75, 3) := by decide +kernel
theorem dX7_load_47 : decode cX7_load 47 = .ok (.aload_n 0, 1) := by decide +kernel
theorem dX7_load_48 : decode cX7_load 48 = .ok (.getfield 32, 3) := by decide +kernel
theorem dX7_load_51 : decode cX7_load 51 = .ok (.getfield 78, 3) := by decide +kernel
theorem dX7_load_54 : decode cX7_load 54 = .ok (.ifCond .eq 14, 3) := by decide +kernel
theorem dX7_load_57 : decode cX7_load 57 = .ok (.bipush (-10), 2) := by decide +kernel
theorem dX7_load_59 : decode cX7_load 59 = .ok (.aload_n 0, 1) := by decide +kernel
theorem dX7_load_60 : decode cX7_load 60 = .ok (.getfield 32, 3) := by decide +kernel
theorem dX7_load_63 : decode cX7_load 63 = .ok (.getfield 78, 3) := by decide +kernel
theorem dX7_load_66 : decode cX7_load 66 = .ok (.isub, 1) := by decide +kernel
theorem dX7_load_67 : decode cX7_load 67 = .ok (.ireturn, 1) := by decide +kernel
theorem dX7_load_68 : decode cX7_load 68 = .ok (.aload_n 0, 1) := by decide +kernel
theorem dX7_load_69 : decode cX7_load 69 = .ok (.getfield 10, 3) := by decide +kernel
theorem dX7_load_72 : decode cX7_load 72 = .ok (.aload_n 0, 1) := by decide +kernel
theorem dX7_load_73 : decode cX7_load 73 = .ok (.getfield 16, 3) := by decide +kernel
theorem dX7_load_76 : decode cX7_load 76 = .ok (.invokevirtual 81, 3) := by decide +kernel
theorem dX7_load_79 : decode cX7_load 79 = .ok (.aload_n 0, 1) := by decide +kernel
theorem dX7_load_80 : decode cX7_load 80 = .ok (.getfield 10, 3) := by decide +kernel
theorem dX7_load_83 : decode cX7_load 83 = .ok (.invokevirtual 85, 3) := by decide +kernel
theorem dX7_load_86 : decode cX7_load 86 = .ok (.pop, 1) := by decide +kernel
theorem dX7_load_87 : decode cX7_load 87 = .ok (.aload_n 0, 1) := by decide +kernel
theorem dX7_load_88 : decode cX7_load 88 = .ok (.getfield 25, 3) := by decide +kernel
theorem dX7_load_91 : decode cX7_load 91 = .ok (.invokevirtual 89, 3) := by decide +kernel
theorem dX7_load_94 : decode cX7_load 94 = .ok (.aload_n 0, 1) := by decide +kernel
theorem dX7_load_95 : decode cX7_load 95 = .ok (.iconst 0, 1) := by decide +kernel
theorem dX7_load_96 : decode cX7_load 96 = .ok (.putfield 91, 3) := by decide +kernel
theorem dX7_load_99 : decode cX7_load 99 = .ok (.aload_n 0, 1) := by decide +kernel
theorem dX7_load_100 : decode cX7_load 100 = .ok (.getfield 10, 3) := by decide +kernel
theorem dX7_load_103 : decode cX7_load 103 = .ok (.iconst 0, 1) := by decide +kernel
theorem dX7_load_104 : decode cX7_load 104 = .ok (.invokevirtual 95, 3) := by decide +kernel
theorem dX7_load_107 : decode cX7_load 107 = .ok (.ireturn, 1) := by decide +kernel
theorem dX7_errorPosition_0 : decode cX7_errorPosition 0 = .ok (.aload_n 0, 1) := by decide +kernel
theorem dX7_errorPosition_1 : decode cX7_errorPosition 1 = .ok (.getfield 32, 3) := by decide +kernel
theorem dX7_errorPosition_4 : decode cX7_errorPosition 4 = .ok (.getfield 99, 3) := by decide +kernel
theorem dX7_errorPosition_7 : decode cX7_errorPosition 7 = .ok (.ireturn, 1) := by decide +kernel
theorem dX7_size_0 : decode cX7_size 0 = .ok (.iload_n 1, 1) := by decide +kernel
theorem dX7_size_1 : decode cX7_size 1 = .ok (.tableswitch 116 0 7 #[47, 55, 63, 71, 80, 89, 98, 107], 47) := by decide +kernel
theorem dX7_size_48 : decode cX7_size 48 = .ok (.aload_n 0, 1) := by decide +kernel
theorem dX7_size_49 : decode cX7_size 49 = .ok (.getfield 10, 3) := by decide +kernel
theorem dX7_size_52 : decode cX7_size 52 = .ok (.getfield 102, 3) := by decide +kernel
theorem dX7_size_55 : decode cX7_size 55 = .ok (.ireturn, 1) := by decide +kernel
theorem dX7_size_56 : decode cX7_size 56 = .ok (.aload_n 0, 1) := by decide +kernel
theorem dX7_size_57 : decode cX7_size 57 = .ok (.getfield 10, 3) := by decide +kernel
theorem dX7_size_60 : decode cX7_size 60 = .ok (.getfield 105, 3) := by decide +kernel
theorem dX7_size_63 : decode cX7_size 63 = .ok (.ireturn, 1) := by decide +kernel
theorem dX7_size_64 : decode cX7_size 64 = .ok (.aload_n 0, 1) := by decide +kernel
theorem dX7_size_65 : decode cX7_size 65 = .ok (.getfield 10, 3) := by decide +kernel
theorem dX7_size_68 : decode cX7_size 68 = .ok (.getfield 108, 3) := by decide +kernel
theorem dX7_size_71 : decode cX7_size 71 = .ok (.ireturn, 1) := by decide +kernel
theorem dX7_size_72 : decode cX7_size 72 = .ok (.aload_n 0, 1) := by decide +kernel
theorem dX7_size_73 : decode cX7_size 73 = .ok (.getfield 10, 3) := by decide +kernel
theorem dX7_size_76 : decode cX7_size 76 = .ok (.iconst 0, 1) := by decide +kernel
theorem dX7_size_77 : decode cX7_size 77 = .ok (.invokevirtual 95, 3) := by decide +kernel
theorem dX7_size_80 : decode cX7_size 80 = .ok (.ireturn, 1) := by decide +kernel
theorem dX7_size_81 : decode cX7_size 81 = .ok (.aload_n 0, 1) := by decide +kernel
theorem dX7_size_82 : decode cX7_size 82 = .ok (.getfield 10, 3) := by decide +kernel
theorem dX7_size_85 : decode cX7_size 85 = .ok (.iconst 1, 1) := by decide +kernel
theorem dX7_size_86 : decode cX7_size 86 = .ok (.invokevirtual 95, 3) := by decide +kernel
theorem dX7_size_89 : decode cX7_size 89 = .ok (.ireturn, 1) := by decide +kernel
theorem dX7_size_90 : decode cX7_size 90 = .ok (.aload_n 0, 1) := by decide +kernel
theorem dX7_size_91 : decode cX7_size 91 = .ok (.getfield 10, 3) := by decide +kernel
theorem dX7_size_94 : decode cX7_size 94 = .ok (.iconst 2, 1) := by decide +kernel
theorem dX7_size_95 : decode cX7_size 95 = .ok (.invokevirtual 95, 3) := by decide +kernel
theorem dX7_size_98 : decode cX7_size 98 = .ok (.ireturn, 1) := by decide +kernel
theorem dX7_size_99 : decode cX7_size 99 = .ok (.aload_n 0, 1) := by decide +kernel
theorem dX7_size_100 : decode cX7_size 100 = .ok (.getfield 10, 3) := by decide +kernel
theorem dX7_size_103 : decode cX7_size 103 = .ok (.iconst 0, 1) := by decide +kernel
theorem dX7_size_104 : decode cX7_size 104 = .ok (.invokevirtual 111, 3) := by decide +kernel
theorem dX7_size_107 : decode cX7_size 107 = .ok (.ireturn, 1) := by decide +kernel
theorem dX7_size_108 : decode cX7_size 108 = .ok (.aload_n 0, 1) := by decide +kernel
theorem dX7_size_109 : decode cX7_size 109 = .ok (.getfield 10, 3) := by decide +kernel
theorem dX7_size_112 : decode cX7_size 112 = .ok (.iconst 1, 1) := by decide +kernel
theorem dX7_size_113 : decode cX7_size 113 = .ok (.invokevirtual 111, 3) := by decide +kernel
theorem dX7_size_116 : decode cX7_size 116 = .ok (.ireturn, 1) := by decide +kernel
theorem dX7_size_117 : decode cX7_size 117 = .ok (.new 114, 3) := by decide +kernel
theorem dX7_size_120 : decode cX7_size 120 = .ok (.dup, 1) := by decide +kernel
theorem dX7_size_121 : decode cX7_size 121 = .ok (.ldc 116, 2) := by decide +kernel
theorem dX7_size_123 : decode cX7_size 123 = .ok (.invokespecial 118, 3) := by decide +kernel
theorem dX7_size_126 : decode cX7_size 126 = .ok (.athrow, 1) := by decide +kernel
theorem dX7_pressure_0 : decode cX7_pressure 0 = .ok (.aload_n 0, 1) := by decide +kernel
theorem dX7_pressure_1 : decode cX7_pressure 1 = .ok (.iload_n 1, 1) := by decide +kernel
theorem dX7_pressure_2 : decode cX7_pressure 2 = .ok (.invokevirtual 121, 3) := by decide +kernel
theorem dX7_pressure_5 : decode cX7_pressure 5 = .ok (.aload_n 0, 1) := by decide +kernel
theorem dX7_pressure_6 : decode cX7_pressure 6 = .ok (.getfield 10, 3) := by decide +kernel
theorem dX7_pressure_9 : decode cX7_pressure 9 = .ok (.iload_n 1, 1) := by decide +kernel
theorem dX7_pressure_10 : decode cX7_pressure 10 = .ok (.invokevirtual 124, 3) := by decide +kernel
theorem dX7_pressure_13 : decode cX7_pressure 13 = .ok (.ireturn, 1) := by decide +kernel
theorem dX7_leg_0 : decode cX7_leg 0 = .ok (.iload_n 1, 1) := by decide +kernel
theorem dX7_leg_1 : decode cX7_leg 1 = .ok (.invokestatic 127, 3) := by decide +kernel
theorem dX7_leg_4 : decode cX7_leg 4 = .ok (.aload_n 0, 1) := by decide +kernel
theorem dX7_leg_5 : decode cX7_leg 5 = .ok (.getfield 10, 3) := by decide +kernel
theorem dX7_leg_8 : decode cX7_leg 8 = .ok (.iload_n 1, 1) := by decide +kernel
theorem dX7_leg_9 : decode cX7_leg 9 = .ok (.invokevirtual 130, 3) := by decide +kernel
theorem dX7_leg_12 : decode cX7_leg 12 = .ok (.astore_n 3, 1) := by decide +kernel
theorem dX7_leg_13 : decode cX7_leg 13 = .ok (.iload_n 2, 1) := by decide +kernel
theorem dX7_leg_14 : decode cX7_leg 14 = .ok (.tableswitch 51 0 3 #[30, 35, 40, 45], 30) := by decide +kernel
theorem dX7_leg_44 : decode cX7_leg 44 = .ok (.aload_n 3, 1) := by decide +kernel
theorem dX7_leg_45 : decode cX7_leg 45 = .ok (.getfield 134, 3) := by decide +kernel
theorem dX7_leg_48 : decode cX7_leg 48 = .ok (.ireturn, 1) := by decide +kernel
theorem dX7_leg_49 : decode cX7_leg 49 = .ok (.aload_n 3, 1) := by decide +kernel
theorem dX7_leg_50 : decode cX7_leg 50 = .ok (.getfield 139, 3) := by decide +kernel
theorem dX7_leg_53 : decode cX7_leg 53 = .ok (.ireturn, 1) := by decide +kernel
theorem dX7_leg_54 : decode cX7_leg 54 = .ok (.aload_n 3, 1) := by decide +kernel
theorem dX7_leg_55 : decode cX7_leg 55 = .ok (.getfield 142, 3) := by decide +kernel
theorem dX7_leg_58 : decode cX7_leg 58 = .ok (.ireturn, 1) := by decide +kernel
theorem dX7_leg_59 : decode cX7_leg 59 = .ok (.aload_n 3, 1) := by decide +kernel
theorem dX7_leg_60 : decode cX7_leg 60 = .ok (.getfield 145, 3) := by decide +kernel
theorem dX7_leg_63 : decode cX7_leg 63 = .ok (.l2i, 1) := by decide +kernel
theorem dX7_leg_64 : decode cX7_leg 64 = .ok (.ireturn, 1) := by decide +kernel
theorem dX7_leg_65 : decode cX7_leg 65 = .ok (.new 114, 3) := by decide +kernel
theorem dX7_leg_68 : decode cX7_leg 68 = .ok (.dup, 1) := by decide +kernel
theorem dX7_leg_69 : decode cX7_leg 69 = .ok (.ldc 149, 2) := by decide +kernel
theorem dX7_leg_71 : decode cX7_leg 71 = .ok (.invokespecial 118, 3) := by decide +kernel
theorem dX7_leg_74 : decode cX7_leg 74 = .ok (.athrow, 1) := by decide +kernel
theorem dX7_account_0 : decode cX7_account 0 = .ok (.iload_n 1, 1) := by decide +kernel
theorem dX7_account_1 : decode cX7_account 1 = .ok (.invokestatic 127, 3) := by decide +kernel
theorem dX7_account_4 : decode cX7_account 4 = .ok (.aload_n 0, 1) := by decide +kernel
theorem dX7_account_5 : decode cX7_account 5 = .ok (.getfield 10, 3) := by decide +kernel
theorem dX7_account_8 : decode cX7_account 8 = .ok (.iload_n 1, 1) := by decide +kernel
theorem dX7_account_9 : decode cX7_account 9 = .ok (.invokevirtual 130, 3) := by decide +kernel
theorem dX7_account_12 : decode cX7_account 12 = .ok (.astore_n 3, 1) := by decide +kernel
theorem dX7_account_13 : decode cX7_account 13 = .ok (.aload_n 0, 1) := by decide +kernel
theorem dX7_account_14 : decode cX7_account 14 = .ok (.getfield 10, 3) := by decide +kernel
theorem dX7_account_17 : decode cX7_account 17 = .ok (.iload_n 1, 1) := by decide +kernel
theorem dX7_account_18 : decode cX7_account 18 = .ok (.aload_n 3, 1) := by decide +kernel
theorem dX7_account_19 : decode cX7_account 19 = .ok (.getfield 145, 3) := by decide +kernel
theorem dX7_account_22 : decode cX7_account 22 = .ok (.invokevirtual 151, 3) := by decide +kernel
theorem dX7_account_25 : decode cX7_account 25 = .ok (.lstore 4, 2) := by decide +kernel
theorem dX7_account_27 : decode cX7_account 27 = .ok (.iload_n 2, 1) := by decide +kernel
theorem dX7_account_28 : decode cX7_account 28 = .ok (.tableswitch 73 0 4 #[36, 41, 44, 49, 54], 36) := by decide +kernel
theorem dX7_account_64 : decode cX7_account 64 = .ok (.aload_n 3, 1) := by decide +kernel
theorem dX7_account_65 : decode cX7_account 65 = .ok (.getfield 155, 3) := by decide +kernel
theorem dX7_account_68 : decode cX7_account 68 = .ok (.lreturn, 1) := by decide +kernel
theorem dX7_account_69 : decode cX7_account 69 = .ok (.lload 4, 2) := by decide +kernel
theorem dX7_account_71 : decode cX7_account 71 = .ok (.lreturn, 1) := by decide +kernel
theorem dX7_account_72 : decode cX7_account 72 = .ok (.aload_n 3, 1) := by decide +kernel
theorem dX7_account_73 : decode cX7_account 73 = .ok (.getfield 158, 3) := by decide +kernel
theorem dX7_account_76 : decode cX7_account 76 = .ok (.lreturn, 1) := by decide +kernel
theorem dX7_account_77 : decode cX7_account 77 = .ok (.aload_n 3, 1) := by decide +kernel
theorem dX7_account_78 : decode cX7_account 78 = .ok (.getfield 161, 3) := by decide +kernel
theorem dX7_account_81 : decode cX7_account 81 = .ok (.lreturn, 1) := by decide +kernel
theorem dX7_account_82 : decode cX7_account 82 = .ok (.aload_n 3, 1) := by decide +kernel
theorem dX7_account_83 : decode cX7_account 83 = .ok (.getfield 155, 3) := by decide +kernel
theorem dX7_account_86 : decode cX7_account 86 = .ok (.aload_n 3, 1) := by decide +kernel
theorem dX7_account_87 : decode cX7_account 87 = .ok (.getfield 139, 3) := by decide +kernel
theorem dX7_account_90 : decode cX7_account 90 = .ok (.i2l, 1) := by decide +kernel
theorem dX7_account_91 : decode cX7_account 91 = .ok (.aload_n 3, 1) := by decide +kernel
theorem dX7_account_92 : decode cX7_account 92 = .ok (.getfield 145, 3) := by decide +kernel
theorem dX7_account_95 : decode cX7_account 95 = .ok (.lmul, 1) := by decide +kernel
theorem dX7_account_96 : decode cX7_account 96 = .ok (.lsub, 1) := by decide +kernel
theorem dX7_account_97 : decode cX7_account 97 = .ok (.lload 4, 2) := by decide +kernel
theorem dX7_account_99 : decode cX7_account 99 = .ok (.lsub, 1) := by decide +kernel
theorem dX7_account_100 : decode cX7_account 100 = .ok (.lreturn, 1) := by decide +kernel
theorem dX7_account_101 : decode cX7_account 101 = .ok (.new 114, 3) := by decide +kernel
theorem dX7_account_104 : decode cX7_account 104 = .ok (.dup, 1) := by decide +kernel
theorem dX7_account_105 : decode cX7_account 105 = .ok (.ldc 164, 2) := by decide +kernel
theorem dX7_account_107 : decode cX7_account 107 = .ok (.invokespecial 118, 3) := by decide +kernel
theorem dX7_account_110 : decode cX7_account 110 = .ok (.athrow, 1) := by decide +kernel
theorem dX7_tube_0 : decode cX7_tube 0 = .ok (.aload_n 0, 1) := by decide +kernel
theorem dX7_tube_1 : decode cX7_tube 1 = .ok (.iload_n 1, 1) := by decide +kernel
theorem dX7_tube_2 : decode cX7_tube 2 = .ok (.invokevirtual 166, 3) := by decide +kernel
theorem dX7_tube_5 : decode cX7_tube 5 = .ok (.iload_n 2, 1) := by decide +kernel
theorem dX7_tube_6 : decode cX7_tube 6 = .ok (.ifCond .lt 9, 3) := by decide +kernel
theorem dX7_tube_9 : decode cX7_tube 9 = .ok (.iload_n 2, 1) := by decide +kernel
theorem dX7_tube_10 : decode cX7_tube 10 = .ok (.bipush 10, 2) := by decide +kernel
theorem dX7_tube_12 : decode cX7_tube 12 = .ok (.if_icmp .le 13, 3) := by decide +kernel
theorem dX7_tube_15 : decode cX7_tube 15 = .ok (.new 114, 3) := by decide +kernel
theorem dX7_tube_18 : decode cX7_tube 18 = .ok (.dup, 1) := by decide +kernel
theorem dX7_tube_19 : decode cX7_tube 19 = .ok (.ldc 169, 2) := by decide +kernel
theorem dX7_tube_21 : decode cX7_tube 21 = .ok (.invokespecial 118, 3) := by decide +kernel
theorem dX7_tube_24 : decode cX7_tube 24 = .ok (.athrow, 1) := by decide +kernel
theorem dX7_tube_25 : decode cX7_tube 25 = .ok (.aload_n 0, 1) := by decide +kernel
theorem dX7_tube_26 : decode cX7_tube 26 = .ok (.getfield 10, 3) := by decide +kernel
theorem dX7_tube_29 : decode cX7_tube 29 = .ok (.iload_n 1, 1) := by decide +kernel
theorem dX7_tube_30 : decode cX7_tube 30 = .ok (.iload_n 2, 1) := by decide +kernel
theorem dX7_tube_31 : decode cX7_tube 31 = .ok (.invokevirtual 171, 3) := by decide +kernel
theorem dX7_tube_34 : decode cX7_tube 34 = .ok (.ireturn, 1) := by decide +kernel
theorem dX7_told_0 : decode cX7_told 0 = .ok (.aload_n 0, 1) := by decide +kernel
theorem dX7_told_1 : decode cX7_told 1 = .ok (.iload_n 1, 1) := by decide +kernel
theorem dX7_told_2 : decode cX7_told 2 = .ok (.invokevirtual 166, 3) := by decide +kernel
theorem dX7_told_5 : decode cX7_told 5 = .ok (.aload_n 0, 1) := by decide +kernel
theorem dX7_told_6 : decode cX7_told 6 = .ok (.getfield 10, 3) := by decide +kernel
theorem dX7_told_9 : decode cX7_told 9 = .ok (.iload_n 1, 1) := by decide +kernel
theorem dX7_told_10 : decode cX7_told 10 = .ok (.invokevirtual 175, 3) := by decide +kernel
theorem dX7_told_13 : decode cX7_told 13 = .ok (.astore_n 2, 1) := by decide +kernel
theorem dX7_told_14 : decode cX7_told 14 = .ok (.aload_n 2, 1) := by decide +kernel
theorem dX7_told_15 : decode cX7_told 15 = .ok (.getfield 179, 3) := by decide +kernel
theorem dX7_told_18 : decode cX7_told 18 = .ok (.ifCond .ne 14, 3) := by decide +kernel
theorem dX7_told_21 : decode cX7_told 21 = .ok (.aload_n 0, 1) := by decide +kernel
theorem dX7_told_22 : decode cX7_told 22 = .ok (.getfield 10, 3) := by decide +kernel
theorem dX7_told_25 : decode cX7_told 25 = .ok (.aload_n 2, 1) := by decide +kernel
theorem dX7_told_26 : decode cX7_told 26 = .ok (.invokevirtual 184, 3) := by decide +kernel
theorem dX7_told_29 : decode cX7_told 29 = .ok (.goto 5, 3) := by decide +kernel
theorem dX7_told_32 : decode cX7_told 32 = .ok (.ldc 188, 2) := by decide +kernel
theorem dX7_told_34 : decode cX7_told 34 = .ok (.ireturn, 1) := by decide +kernel
theorem dX7_off_0 : decode cX7_off 0 = .ok (.aload_n 0, 1) := by decide +kernel
theorem dX7_off_1 : decode cX7_off 1 = .ok (.iload_n 1, 1) := by decide +kernel
theorem dX7_off_2 : decode cX7_off 2 = .ok (.invokevirtual 166, 3) := by decide +kernel
theorem dX7_off_5 : decode cX7_off 5 = .ok (.aload_n 0, 1) := by decide +kernel
theorem dX7_off_6 : decode cX7_off 6 = .ok (.getfield 10, 3) := by decide +kernel
theorem dX7_off_9 : decode cX7_off 9 = .ok (.iload_n 1, 1) := by decide +kernel
theorem dX7_off_10 : decode cX7_off 10 = .ok (.invokevirtual 175, 3) := by decide +kernel
theorem dX7_off_13 : decode cX7_off 13 = .ok (.astore_n 2, 1) := by decide +kernel
theorem dX7_off_14 : decode cX7_off 14 = .ok (.aload_n 2, 1) := by decide +kernel
theorem dX7_off_15 : decode cX7_off 15 = .ok (.getfield 179, 3) := by decide +kernel
theorem dX7_off_18 : decode cX7_off 18 = .ok (.ifCond .ne 14, 3) := by decide +kernel
theorem dX7_off_21 : decode cX7_off 21 = .ok (.aload_n 0, 1) := by decide +kernel
theorem dX7_off_22 : decode cX7_off 22 = .ok (.getfield 10, 3) := by decide +kernel
theorem dX7_off_25 : decode cX7_off 25 = .ok (.aload_n 2, 1) := by decide +kernel
theorem dX7_off_26 : decode cX7_off 26 = .ok (.invokevirtual 189, 3) := by decide +kernel
theorem dX7_off_29 : decode cX7_off 29 = .ok (.goto 5, 3) := by decide +kernel
theorem dX7_off_32 : decode cX7_off 32 = .ok (.ldc 188, 2) := by decide +kernel
theorem dX7_off_34 : decode cX7_off 34 = .ok (.ireturn, 1) := by decide +kernel
theorem dX7_difference_0 : decode cX7_difference 0 = .ok (.aload_n 0, 1) := by decide +kernel
theorem dX7_difference_1 : decode cX7_difference 1 = .ok (.iload_n 1, 1) := by decide +kernel
theorem dX7_difference_2 : decode cX7_difference 2 = .ok (.invokevirtual 166, 3) := by decide +kernel
theorem dX7_difference_5 : decode cX7_difference 5 = .ok (.aload_n 0, 1) := by decide +kernel
theorem dX7_difference_6 : decode cX7_difference 6 = .ok (.iload_n 2, 1) := by decide +kernel
theorem dX7_difference_7 : decode cX7_difference 7 = .ok (.invokevirtual 166, 3) := by decide +kernel
theorem dX7_difference_10 : decode cX7_difference 10 = .ok (.aload_n 0, 1) := by decide +kernel
theorem dX7_difference_11 : decode cX7_difference 11 = .ok (.getfield 10, 3) := by decide +kernel
theorem dX7_difference_14 : decode cX7_difference 14 = .ok (.iload_n 1, 1) := by decide +kernel
theorem dX7_difference_15 : decode cX7_difference 15 = .ok (.invokevirtual 175, 3) := by decide +kernel
theorem dX7_difference_18 : decode cX7_difference 18 = .ok (.astore_n 3, 1) := by decide +kernel
theorem dX7_difference_19 : decode cX7_difference 19 = .ok (.aload_n 0, 1) := by decide +kernel
theorem dX7_difference_20 : decode cX7_difference 20 = .ok (.getfield 10, 3) := by decide +kernel
theorem dX7_difference_23 : decode cX7_difference 23 = .ok (.iload_n 2, 1) := by decide +kernel
theorem dX7_difference_24 : decode cX7_difference 24 = .ok (.invokevirtual 175, 3) := by decide +kernel
theorem dX7_difference_27 : decode cX7_difference 27 = .ok (.astore 4, 2) := by decide +kernel
theorem dX7_difference_29 : decode cX7_difference 29 = .ok (.aload_n 3, 1) := by decide +kernel
theorem dX7_difference_30 : decode cX7_difference 30 = .ok (.getfield 179, 3) := by decide +kernel
theorem dX7_difference_33 : decode cX7_difference 33 = .ok (.ifCond .ne 24, 3) := by decide +kernel
theorem dX7_difference_36 : decode cX7_difference 36 = .ok (.aload 4, 2) := by decide +kernel
theorem dX7_difference_38 : decode cX7_difference 38 = .ok (.getfield 179, 3) := by decide +kernel
theorem dX7_difference_41 : decode cX7_difference 41 = .ok (.ifCond .ne 16, 3) := by decide +kernel
theorem dX7_difference_44 : decode cX7_difference 44 = .ok (.aload_n 0, 1) := by decide +kernel
theorem dX7_difference_45 : decode cX7_difference 45 = .ok (.getfield 10, 3) := by decide +kernel
theorem dX7_difference_48 : decode cX7_difference 48 = .ok (.aload_n 3, 1) := by decide +kernel
theorem dX7_difference_49 : decode cX7_difference 49 = .ok (.aload 4, 2) := by decide +kernel
theorem dX7_difference_51 : decode cX7_difference 51 = .ok (.invokevirtual 192, 3) := by decide +kernel
theorem dX7_difference_54 : decode cX7_difference 54 = .ok (.goto 5, 3) := by decide +kernel
theorem dX7_difference_57 : decode cX7_difference 57 = .ok (.ldc 188, 2) := by decide +kernel
theorem dX7_difference_59 : decode cX7_difference 59 = .ok (.ireturn, 1) := by decide +kernel
theorem dX7_ring_0 : decode cX7_ring 0 = .ok (.iconst (-1), 1) := by decide +kernel
theorem dX7_ring_1 : decode cX7_ring 1 = .ok (.istore_n 1, 1) := by decide +kernel
theorem dX7_ring_2 : decode cX7_ring 2 = .ok (.iconst (-1), 1) := by decide +kernel
theorem dX7_ring_3 : decode cX7_ring 3 = .ok (.istore_n 2, 1) := by decide +kernel
theorem dX7_ring_4 : decode cX7_ring 4 = .ok (.iconst 0, 1) := by decide +kernel
theorem dX7_ring_5 : decode cX7_ring 5 = .ok (.istore_n 3, 1) := by decide +kernel
theorem dX7_ring_6 : decode cX7_ring 6 = .ok (.iconst 0, 1) := by decide +kernel
theorem dX7_ring_7 : decode cX7_ring 7 = .ok (.istore 4, 2) := by decide +kernel
theorem dX7_ring_9 : decode cX7_ring 9 = .ok (.iload 4, 2) := by decide +kernel
theorem dX7_ring_11 : decode cX7_ring 11 = .ok (.aload_n 0, 1) := by decide +kernel
theorem dX7_ring_12 : decode cX7_ring 12 = .ok (.getfield 10, 3) := by decide +kernel
theorem dX7_ring_15 : decode cX7_ring 15 = .ok (.getfield 108, 3) := by decide +kernel
theorem dX7_ring_18 : decode cX7_ring 18 = .ok (.if_icmp .ge 65, 3) := by decide +kernel
theorem dX7_ring_21 : decode cX7_ring 21 = .ok (.aload_n 0, 1) := by decide +kernel
theorem dX7_ring_22 : decode cX7_ring 22 = .ok (.getfield 10, 3) := by decide +kernel
theorem dX7_ring_25 : decode cX7_ring 25 = .ok (.iload 4, 2) := by decide +kernel
theorem dX7_ring_27 : decode cX7_ring 27 = .ok (.invokevirtual 175, 3) := by decide +kernel
theorem dX7_ring_30 : decode cX7_ring 30 = .ok (.getfield 179, 3) := by decide +kernel
theorem dX7_ring_33 : decode cX7_ring 33 = .ok (.ifCond .ne 44, 3) := by decide +kernel
theorem dX7_ring_36 : decode cX7_ring 36 = .ok (.iload_n 2, 1) := by decide +kernel
theorem dX7_ring_37 : decode cX7_ring 37 = .ok (.iconst (-1), 1) := by decide +kernel
theorem dX7_ring_38 : decode cX7_ring 38 = .ok (.if_icmp .ne 9, 3) := by decide +kernel
theorem dX7_ring_41 : decode cX7_ring 41 = .ok (.iload 4, 2) := by decide +kernel
theorem dX7_ring_43 : decode cX7_ring 43 = .ok (.istore_n 1, 1) := by decide +kernel
theorem dX7_ring_44 : decode cX7_ring 44 = .ok (.goto 30, 3) := by decide +kernel
theorem dX7_ring_47 : decode cX7_ring 47 = .ok (.iload_n 3, 1) := by decide +kernel
theorem dX7_ring_48 : decode cX7_ring 48 = .ok (.aload_n 0, 1) := by decide +kernel
theorem dX7_ring_49 : decode cX7_ring 49 = .ok (.getfield 10, 3) := by decide +kernel
theorem dX7_ring_52 : decode cX7_ring 52 = .ok (.aload_n 0, 1) := by decide +kernel
theorem dX7_ring_53 : decode cX7_ring 53 = .ok (.getfield 10, 3) := by decide +kernel
theorem dX7_ring_56 : decode cX7_ring 56 = .ok (.iload_n 2, 1) := by decide +kernel
theorem dX7_ring_57 : decode cX7_ring 57 = .ok (.invokevirtual 175, 3) := by decide +kernel
theorem dX7_ring_60 : decode cX7_ring 60 = .ok (.aload_n 0, 1) := by decide +kernel
theorem dX7_ring_61 : decode cX7_ring 61 = .ok (.getfield 10, 3) := by decide +kernel
theorem dX7_ring_64 : decode cX7_ring 64 = .ok (.iload 4, 2) := by decide +kernel
theorem dX7_ring_66 : decode cX7_ring 66 = .ok (.invokevirtual 175, 3) := by decide +kernel
theorem dX7_ring_69 : decode cX7_ring 69 = .ok (.invokevirtual 192, 3) := by decide +kernel
theorem dX7_ring_72 : decode cX7_ring 72 = .ok (.iadd, 1) := by decide +kernel
theorem dX7_ring_73 : decode cX7_ring 73 = .ok (.istore_n 3, 1) := by decide +kernel
theorem dX7_ring_74 : decode cX7_ring 74 = .ok (.iload 4, 2) := by decide +kernel
theorem dX7_ring_76 : decode cX7_ring 76 = .ok (.istore_n 2, 1) := by decide +kernel
theorem dX7_ring_77 : decode cX7_ring 77 = .ok (.iinc 4 1, 3) := by decide +kernel
theorem dX7_ring_80 : decode cX7_ring 80 = .ok (.goto (-71), 3) := by decide +kernel
theorem dX7_ring_83 : decode cX7_ring 83 = .ok (.iload_n 1, 1) := by decide +kernel
theorem dX7_ring_84 : decode cX7_ring 84 = .ok (.iload_n 2, 1) := by decide +kernel
theorem dX7_ring_85 : decode cX7_ring 85 = .ok (.if_icmp .ne 5, 3) := by decide +kernel
theorem dX7_ring_88 : decode cX7_ring 88 = .ok (.iconst 0, 1) := by decide +kernel
theorem dX7_ring_89 : decode cX7_ring 89 = .ok (.ireturn, 1) := by decide +kernel
theorem dX7_ring_90 : decode cX7_ring 90 = .ok (.iload_n 3, 1) := by decide +kernel
theorem dX7_ring_91 : decode cX7_ring 91 = .ok (.aload_n 0, 1) := by decide +kernel
theorem dX7_ring_92 : decode cX7_ring 92 = .ok (.getfield 10, 3) := by decide +kernel
theorem dX7_ring_95 : decode cX7_ring 95 = .ok (.aload_n 0, 1) := by decide +kernel
theorem dX7_ring_96 : decode cX7_ring 96 = .ok (.getfield 10, 3) := by decide +kernel
theorem dX7_ring_99 : decode cX7_ring 99 = .ok (.iload_n 2, 1) := by decide +kernel
theorem dX7_ring_100 : decode cX7_ring 100 = .ok (.invokevirtual 175, 3) := by decide +kernel
theorem dX7_ring_103 : decode cX7_ring 103 = .ok (.aload_n 0, 1) := by decide +kernel
theorem dX7_ring_104 : decode cX7_ring 104 = .ok (.getfield 10, 3) := by decide +kernel
theorem dX7_ring_107 : decode cX7_ring 107 = .ok (.iload_n 1, 1) := by decide +kernel
theorem dX7_ring_108 : decode cX7_ring 108 = .ok (.invokevirtual 175, 3) := by decide +kernel
theorem dX7_ring_111 : decode cX7_ring 111 = .ok (.invokevirtual 192, 3) := by decide +kernel
theorem dX7_ring_114 : decode cX7_ring 114 = .ok (.iadd, 1) := by decide +kernel
theorem dX7_ring_115 : decode cX7_ring 115 = .ok (.ireturn, 1) := by decide +kernel
theorem dX7_room_0 : decode cX7_room 0 = .ok (.aload_n 0, 1) := by decide +kernel
theorem dX7_room_1 : decode cX7_room 1 = .ok (.iload_n 1, 1) := by decide +kernel
theorem dX7_room_2 : decode cX7_room 2 = .ok (.invokevirtual 166, 3) := by decide +kernel
theorem dX7_room_5 : decode cX7_room 5 = .ok (.aload_n 0, 1) := by decide +kernel
theorem dX7_room_6 : decode cX7_room 6 = .ok (.getfield 10, 3) := by decide +kernel
theorem dX7_room_9 : decode cX7_room 9 = .ok (.iload_n 1, 1) := by decide +kernel
theorem dX7_room_10 : decode cX7_room 10 = .ok (.invokevirtual 175, 3) := by decide +kernel
theorem dX7_room_13 : decode cX7_room 13 = .ok (.astore_n 2, 1) := by decide +kernel
theorem dX7_room_14 : decode cX7_room 14 = .ok (.aload_n 2, 1) := by decide +kernel
theorem dX7_room_15 : decode cX7_room 15 = .ok (.getfield 179, 3) := by decide +kernel
theorem dX7_room_18 : decode cX7_room 18 = .ok (.ifCond .ne 15, 3) := by decide +kernel
theorem dX7_room_21 : decode cX7_room 21 = .ok (.aload_n 2, 1) := by decide +kernel
theorem dX7_room_22 : decode cX7_room 22 = .ok (.invokevirtual 196, 3) := by decide +kernel
theorem dX7_room_25 : decode cX7_room 25 = .ok (.aload_n 2, 1) := by decide +kernel
theorem dX7_room_26 : decode cX7_room 26 = .ok (.getfield 199, 3) := by decide +kernel
theorem dX7_room_29 : decode cX7_room 29 = .ok (.isub, 1) := by decide +kernel
theorem dX7_room_30 : decode cX7_room 30 = .ok (.goto 4, 3) := by decide +kernel
theorem dX7_room_33 : decode cX7_room 33 = .ok (.iconst (-1), 1) := by decide +kernel
theorem dX7_room_34 : decode cX7_room 34 = .ok (.ireturn, 1) := by decide +kernel
theorem dX7_longest_0 : decode cX7_longest 0 = .ok (.iconst (-1), 1) := by decide +kernel
theorem dX7_longest_1 : decode cX7_longest 1 = .ok (.istore_n 1, 1) := by decide +kernel
theorem dX7_longest_2 : decode cX7_longest 2 = .ok (.iconst (-1), 1) := by decide +kernel
theorem dX7_longest_3 : decode cX7_longest 3 = .ok (.istore_n 2, 1) := by decide +kernel
theorem dX7_longest_4 : decode cX7_longest 4 = .ok (.iconst 0, 1) := by decide +kernel
theorem dX7_longest_5 : decode cX7_longest 5 = .ok (.istore_n 3, 1) := by decide +kernel
theorem dX7_longest_6 : decode cX7_longest 6 = .ok (.iload_n 3, 1) := by decide +kernel
theorem dX7_longest_7 : decode cX7_longest 7 = .ok (.aload_n 0, 1) := by decide +kernel
theorem dX7_longest_8 : decode cX7_longest 8 = .ok (.getfield 10, 3) := by decide +kernel
theorem dX7_longest_11 : decode cX7_longest 11 = .ok (.getfield 108, 3) := by decide +kernel
theorem dX7_longest_14 : decode cX7_longest 14 = .ok (.if_icmp .ge 44, 3) := by decide +kernel
theorem dX7_longest_17 : decode cX7_longest 17 = .ok (.aload_n 0, 1) := by decide +kernel
theorem dX7_longest_18 : decode cX7_longest 18 = .ok (.getfield 10, 3) := by decide +kernel
theorem dX7_longest_21 : decode cX7_longest 21 = .ok (.iload_n 3, 1) := by decide +kernel
theorem dX7_longest_22 : decode cX7_longest 22 = .ok (.invokevirtual 175, 3) := by decide +kernel
theorem dX7_longest_25 : decode cX7_longest 25 = .ok (.astore 4, 2) := by decide +kernel
theorem dX7_longest_27 : decode cX7_longest 27 = .ok (.aload 4, 2) := by decide +kernel
theorem dX7_longest_29 : decode cX7_longest 29 = .ok (.getfield 179, 3) := by decide +kernel
theorem dX7_longest_32 : decode cX7_longest 32 = .ok (.ifCond .ne 20, 3) := by decide +kernel
theorem dX7_longest_35 : decode cX7_longest 35 = .ok (.aload 4, 2) := by decide +kernel
theorem dX7_longest_37 : decode cX7_longest 37 = .ok (.getfield 199, 3) := by decide +kernel
theorem dX7_longest_40 : decode cX7_longest 40 = .ok (.iload_n 2, 1) := by decide +kernel
theorem dX7_longest_41 : decode cX7_longest 41 = .ok (.if_icmp .le 11, 3) := by decide +kernel
theorem dX7_longest_44 : decode cX7_longest 44 = .ok (.iload_n 3, 1) := by decide +kernel
theorem dX7_longest_45 : decode cX7_longest 45 = .ok (.istore_n 1, 1) := by decide +kernel
theorem dX7_longest_46 : decode cX7_longest 46 = .ok (.aload 4, 2) := by decide +kernel
theorem dX7_longest_48 : decode cX7_longest 48 = .ok (.getfield 199, 3) := by decide +kernel
theorem dX7_longest_51 : decode cX7_longest 51 = .ok (.istore_n 2, 1) := by decide +kernel
theorem dX7_longest_52 : decode cX7_longest 52 = .ok (.iinc 3 1, 3) := by decide +kernel
theorem dX7_longest_55 : decode cX7_longest 55 = .ok (.goto (-49), 3) := by decide +kernel
theorem dX7_longest_58 : decode cX7_longest 58 = .ok (.iload_n 1, 1) := by decide +kernel
theorem dX7_longest_59 : decode cX7_longest 59 = .ok (.ireturn, 1) := by decide +kernel
theorem dX7_worst_0 : decode cX7_worst 0 = .ok (.iconst (-1), 1) := by decide +kernel
theorem dX7_worst_1 : decode cX7_worst 1 = .ok (.istore_n 1, 1) := by decide +kernel
theorem dX7_worst_2 : decode cX7_worst 2 = .ok (.iconst (-1), 1) := by decide +kernel
theorem dX7_worst_3 : decode cX7_worst 3 = .ok (.istore_n 2, 1) := by decide +kernel
theorem dX7_worst_4 : decode cX7_worst 4 = .ok (.iconst 0, 1) := by decide +kernel
theorem dX7_worst_5 : decode cX7_worst 5 = .ok (.istore_n 3, 1) := by decide +kernel
theorem dX7_worst_6 : decode cX7_worst 6 = .ok (.iload_n 3, 1) := by decide +kernel
theorem dX7_worst_7 : decode cX7_worst 7 = .ok (.aload_n 0, 1) := by decide +kernel
theorem dX7_worst_8 : decode cX7_worst 8 = .ok (.getfield 10, 3) := by decide +kernel
theorem dX7_worst_11 : decode cX7_worst 11 = .ok (.getfield 108, 3) := by decide +kernel
theorem dX7_worst_14 : decode cX7_worst 14 = .ok (.if_icmp .ge 58, 3) := by decide +kernel
theorem dX7_worst_17 : decode cX7_worst 17 = .ok (.aload_n 0, 1) := by decide +kernel
theorem dX7_worst_18 : decode cX7_worst 18 = .ok (.getfield 10, 3) := by decide +kernel
theorem dX7_worst_21 : decode cX7_worst 21 = .ok (.iload_n 3, 1) := by decide +kernel
theorem dX7_worst_22 : decode cX7_worst 22 = .ok (.invokevirtual 175, 3) := by decide +kernel
theorem dX7_worst_25 : decode cX7_worst 25 = .ok (.astore 4, 2) := by decide +kernel
theorem dX7_worst_27 : decode cX7_worst 27 = .ok (.aload 4, 2) := by decide +kernel
theorem dX7_worst_29 : decode cX7_worst 29 = .ok (.getfield 179, 3) := by decide +kernel
theorem dX7_worst_32 : decode cX7_worst 32 = .ok (.ifCond .ne 34, 3) := by decide +kernel
theorem dX7_worst_35 : decode cX7_worst 35 = .ok (.aload_n 0, 1) := by decide +kernel
theorem dX7_worst_36 : decode cX7_worst 36 = .ok (.getfield 10, 3) := by decide +kernel
theorem dX7_worst_39 : decode cX7_worst 39 = .ok (.aload 4, 2) := by decide +kernel
theorem dX7_worst_41 : decode cX7_worst 41 = .ok (.invokevirtual 189, 3) := by decide +kernel
theorem dX7_worst_44 : decode cX7_worst 44 = .ok (.invokestatic 202, 3) := by decide +kernel
theorem dX7_worst_47 : decode cX7_worst 47 = .ok (.iload_n 2, 1) := by decide +kernel
theorem dX7_worst_48 : decode cX7_worst 48 = .ok (.if_icmp .le 18, 3) := by decide +kernel
theorem dX7_worst_51 : decode cX7_worst 51 = .ok (.iload_n 3, 1) := by decide +kernel
theorem dX7_worst_52 : decode cX7_worst 52 = .ok (.istore_n 1, 1) := by decide +kernel
theorem dX7_worst_53 : decode cX7_worst 53 = .ok (.aload_n 0, 1) := by decide +kernel
theorem dX7_worst_54 : decode cX7_worst 54 = .ok (.getfield 10, 3) := by decide +kernel
theorem dX7_worst_57 : decode cX7_worst 57 = .ok (.aload 4, 2) := by decide +kernel
theorem dX7_worst_59 : decode cX7_worst 59 = .ok (.invokevirtual 189, 3) := by decide +kernel
theorem dX7_worst_62 : decode cX7_worst 62 = .ok (.invokestatic 202, 3) := by decide +kernel
theorem dX7_worst_65 : decode cX7_worst 65 = .ok (.istore_n 2, 1) := by decide +kernel
theorem dX7_worst_66 : decode cX7_worst 66 = .ok (.iinc 3 1, 3) := by decide +kernel
theorem dX7_worst_69 : decode cX7_worst 69 = .ok (.goto (-63), 3) := by decide +kernel
theorem dX7_worst_72 : decode cX7_worst 72 = .ok (.iload_n 1, 1) := by decide +kernel
theorem dX7_worst_73 : decode cX7_worst 73 = .ok (.ireturn, 1) := by decide +kernel
theorem dX7_agree_0 : decode cX7_agree 0 = .ok (.aload_n 0, 1) := by decide +kernel
theorem dX7_agree_1 : decode cX7_agree 1 = .ok (.iload_n 1, 1) := by decide +kernel
theorem dX7_agree_2 : decode cX7_agree 2 = .ok (.invokevirtual 121, 3) := by decide +kernel
theorem dX7_agree_5 : decode cX7_agree 5 = .ok (.iload_n 2, 1) := by decide +kernel
theorem dX7_agree_6 : decode cX7_agree 6 = .ok (.iconst 0, 1) := by decide +kernel
theorem dX7_agree_7 : decode cX7_agree 7 = .ok (.ldc 207, 2) := by decide +kernel
theorem dX7_agree_9 : decode cX7_agree 9 = .ok (.invokestatic 60, 3) := by decide +kernel
theorem dX7_agree_12 : decode cX7_agree 12 = .ok (.iconst 0, 1) := by decide +kernel
theorem dX7_agree_13 : decode cX7_agree 13 = .ok (.istore_n 3, 1) := by decide +kernel
theorem dX7_agree_14 : decode cX7_agree 14 = .ok (.iconst 0, 1) := by decide +kernel
theorem dX7_agree_15 : decode cX7_agree 15 = .ok (.istore 4, 2) := by decide +kernel
theorem dX7_agree_17 : decode cX7_agree 17 = .ok (.iconst 0, 1) := by decide +kernel
theorem dX7_agree_18 : decode cX7_agree 18 = .ok (.istore 5, 2) := by decide +kernel
theorem dX7_agree_20 : decode cX7_agree 20 = .ok (.iconst 0, 1) := by decide +kernel
theorem dX7_agree_21 : decode cX7_agree 21 = .ok (.istore 6, 2) := by decide +kernel
theorem dX7_agree_23 : decode cX7_agree 23 = .ok (.iload 6, 2) := by decide +kernel
theorem dX7_agree_25 : decode cX7_agree 25 = .ok (.aload_n 0, 1) := by decide +kernel
theorem dX7_agree_26 : decode cX7_agree 26 = .ok (.getfield 10, 3) := by decide +kernel
theorem dX7_agree_29 : decode cX7_agree 29 = .ok (.getfield 108, 3) := by decide +kernel
theorem dX7_agree_32 : decode cX7_agree 32 = .ok (.if_icmp .ge 86, 3) := by decide +kernel
theorem dX7_agree_35 : decode cX7_agree 35 = .ok (.aload_n 0, 1) := by decide +kernel
theorem dX7_agree_36 : decode cX7_agree 36 = .ok (.getfield 10, 3) := by decide +kernel
theorem dX7_agree_39 : decode cX7_agree 39 = .ok (.iload 6, 2) := by decide +kernel
theorem dX7_agree_41 : decode cX7_agree 41 = .ok (.invokevirtual 175, 3) := by decide +kernel
theorem dX7_agree_44 : decode cX7_agree 44 = .ok (.astore 7, 2) := by decide +kernel
theorem dX7_agree_46 : decode cX7_agree 46 = .ok (.aload 7, 2) := by decide +kernel
theorem dX7_agree_48 : decode cX7_agree 48 = .ok (.getfield 179, 3) := by decide +kernel
theorem dX7_agree_51 : decode cX7_agree 51 = .ok (.ifCond .ne 61, 3) := by decide +kernel
theorem dX7_agree_54 : decode cX7_agree 54 = .ok (.aload 7, 2) := by decide +kernel
theorem dX7_agree_56 : decode cX7_agree 56 = .ok (.getfield 208, 3) := by decide +kernel
theorem dX7_agree_59 : decode cX7_agree 59 = .ok (.iload_n 1, 1) := by decide +kernel
theorem dX7_agree_60 : decode cX7_agree 60 = .ok (.if_icmp .ne 52, 3) := by decide +kernel
theorem dX7_agree_63 : decode cX7_agree 63 = .ok (.aload_n 0, 1) := by decide +kernel
theorem dX7_agree_64 : decode cX7_agree 64 = .ok (.getfield 10, 3) := by decide +kernel
theorem dX7_agree_67 : decode cX7_agree 67 = .ok (.aload 7, 2) := by decide +kernel
theorem dX7_agree_69 : decode cX7_agree 69 = .ok (.invokevirtual 184, 3) := by decide +kernel
theorem dX7_agree_72 : decode cX7_agree 72 = .ok (.istore 8, 2) := by decide +kernel
theorem dX7_agree_74 : decode cX7_agree 74 = .ok (.iload_n 3, 1) := by decide +kernel
theorem dX7_agree_75 : decode cX7_agree 75 = .ok (.ifCond .eq 13, 3) := by decide +kernel
theorem dX7_agree_78 : decode cX7_agree 78 = .ok (.iload 4, 2) := by decide +kernel
theorem dX7_agree_80 : decode cX7_agree 80 = .ok (.iload 8, 2) := by decide +kernel
theorem dX7_agree_82 : decode cX7_agree 82 = .ok (.invokestatic 211, 3) := by decide +kernel
theorem dX7_agree_85 : decode cX7_agree 85 = .ok (.goto 5, 3) := by decide +kernel
theorem dX7_agree_88 : decode cX7_agree 88 = .ok (.iload 8, 2) := by decide +kernel
theorem dX7_agree_90 : decode cX7_agree 90 = .ok (.istore 4, 2) := by decide +kernel
theorem dX7_agree_92 : decode cX7_agree 92 = .ok (.iload_n 3, 1) := by decide +kernel
theorem dX7_agree_93 : decode cX7_agree 93 = .ok (.ifCond .eq 13, 3) := by decide +kernel
theorem dX7_agree_96 : decode cX7_agree 96 = .ok (.iload 5, 2) := by decide +kernel
theorem dX7_agree_98 : decode cX7_agree 98 = .ok (.iload 8, 2) := by decide +kernel
theorem dX7_agree_100 : decode cX7_agree 100 = .ok (.invokestatic 214, 3) := by decide +kernel
theorem dX7_agree_103 : decode cX7_agree 103 = .ok (.goto 5, 3) := by decide +kernel
theorem dX7_agree_106 : decode cX7_agree 106 = .ok (.iload 8, 2) := by decide +kernel
theorem dX7_agree_108 : decode cX7_agree 108 = .ok (.istore 5, 2) := by decide +kernel
theorem dX7_agree_110 : decode cX7_agree 110 = .ok (.iconst 1, 1) := by decide +kernel
theorem dX7_agree_111 : decode cX7_agree 111 = .ok (.istore_n 3, 1) := by decide +kernel
theorem dX7_agree_112 : decode cX7_agree 112 = .ok (.iinc 6 1, 3) := by decide +kernel
theorem dX7_agree_115 : decode cX7_agree 115 = .ok (.goto (-92), 3) := by decide +kernel
theorem dX7_agree_118 : decode cX7_agree 118 = .ok (.iload 5, 2) := by decide +kernel
theorem dX7_agree_120 : decode cX7_agree 120 = .ok (.iload 4, 2) := by decide +kernel
theorem dX7_agree_122 : decode cX7_agree 122 = .ok (.isub, 1) := by decide +kernel
theorem dX7_agree_123 : decode cX7_agree 123 = .ok (.iload_n 2, 1) := by decide +kernel
theorem dX7_agree_124 : decode cX7_agree 124 = .ok (.if_icmp .gt 7, 3) := by decide +kernel
theorem dX7_agree_127 : decode cX7_agree 127 = .ok (.iconst 1, 1) := by decide +kernel
theorem dX7_agree_128 : decode cX7_agree 128 = .ok (.goto 4, 3) := by decide +kernel
theorem dX7_agree_131 : decode cX7_agree 131 = .ok (.iconst 0, 1) := by decide +kernel
theorem dX7_agree_132 : decode cX7_agree 132 = .ok (.ireturn, 1) := by decide +kernel
theorem dX7_wouldBreak_0 : decode cX7_wouldBreak 0 = .ok (.aload_n 0, 1) := by decide +kernel
theorem dX7_wouldBreak_1 : decode cX7_wouldBreak 1 = .ok (.iload_n 1, 1) := by decide +kernel
theorem dX7_wouldBreak_2 : decode cX7_wouldBreak 2 = .ok (.invokevirtual 121, 3) := by decide +kernel
theorem dX7_wouldBreak_5 : decode cX7_wouldBreak 5 = .ok (.iload_n 2, 1) := by decide +kernel
theorem dX7_wouldBreak_6 : decode cX7_wouldBreak 6 = .ok (.iconst 0, 1) := by decide +kernel
theorem dX7_wouldBreak_7 : decode cX7_wouldBreak 7 = .ok (.ldc 207, 2) := by decide +kernel
theorem dX7_wouldBreak_9 : decode cX7_wouldBreak 9 = .ok (.invokestatic 60, 3) := by decide +kernel
theorem dX7_wouldBreak_12 : decode cX7_wouldBreak 12 = .ok (.aload_n 0, 1) := by decide +kernel
theorem dX7_wouldBreak_13 : decode cX7_wouldBreak 13 = .ok (.iload_n 1, 1) := by decide +kernel
theorem dX7_wouldBreak_14 : decode cX7_wouldBreak 14 = .ok (.iload_n 2, 1) := by decide +kernel
theorem dX7_wouldBreak_15 : decode cX7_wouldBreak 15 = .ok (.invokevirtual 217, 3) := by decide +kernel
theorem dX7_wouldBreak_18 : decode cX7_wouldBreak 18 = .ok (.iconst 0, 1) := by decide +kernel
theorem dX7_wouldBreak_19 : decode cX7_wouldBreak 19 = .ok (.istore_n 3, 1) := by decide +kernel
theorem dX7_wouldBreak_20 : decode cX7_wouldBreak 20 = .ok (.iconst 0, 1) := by decide +kernel
theorem dX7_wouldBreak_21 : decode cX7_wouldBreak 21 = .ok (.istore 4, 2) := by decide +kernel
theorem dX7_wouldBreak_23 : decode cX7_wouldBreak 23 = .ok (.iload 4, 2) := by decide +kernel
theorem dX7_wouldBreak_25 : decode cX7_wouldBreak 25 = .ok (.aload_n 0, 1) := by decide +kernel
theorem dX7_wouldBreak_26 : decode cX7_wouldBreak 26 = .ok (.getfield 10, 3) := by decide +kernel
theorem dX7_wouldBreak_29 : decode cX7_wouldBreak 29 = .ok (.getfield 108, 3) := by decide +kernel
theorem dX7_wouldBreak_32 : decode cX7_wouldBreak 32 = .ok (.if_icmp .ge 46, 3) := by decide +kernel
theorem dX7_wouldBreak_35 : decode cX7_wouldBreak 35 = .ok (.aload_n 0, 1) := by decide +kernel
theorem dX7_wouldBreak_36 : decode cX7_wouldBreak 36 = .ok (.getfield 10, 3) := by decide +kernel
theorem dX7_wouldBreak_39 : decode cX7_wouldBreak 39 = .ok (.iload 4, 2) := by decide +kernel
theorem dX7_wouldBreak_41 : decode cX7_wouldBreak 41 = .ok (.invokevirtual 175, 3) := by decide +kernel
theorem dX7_wouldBreak_44 : decode cX7_wouldBreak 44 = .ok (.getfield 179, 3) := by decide +kernel
theorem dX7_wouldBreak_47 : decode cX7_wouldBreak 47 = .ok (.ifCond .ne 25, 3) := by decide +kernel
theorem dX7_wouldBreak_50 : decode cX7_wouldBreak 50 = .ok (.aload_n 0, 1) := by decide +kernel
theorem dX7_wouldBreak_51 : decode cX7_wouldBreak 51 = .ok (.getfield 16, 3) := by decide +kernel
theorem dX7_wouldBreak_54 : decode cX7_wouldBreak 54 = .ok (.iload 4, 2) := by decide +kernel
theorem dX7_wouldBreak_56 : decode cX7_wouldBreak 56 = .ok (.invokevirtual 175, 3) := by decide +kernel
theorem dX7_wouldBreak_59 : decode cX7_wouldBreak 59 = .ok (.getfield 179, 3) := by decide +kernel
theorem dX7_wouldBreak_62 : decode cX7_wouldBreak 62 = .ok (.ifCond .eq 10, 3) := by decide +kernel
theorem dX7_wouldBreak_65 : decode cX7_wouldBreak 65 = .ok (.iload_n 3, 1) := by decide +kernel
theorem dX7_wouldBreak_66 : decode cX7_wouldBreak 66 = .ok (.iconst 1, 1) := by decide +kernel
theorem dX7_wouldBreak_67 : decode cX7_wouldBreak 67 = .ok (.iload 4, 2) := by decide +kernel
theorem dX7_wouldBreak_69 : decode cX7_wouldBreak 69 = .ok (.ishl, 1) := by decide +kernel
theorem dX7_wouldBreak_70 : decode cX7_wouldBreak 70 = .ok (.ior, 1) := by decide +kernel
theorem dX7_wouldBreak_71 : decode cX7_wouldBreak 71 = .ok (.istore_n 3, 1) := by decide +kernel
theorem dX7_wouldBreak_72 : decode cX7_wouldBreak 72 = .ok (.iinc 4 1, 3) := by decide +kernel
theorem dX7_wouldBreak_75 : decode cX7_wouldBreak 75 = .ok (.goto (-52), 3) := by decide +kernel
theorem dX7_wouldBreak_78 : decode cX7_wouldBreak 78 = .ok (.iload_n 3, 1) := by decide +kernel
theorem dX7_wouldBreak_79 : decode cX7_wouldBreak 79 = .ok (.ireturn, 1) := by decide +kernel
theorem dX7_readingWith_0 : decode cX7_readingWith 0 = .ok (.aload_n 0, 1) := by decide +kernel
theorem dX7_readingWith_1 : decode cX7_readingWith 1 = .ok (.iload_n 1, 1) := by decide +kernel
theorem dX7_readingWith_2 : decode cX7_readingWith 2 = .ok (.invokevirtual 166, 3) := by decide +kernel
theorem dX7_readingWith_5 : decode cX7_readingWith 5 = .ok (.aload_n 0, 1) := by decide +kernel
theorem dX7_readingWith_6 : decode cX7_readingWith 6 = .ok (.iload_n 2, 1) := by decide +kernel
theorem dX7_readingWith_7 : decode cX7_readingWith 7 = .ok (.invokevirtual 121, 3) := by decide +kernel
theorem dX7_readingWith_10 : decode cX7_readingWith 10 = .ok (.iload_n 3, 1) := by decide +kernel
theorem dX7_readingWith_11 : decode cX7_readingWith 11 = .ok (.iconst 0, 1) := by decide +kernel
theorem dX7_readingWith_12 : decode cX7_readingWith 12 = .ok (.ldc 207, 2) := by decide +kernel
theorem dX7_readingWith_14 : decode cX7_readingWith 14 = .ok (.invokestatic 60, 3) := by decide +kernel
theorem dX7_readingWith_17 : decode cX7_readingWith 17 = .ok (.aload_n 0, 1) := by decide +kernel
theorem dX7_readingWith_18 : decode cX7_readingWith 18 = .ok (.iload_n 2, 1) := by decide +kernel
theorem dX7_readingWith_19 : decode cX7_readingWith 19 = .ok (.iload_n 3, 1) := by decide +kernel
theorem dX7_readingWith_20 : decode cX7_readingWith 20 = .ok (.invokevirtual 217, 3) := by decide +kernel
theorem dX7_readingWith_23 : decode cX7_readingWith 23 = .ok (.aload_n 0, 1) := by decide +kernel
theorem dX7_readingWith_24 : decode cX7_readingWith 24 = .ok (.getfield 16, 3) := by decide +kernel
theorem dX7_readingWith_27 : decode cX7_readingWith 27 = .ok (.iload_n 1, 1) := by decide +kernel
theorem dX7_readingWith_28 : decode cX7_readingWith 28 = .ok (.invokevirtual 175, 3) := by decide +kernel
theorem dX7_readingWith_31 : decode cX7_readingWith 31 = .ok (.invokevirtual 220, 3) := by decide +kernel
theorem dX7_readingWith_34 : decode cX7_readingWith 34 = .ok (.ireturn, 1) := by decide +kernel
theorem dX7_breaksIn_0 : decode cX7_breaksIn 0 = .ok (.aload_n 0, 1) := by decide +kernel
theorem dX7_breaksIn_1 : decode cX7_breaksIn 1 = .ok (.iload_n 1, 1) := by decide +kernel
theorem dX7_breaksIn_2 : decode cX7_breaksIn 2 = .ok (.invokevirtual 121, 3) := by decide +kernel
theorem dX7_breaksIn_5 : decode cX7_breaksIn 5 = .ok (.iload_n 2, 1) := by decide +kernel
theorem dX7_breaksIn_6 : decode cX7_breaksIn 6 = .ok (.sipush (-9999), 3) := by decide +kernel
theorem dX7_breaksIn_9 : decode cX7_breaksIn 9 = .ok (.sipush 9999, 3) := by decide +kernel
theorem dX7_breaksIn_12 : decode cX7_breaksIn 12 = .ok (.invokestatic 60, 3) := by decide +kernel
theorem dX7_breaksIn_15 : decode cX7_breaksIn 15 = .ok (.aload_n 0, 1) := by decide +kernel
theorem dX7_breaksIn_16 : decode cX7_breaksIn 16 = .ok (.getfield 16, 3) := by decide +kernel
theorem dX7_breaksIn_19 : decode cX7_breaksIn 19 = .ok (.aload_n 0, 1) := by decide +kernel
theorem dX7_breaksIn_20 : decode cX7_breaksIn 20 = .ok (.getfield 10, 3) := by decide +kernel
theorem dX7_breaksIn_23 : decode cX7_breaksIn 23 = .ok (.invokevirtual 81, 3) := by decide +kernel
theorem dX7_breaksIn_26 : decode cX7_breaksIn 26 = .ok (.iconst 1, 1) := by decide +kernel
theorem dX7_breaksIn_27 : decode cX7_breaksIn 27 = .ok (.istore_n 3, 1) := by decide +kernel
theorem dX7_breaksIn_28 : decode cX7_breaksIn 28 = .ok (.iload_n 3, 1) := by decide +kernel
theorem dX7_breaksIn_29 : decode cX7_breaksIn 29 = .ok (.bipush 60, 2) := by decide +kernel
theorem dX7_breaksIn_31 : decode cX7_breaksIn 31 = .ok (.if_icmp .gt 52, 3) := by decide +kernel
theorem dX7_breaksIn_34 : decode cX7_breaksIn 34 = .ok (.aload_n 0, 1) := by decide +kernel
theorem dX7_breaksIn_35 : decode cX7_breaksIn 35 = .ok (.getfield 16, 3) := by decide +kernel
theorem dX7_breaksIn_38 : decode cX7_breaksIn 38 = .ok (.iload_n 1, 1) := by decide +kernel
theorem dX7_breaksIn_39 : decode cX7_breaksIn 39 = .ok (.invokevirtual 124, 3) := by decide +kernel
theorem dX7_breaksIn_42 : decode cX7_breaksIn 42 = .ok (.iload_n 2, 1) := by decide +kernel
theorem dX7_breaksIn_43 : decode cX7_breaksIn 43 = .ok (.iadd, 1) := by decide +kernel
theorem dX7_breaksIn_44 : decode cX7_breaksIn 44 = .ok (.istore 4, 2) := by decide +kernel
theorem dX7_breaksIn_46 : decode cX7_breaksIn 46 = .ok (.aload_n 0, 1) := by decide +kernel
theorem dX7_breaksIn_47 : decode cX7_breaksIn 47 = .ok (.getfield 16, 3) := by decide +kernel
theorem dX7_breaksIn_50 : decode cX7_breaksIn 50 = .ok (.iload_n 1, 1) := by decide +kernel
theorem dX7_breaksIn_51 : decode cX7_breaksIn 51 = .ok (.iconst 0, 1) := by decide +kernel
theorem dX7_breaksIn_52 : decode cX7_breaksIn 52 = .ok (.ldc 207, 2) := by decide +kernel
theorem dX7_breaksIn_54 : decode cX7_breaksIn 54 = .ok (.iload 4, 2) := by decide +kernel
theorem dX7_breaksIn_56 : decode cX7_breaksIn 56 = .ok (.invokestatic 211, 3) := by decide +kernel
theorem dX7_breaksIn_59 : decode cX7_breaksIn 59 = .ok (.invokestatic 214, 3) := by decide +kernel
theorem dX7_breaksIn_62 : decode cX7_breaksIn 62 = .ok (.invokevirtual 223, 3) := by decide +kernel
theorem dX7_breaksIn_65 : decode cX7_breaksIn 65 = .ok (.aload_n 0, 1) := by decide +kernel
theorem dX7_breaksIn_66 : decode cX7_breaksIn 66 = .ok (.getfield 16, 3) := by decide +kernel
theorem dX7_breaksIn_69 : decode cX7_breaksIn 69 = .ok (.invokevirtual 85, 3) := by decide +kernel
theorem dX7_breaksIn_72 : decode cX7_breaksIn 72 = .ok (.ifCond .le 5, 3) := by decide +kernel
theorem dX7_breaksIn_75 : decode cX7_breaksIn 75 = .ok (.iload_n 3, 1) := by decide +kernel
theorem dX7_breaksIn_76 : decode cX7_breaksIn 76 = .ok (.ireturn, 1) := by decide +kernel
theorem dX7_breaksIn_77 : decode cX7_breaksIn 77 = .ok (.iinc 3 1, 3) := by decide +kernel
theorem dX7_breaksIn_80 : decode cX7_breaksIn 80 = .ok (.goto (-52), 3) := by decide +kernel
theorem dX7_breaksIn_83 : decode cX7_breaksIn 83 = .ok (.iconst (-1), 1) := by decide +kernel
theorem dX7_breaksIn_84 : decode cX7_breaksIn 84 = .ok (.ireturn, 1) := by decide +kernel
theorem dX7_bestSlant_0 : decode cX7_bestSlant 0 = .ok (.aload_n 0, 1) := by decide +kernel
theorem dX7_bestSlant_1 : decode cX7_bestSlant 1 = .ok (.iload_n 1, 1) := by decide +kernel
theorem dX7_bestSlant_2 : decode cX7_bestSlant 2 = .ok (.invokevirtual 166, 3) := by decide +kernel
theorem dX7_bestSlant_5 : decode cX7_bestSlant 5 = .ok (.aload_n 0, 1) := by decide +kernel
theorem dX7_bestSlant_6 : decode cX7_bestSlant 6 = .ok (.getfield 10, 3) := by decide +kernel
theorem dX7_bestSlant_9 : decode cX7_bestSlant 9 = .ok (.iload_n 1, 1) := by decide +kernel
theorem dX7_bestSlant_10 : decode cX7_bestSlant 10 = .ok (.invokevirtual 175, 3) := by decide +kernel
theorem dX7_bestSlant_13 : decode cX7_bestSlant 13 = .ok (.getfield 179, 3) := by decide +kernel
theorem dX7_bestSlant_16 : decode cX7_bestSlant 16 = .ok (.ifCond .eq 5, 3) := by decide +kernel
theorem dX7_bestSlant_19 : decode cX7_bestSlant 19 = .ok (.iconst (-1), 1) := by decide +kernel
theorem dX7_bestSlant_20 : decode cX7_bestSlant 20 = .ok (.ireturn, 1) := by decide +kernel
theorem dX7_bestSlant_21 : decode cX7_bestSlant 21 = .ok (.iconst (-1), 1) := by decide +kernel
theorem dX7_bestSlant_22 : decode cX7_bestSlant 22 = .ok (.istore_n 2, 1) := by decide +kernel
theorem dX7_bestSlant_23 : decode cX7_bestSlant 23 = .ok (.iconst (-1), 1) := by decide +kernel
theorem dX7_bestSlant_24 : decode cX7_bestSlant 24 = .ok (.istore_n 3, 1) := by decide +kernel
theorem dX7_bestSlant_25 : decode cX7_bestSlant 25 = .ok (.bipush 50, 2) := by decide +kernel
theorem dX7_bestSlant_27 : decode cX7_bestSlant 27 = .ok (.istore 4, 2) := by decide +kernel
theorem dX7_bestSlant_29 : decode cX7_bestSlant 29 = .ok (.iload 4, 2) := by decide +kernel
theorem dX7_bestSlant_31 : decode cX7_bestSlant 31 = .ok (.sipush 1000, 3) := by decide +kernel
theorem dX7_bestSlant_34 : decode cX7_bestSlant 34 = .ok (.if_icmp .gt 73, 3) := by decide +kernel
theorem dX7_bestSlant_37 : decode cX7_bestSlant 37 = .ok (.aload_n 0, 1) := by decide +kernel
theorem dX7_bestSlant_38 : decode cX7_bestSlant 38 = .ok (.getfield 16, 3) := by decide +kernel
theorem dX7_bestSlant_41 : decode cX7_bestSlant 41 = .ok (.aload_n 0, 1) := by decide +kernel
theorem dX7_bestSlant_42 : decode cX7_bestSlant 42 = .ok (.getfield 10, 3) := by decide +kernel
theorem dX7_bestSlant_45 : decode cX7_bestSlant 45 = .ok (.invokevirtual 81, 3) := by decide +kernel
theorem dX7_bestSlant_48 : decode cX7_bestSlant 48 = .ok (.aload_n 0, 1) := by decide +kernel
theorem dX7_bestSlant_49 : decode cX7_bestSlant 49 = .ok (.getfield 16, 3) := by decide +kernel
theorem dX7_bestSlant_52 : decode cX7_bestSlant 52 = .ok (.iload_n 1, 1) := by decide +kernel
theorem dX7_bestSlant_53 : decode cX7_bestSlant 53 = .ok (.invokevirtual 175, 3) := by decide +kernel
theorem dX7_bestSlant_56 : decode cX7_bestSlant 56 = .ok (.iload 4, 2) := by decide +kernel
theorem dX7_bestSlant_58 : decode cX7_bestSlant 58 = .ok (.putfield 226, 3) := by decide +kernel
theorem dX7_bestSlant_61 : decode cX7_bestSlant 61 = .ok (.aload_n 0, 1) := by decide +kernel
theorem dX7_bestSlant_62 : decode cX7_bestSlant 62 = .ok (.getfield 16, 3) := by decide +kernel
theorem dX7_bestSlant_65 : decode cX7_bestSlant 65 = .ok (.invokevirtual 85, 3) := by decide +kernel
theorem dX7_bestSlant_68 : decode cX7_bestSlant 68 = .ok (.ifCond .ne 33, 3) := by decide +kernel
theorem dX7_bestSlant_71 : decode cX7_bestSlant 71 = .ok (.aload_n 0, 1) := by decide +kernel
theorem dX7_bestSlant_72 : decode cX7_bestSlant 72 = .ok (.getfield 16, 3) := by decide +kernel
theorem dX7_bestSlant_75 : decode cX7_bestSlant 75 = .ok (.iload_n 1, 1) := by decide +kernel
theorem dX7_bestSlant_76 : decode cX7_bestSlant 76 = .ok (.invokevirtual 175, 3) := by decide +kernel
theorem dX7_bestSlant_79 : decode cX7_bestSlant 79 = .ok (.getfield 199, 3) := by decide +kernel
theorem dX7_bestSlant_82 : decode cX7_bestSlant 82 = .ok (.iload_n 3, 1) := by decide +kernel
theorem dX7_bestSlant_83 : decode cX7_bestSlant 83 = .ok (.if_icmp .lt 18, 3) := by decide +kernel
theorem dX7_bestSlant_86 : decode cX7_bestSlant 86 = .ok (.iload 4, 2) := by decide +kernel
theorem dX7_bestSlant_88 : decode cX7_bestSlant 88 = .ok (.istore_n 2, 1) := by decide +kernel
theorem dX7_bestSlant_89 : decode cX7_bestSlant 89 = .ok (.aload_n 0, 1) := by decide +kernel
theorem dX7_bestSlant_90 : decode cX7_bestSlant 90 = .ok (.getfield 16, 3) := by decide +kernel
theorem dX7_bestSlant_93 : decode cX7_bestSlant 93 = .ok (.iload_n 1, 1) := by decide +kernel
theorem dX7_bestSlant_94 : decode cX7_bestSlant 94 = .ok (.invokevirtual 175, 3) := by decide +kernel
theorem dX7_bestSlant_97 : decode cX7_bestSlant 97 = .ok (.getfield 199, 3) := by decide +kernel
theorem dX7_bestSlant_100 : decode cX7_bestSlant 100 = .ok (.istore_n 3, 1) := by decide +kernel
theorem dX7_bestSlant_101 : decode cX7_bestSlant 101 = .ok (.iinc 4 50, 3) := by decide +kernel
theorem dX7_bestSlant_104 : decode cX7_bestSlant 104 = .ok (.goto (-75), 3) := by decide +kernel
theorem dX7_bestSlant_107 : decode cX7_bestSlant 107 = .ok (.iload_n 2, 1) := by decide +kernel
theorem dX7_bestSlant_108 : decode cX7_bestSlant 108 = .ok (.ireturn, 1) := by decide +kernel
theorem dX7_lostWith_0 : decode cX7_lostWith 0 = .ok (.iload_n 1, 1) := by decide +kernel
theorem dX7_lostWith_1 : decode cX7_lostWith 1 = .ok (.iconst 0, 1) := by decide +kernel
theorem dX7_lostWith_2 : decode cX7_lostWith 2 = .ok (.ldc 207, 2) := by decide +kernel
theorem dX7_lostWith_4 : decode cX7_lostWith 4 = .ok (.invokestatic 60, 3) := by decide +kernel
theorem dX7_lostWith_7 : decode cX7_lostWith 7 = .ok (.aload_n 0, 1) := by decide +kernel
theorem dX7_lostWith_8 : decode cX7_lostWith 8 = .ok (.getfield 16, 3) := by decide +kernel
theorem dX7_lostWith_11 : decode cX7_lostWith 11 = .ok (.aload_n 0, 1) := by decide +kernel
theorem dX7_lostWith_12 : decode cX7_lostWith 12 = .ok (.getfield 10, 3) := by decide +kernel
theorem dX7_lostWith_15 : decode cX7_lostWith 15 = .ok (.invokevirtual 81, 3) := by decide +kernel
theorem dX7_lostWith_18 : decode cX7_lostWith 18 = .ok (.aload_n 0, 1) := by decide +kernel
theorem dX7_lostWith_19 : decode cX7_lostWith 19 = .ok (.getfield 16, 3) := by decide +kernel
theorem dX7_lostWith_22 : decode cX7_lostWith 22 = .ok (.iload_n 1, 1) := by decide +kernel
theorem dX7_lostWith_23 : decode cX7_lostWith 23 = .ok (.putfield 105, 3) := by decide +kernel
theorem dX7_lostWith_26 : decode cX7_lostWith 26 = .ok (.aload_n 0, 1) := by decide +kernel
theorem dX7_lostWith_27 : decode cX7_lostWith 27 = .ok (.getfield 16, 3) := by decide +kernel
theorem dX7_lostWith_30 : decode cX7_lostWith 30 = .ok (.invokevirtual 85, 3) := by decide +kernel
theorem dX7_lostWith_33 : decode cX7_lostWith 33 = .ok (.ireturn, 1) := by decide +kernel
theorem dX7_meanReading_0 : decode cX7_meanReading 0 = .ok (.iconst 0, 1) := by decide +kernel
theorem dX7_meanReading_1 : decode cX7_meanReading 1 = .ok (.istore_n 1, 1) := by decide +kernel
theorem dX7_meanReading_2 : decode cX7_meanReading 2 = .ok (.iconst 0, 1) := by decide +kernel
theorem dX7_meanReading_3 : decode cX7_meanReading 3 = .ok (.istore_n 2, 1) := by decide +kernel
theorem dX7_meanReading_4 : decode cX7_meanReading 4 = .ok (.iconst 0, 1) := by decide +kernel
theorem dX7_meanReading_5 : decode cX7_meanReading 5 = .ok (.istore_n 3, 1) := by decide +kernel
theorem dX7_meanReading_6 : decode cX7_meanReading 6 = .ok (.iload_n 3, 1) := by decide +kernel
theorem dX7_meanReading_7 : decode cX7_meanReading 7 = .ok (.aload_n 0, 1) := by decide +kernel
theorem dX7_meanReading_8 : decode cX7_meanReading 8 = .ok (.getfield 10, 3) := by decide +kernel
theorem dX7_meanReading_11 : decode cX7_meanReading 11 = .ok (.getfield 108, 3) := by decide +kernel
theorem dX7_meanReading_14 : decode cX7_meanReading 14 = .ok (.if_icmp .ge 38, 3) := by decide +kernel
theorem dX7_meanReading_17 : decode cX7_meanReading 17 = .ok (.aload_n 0, 1) := by decide +kernel
theorem dX7_meanReading_18 : decode cX7_meanReading 18 = .ok (.getfield 10, 3) := by decide +kernel
theorem dX7_meanReading_21 : decode cX7_meanReading 21 = .ok (.iload_n 3, 1) := by decide +kernel
theorem dX7_meanReading_22 : decode cX7_meanReading 22 = .ok (.invokevirtual 175, 3) := by decide +kernel
theorem dX7_meanReading_25 : decode cX7_meanReading 25 = .ok (.astore 4, 2) := by decide +kernel
theorem dX7_meanReading_27 : decode cX7_meanReading 27 = .ok (.aload 4, 2) := by decide +kernel
theorem dX7_meanReading_29 : decode cX7_meanReading 29 = .ok (.getfield 179, 3) := by decide +kernel
theorem dX7_meanReading_32 : decode cX7_meanReading 32 = .ok (.ifCond .ne 14, 3) := by decide +kernel
theorem dX7_meanReading_35 : decode cX7_meanReading 35 = .ok (.iload_n 1, 1) := by decide +kernel
theorem dX7_meanReading_36 : decode cX7_meanReading 36 = .ok (.aload 4, 2) := by decide +kernel
theorem dX7_meanReading_38 : decode cX7_meanReading 38 = .ok (.invokevirtual 220, 3) := by decide +kernel
theorem dX7_meanReading_41 : decode cX7_meanReading 41 = .ok (.iadd, 1) := by decide +kernel
theorem dX7_meanReading_42 : decode cX7_meanReading 42 = .ok (.istore_n 1, 1) := by decide +kernel
theorem dX7_meanReading_43 : decode cX7_meanReading 43 = .ok (.iinc 2 1, 3) := by decide +kernel
theorem dX7_meanReading_46 : decode cX7_meanReading 46 = .ok (.iinc 3 1, 3) := by decide +kernel
theorem dX7_meanReading_49 : decode cX7_meanReading 49 = .ok (.goto (-43), 3) := by decide +kernel
theorem dX7_meanReading_52 : decode cX7_meanReading 52 = .ok (.iload_n 2, 1) := by decide +kernel
theorem dX7_meanReading_53 : decode cX7_meanReading 53 = .ok (.ifCond .ne 7, 3) := by decide +kernel
theorem dX7_meanReading_56 : decode cX7_meanReading 56 = .ok (.dconst 0, 1) := by decide +kernel
theorem dX7_meanReading_57 : decode cX7_meanReading 57 = .ok (.goto 8, 3) := by decide +kernel
theorem dX7_meanReading_60 : decode cX7_meanReading 60 = .ok (.iload_n 1, 1) := by decide +kernel
theorem dX7_meanReading_61 : decode cX7_meanReading 61 = .ok (.i2d, 1) := by decide +kernel
theorem dX7_meanReading_62 : decode cX7_meanReading 62 = .ok (.iload_n 2, 1) := by decide +kernel
theorem dX7_meanReading_63 : decode cX7_meanReading 63 = .ok (.i2d, 1) := by decide +kernel
theorem dX7_meanReading_64 : decode cX7_meanReading 64 = .ok (.ddiv, 1) := by decide +kernel
theorem dX7_meanReading_65 : decode cX7_meanReading 65 = .ok (.dreturn, 1) := by decide +kernel
theorem dX7_wholeShare_0 : decode cX7_wholeShare 0 = .ok (.aload_n 0, 1) := by decide +kernel
theorem dX7_wholeShare_1 : decode cX7_wholeShare 1 = .ok (.getfield 10, 3) := by decide +kernel
theorem dX7_wholeShare_4 : decode cX7_wholeShare 4 = .ok (.getfield 108, 3) := by decide +kernel
theorem dX7_wholeShare_7 : decode cX7_wholeShare 7 = .ok (.istore_n 1, 1) := by decide +kernel
theorem dX7_wholeShare_8 : decode cX7_wholeShare 8 = .ok (.iload_n 1, 1) := by decide +kernel
theorem dX7_wholeShare_9 : decode cX7_wholeShare 9 = .ok (.ifCond .ne 7, 3) := by decide +kernel
theorem dX7_wholeShare_12 : decode cX7_wholeShare 12 = .ok (.fconst 0, 1) := by decide +kernel
theorem dX7_wholeShare_13 : decode cX7_wholeShare 13 = .ok (.goto 15, 3) := by decide +kernel
theorem dX7_wholeShare_16 : decode cX7_wholeShare 16 = .ok (.aload_n 0, 1) := by decide +kernel
theorem dX7_wholeShare_17 : decode cX7_wholeShare 17 = .ok (.getfield 10, 3) := by decide +kernel
theorem dX7_wholeShare_20 : decode cX7_wholeShare 20 = .ok (.iconst 0, 1) := by decide +kernel
theorem dX7_wholeShare_21 : decode cX7_wholeShare 21 = .ok (.invokevirtual 95, 3) := by decide +kernel
theorem dX7_wholeShare_24 : decode cX7_wholeShare 24 = .ok (.i2f, 1) := by decide +kernel
theorem dX7_wholeShare_25 : decode cX7_wholeShare 25 = .ok (.iload_n 1, 1) := by decide +kernel
theorem dX7_wholeShare_26 : decode cX7_wholeShare 26 = .ok (.i2f, 1) := by decide +kernel
theorem dX7_wholeShare_27 : decode cX7_wholeShare 27 = .ok (.fdiv, 1) := by decide +kernel
theorem dX7_wholeShare_28 : decode cX7_wholeShare 28 = .ok (.freturn, 1) := by decide +kernel
theorem dX7_setPressure_0 : decode cX7_setPressure 0 = .ok (.aload_n 0, 1) := by decide +kernel
theorem dX7_setPressure_1 : decode cX7_setPressure 1 = .ok (.iload_n 1, 1) := by decide +kernel
theorem dX7_setPressure_2 : decode cX7_setPressure 2 = .ok (.invokevirtual 121, 3) := by decide +kernel
theorem dX7_setPressure_5 : decode cX7_setPressure 5 = .ok (.iload_n 2, 1) := by decide +kernel
theorem dX7_setPressure_6 : decode cX7_setPressure 6 = .ok (.iconst 0, 1) := by decide +kernel
theorem dX7_setPressure_7 : decode cX7_setPressure 7 = .ok (.ldc 207, 2) := by decide +kernel
theorem dX7_setPressure_9 : decode cX7_setPressure 9 = .ok (.invokestatic 60, 3) := by decide +kernel
theorem dX7_setPressure_12 : decode cX7_setPressure 12 = .ok (.aload_n 0, 1) := by decide +kernel
theorem dX7_setPressure_13 : decode cX7_setPressure 13 = .ok (.getfield 25, 3) := by decide +kernel
theorem dX7_setPressure_16 : decode cX7_setPressure 16 = .ok (.aload_n 0, 1) := by decide +kernel
theorem dX7_setPressure_17 : decode cX7_setPressure 17 = .ok (.getfield 10, 3) := by decide +kernel
theorem dX7_setPressure_20 : decode cX7_setPressure 20 = .ok (.invokevirtual 229, 3) := by decide +kernel
theorem dX7_setPressure_23 : decode cX7_setPressure 23 = .ok (.aload_n 0, 1) := by decide +kernel
theorem dX7_setPressure_24 : decode cX7_setPressure 24 = .ok (.getfield 10, 3) := by decide +kernel
theorem dX7_setPressure_27 : decode cX7_setPressure 27 = .ok (.iload_n 1, 1) := by decide +kernel
theorem dX7_setPressure_28 : decode cX7_setPressure 28 = .ok (.iload_n 2, 1) := by decide +kernel
theorem dX7_setPressure_29 : decode cX7_setPressure 29 = .ok (.invokevirtual 223, 3) := by decide +kernel
theorem dX7_setPressure_32 : decode cX7_setPressure 32 = .ok (.aload_n 0, 1) := by decide +kernel
theorem dX7_setPressure_33 : decode cX7_setPressure 33 = .ok (.getfield 10, 3) := by decide +kernel
theorem dX7_setPressure_36 : decode cX7_setPressure 36 = .ok (.invokevirtual 85, 3) := by decide +kernel
theorem dX7_setPressure_39 : decode cX7_setPressure 39 = .ok (.ireturn, 1) := by decide +kernel
theorem dX7_setReference_0 : decode cX7_setReference 0 = .ok (.iload_n 1, 1) := by decide +kernel
theorem dX7_setReference_1 : decode cX7_setReference 1 = .ok (.iconst 0, 1) := by decide +kernel
theorem dX7_setReference_2 : decode cX7_setReference 2 = .ok (.ldc 207, 2) := by decide +kernel
theorem dX7_setReference_4 : decode cX7_setReference 4 = .ok (.invokestatic 60, 3) := by decide +kernel
theorem dX7_setReference_7 : decode cX7_setReference 7 = .ok (.aload_n 0, 1) := by decide +kernel
theorem dX7_setReference_8 : decode cX7_setReference 8 = .ok (.getfield 25, 3) := by decide +kernel
theorem dX7_setReference_11 : decode cX7_setReference 11 = .ok (.aload_n 0, 1) := by decide +kernel
theorem dX7_setReference_12 : decode cX7_setReference 12 = .ok (.getfield 10, 3) := by decide +kernel
theorem dX7_setReference_15 : decode cX7_setReference 15 = .ok (.invokevirtual 229, 3) := by decide +kernel
theorem dX7_setReference_18 : decode cX7_setReference 18 = .ok (.aload_n 0, 1) := by decide +kernel
theorem dX7_setReference_19 : decode cX7_setReference 19 = .ok (.getfield 10, 3) := by decide +kernel
theorem dX7_setReference_22 : decode cX7_setReference 22 = .ok (.iload_n 1, 1) := by decide +kernel
theorem dX7_setReference_23 : decode cX7_setReference 23 = .ok (.putfield 105, 3) := by decide +kernel
theorem dX7_setReference_26 : decode cX7_setReference 26 = .ok (.aload_n 0, 1) := by decide +kernel
theorem dX7_setReference_27 : decode cX7_setReference 27 = .ok (.getfield 10, 3) := by decide +kernel
theorem dX7_setReference_30 : decode cX7_setReference 30 = .ok (.invokevirtual 85, 3) := by decide +kernel
theorem dX7_setReference_33 : decode cX7_setReference 33 = .ok (.ireturn, 1) := by decide +kernel
theorem dX7_sweep_0 : decode cX7_sweep 0 = .ok (.aload_n 0, 1) := by decide +kernel
theorem dX7_sweep_1 : decode cX7_sweep 1 = .ok (.iload_n 1, 1) := by decide +kernel
theorem dX7_sweep_2 : decode cX7_sweep 2 = .ok (.invokevirtual 121, 3) := by decide +kernel
theorem dX7_sweep_5 : decode cX7_sweep 5 = .ok (.iload_n 2, 1) := by decide +kernel
theorem dX7_sweep_6 : decode cX7_sweep 6 = .ok (.iconst 0, 1) := by decide +kernel
theorem dX7_sweep_7 : decode cX7_sweep 7 = .ok (.ldc 207, 2) := by decide +kernel
theorem dX7_sweep_9 : decode cX7_sweep 9 = .ok (.invokestatic 60, 3) := by decide +kernel
theorem dX7_sweep_12 : decode cX7_sweep 12 = .ok (.iload_n 3, 1) := by decide +kernel
theorem dX7_sweep_13 : decode cX7_sweep 13 = .ok (.iconst 1, 1) := by decide +kernel
theorem dX7_sweep_14 : decode cX7_sweep 14 = .ok (.bipush 50, 2) := by decide +kernel
theorem dX7_sweep_16 : decode cX7_sweep 16 = .ok (.invokestatic 60, 3) := by decide +kernel
theorem dX7_sweep_19 : decode cX7_sweep 19 = .ok (.aload_n 0, 1) := by decide +kernel
theorem dX7_sweep_20 : decode cX7_sweep 20 = .ok (.getfield 25, 3) := by decide +kernel
theorem dX7_sweep_23 : decode cX7_sweep 23 = .ok (.aload_n 0, 1) := by decide +kernel
theorem dX7_sweep_24 : decode cX7_sweep 24 = .ok (.getfield 10, 3) := by decide +kernel
theorem dX7_sweep_27 : decode cX7_sweep 27 = .ok (.invokevirtual 229, 3) := by decide +kernel
theorem dX7_sweep_30 : decode cX7_sweep 30 = .ok (.aload_n 0, 1) := by decide +kernel
theorem dX7_sweep_31 : decode cX7_sweep 31 = .ok (.getfield 10, 3) := by decide +kernel
theorem dX7_sweep_34 : decode cX7_sweep 34 = .ok (.iload_n 1, 1) := by decide +kernel
theorem dX7_sweep_35 : decode cX7_sweep 35 = .ok (.invokevirtual 124, 3) := by decide +kernel
theorem dX7_sweep_38 : decode cX7_sweep 38 = .ok (.istore 4, 2) := by decide +kernel
theorem dX7_sweep_40 : decode cX7_sweep 40 = .ok (.iconst 0, 1) := by decide +kernel
theorem dX7_sweep_41 : decode cX7_sweep 41 = .ok (.istore 5, 2) := by decide +kernel
theorem dX7_sweep_43 : decode cX7_sweep 43 = .ok (.iconst 1, 1) := by decide +kernel
theorem dX7_sweep_44 : decode cX7_sweep 44 = .ok (.istore 6, 2) := by decide +kernel
theorem dX7_sweep_46 : decode cX7_sweep 46 = .ok (.iload 6, 2) := by decide +kernel
theorem dX7_sweep_48 : decode cX7_sweep 48 = .ok (.iload_n 3, 1) := by decide +kernel
theorem dX7_sweep_49 : decode cX7_sweep 49 = .ok (.if_icmp .gt 41, 3) := by decide +kernel
theorem dX7_sweep_52 : decode cX7_sweep 52 = .ok (.aload_n 0, 1) := by decide +kernel
theorem dX7_sweep_53 : decode cX7_sweep 53 = .ok (.getfield 10, 3) := by decide +kernel
theorem dX7_sweep_56 : decode cX7_sweep 56 = .ok (.iload_n 1, 1) := by decide +kernel
theorem dX7_sweep_57 : decode cX7_sweep 57 = .ok (.iload 4, 2) := by decide +kernel
theorem dX7_sweep_59 : decode cX7_sweep 59 = .ok (.iload_n 2, 1) := by decide +kernel
theorem dX7_sweep_60 : decode cX7_sweep 60 = .ok (.iload 4, 2) := by decide +kernel
theorem dX7_sweep_62 : decode cX7_sweep 62 = .ok (.isub, 1) := by decide +kernel
theorem dX7_sweep_63 : decode cX7_sweep 63 = .ok (.iload 6, 2) := by decide +kernel
theorem dX7_sweep_65 : decode cX7_sweep 65 = .ok (.imul, 1) := by decide +kernel
theorem dX7_sweep_66 : decode cX7_sweep 66 = .ok (.iload_n 3, 1) := by decide +kernel
theorem dX7_sweep_67 : decode cX7_sweep 67 = .ok (.idiv, 1) := by decide +kernel
theorem dX7_sweep_68 : decode cX7_sweep 68 = .ok (.iadd, 1) := by decide +kernel
theorem dX7_sweep_69 : decode cX7_sweep 69 = .ok (.invokevirtual 223, 3) := by decide +kernel
theorem dX7_sweep_72 : decode cX7_sweep 72 = .ok (.iload 5, 2) := by decide +kernel
theorem dX7_sweep_74 : decode cX7_sweep 74 = .ok (.aload_n 0, 1) := by decide +kernel
theorem dX7_sweep_75 : decode cX7_sweep 75 = .ok (.getfield 10, 3) := by decide +kernel
theorem dX7_sweep_78 : decode cX7_sweep 78 = .ok (.invokevirtual 85, 3) := by decide +kernel
theorem dX7_sweep_81 : decode cX7_sweep 81 = .ok (.iadd, 1) := by decide +kernel
theorem dX7_sweep_82 : decode cX7_sweep 82 = .ok (.istore 5, 2) := by decide +kernel
theorem dX7_sweep_84 : decode cX7_sweep 84 = .ok (.iinc 6 1, 3) := by decide +kernel
theorem dX7_sweep_87 : decode cX7_sweep 87 = .ok (.goto (-41), 3) := by decide +kernel
theorem dX7_sweep_90 : decode cX7_sweep 90 = .ok (.iload 5, 2) := by decide +kernel
theorem dX7_sweep_92 : decode cX7_sweep 92 = .ok (.ireturn, 1) := by decide +kernel
theorem dX7_setSlant_0 : decode cX7_setSlant 0 = .ok (.aload_n 0, 1) := by decide +kernel
theorem dX7_setSlant_1 : decode cX7_setSlant 1 = .ok (.iload_n 1, 1) := by decide +kernel
theorem dX7_setSlant_2 : decode cX7_setSlant 2 = .ok (.invokevirtual 166, 3) := by decide +kernel
theorem dX7_setSlant_5 : decode cX7_setSlant 5 = .ok (.iload_n 2, 1) := by decide +kernel
theorem dX7_setSlant_6 : decode cX7_setSlant 6 = .ok (.bipush 50, 2) := by decide +kernel
theorem dX7_setSlant_8 : decode cX7_setSlant 8 = .ok (.sipush 1000, 3) := by decide +kernel
theorem dX7_setSlant_11 : decode cX7_setSlant 11 = .ok (.invokestatic 60, 3) := by decide +kernel
theorem dX7_setSlant_14 : decode cX7_setSlant 14 = .ok (.aload_n 0, 1) := by decide +kernel
theorem dX7_setSlant_15 : decode cX7_setSlant 15 = .ok (.getfield 25, 3) := by decide +kernel
theorem dX7_setSlant_18 : decode cX7_setSlant 18 = .ok (.aload_n 0, 1) := by decide +kernel
theorem dX7_setSlant_19 : decode cX7_setSlant 19 = .ok (.getfield 10, 3) := by decide +kernel
theorem dX7_setSlant_22 : decode cX7_setSlant 22 = .ok (.invokevirtual 229, 3) := by decide +kernel
theorem dX7_setSlant_25 : decode cX7_setSlant 25 = .ok (.aload_n 0, 1) := by decide +kernel
theorem dX7_setSlant_26 : decode cX7_setSlant 26 = .ok (.getfield 10, 3) := by decide +kernel
theorem dX7_setSlant_29 : decode cX7_setSlant 29 = .ok (.iload_n 1, 1) := by decide +kernel
theorem dX7_setSlant_30 : decode cX7_setSlant 30 = .ok (.invokevirtual 175, 3) := by decide +kernel
theorem dX7_setSlant_33 : decode cX7_setSlant 33 = .ok (.iload_n 2, 1) := by decide +kernel
theorem dX7_setSlant_34 : decode cX7_setSlant 34 = .ok (.putfield 226, 3) := by decide +kernel
theorem dX7_setSlant_37 : decode cX7_setSlant 37 = .ok (.aload_n 0, 1) := by decide +kernel
theorem dX7_setSlant_38 : decode cX7_setSlant 38 = .ok (.getfield 10, 3) := by decide +kernel
theorem dX7_setSlant_41 : decode cX7_setSlant 41 = .ok (.invokevirtual 85, 3) := by decide +kernel
theorem dX7_setSlant_44 : decode cX7_setSlant 44 = .ok (.ireturn, 1) := by decide +kernel
theorem dX7_setMark_0 : decode cX7_setMark 0 = .ok (.aload_n 0, 1) := by decide +kernel
theorem dX7_setMark_1 : decode cX7_setMark 1 = .ok (.iload_n 1, 1) := by decide +kernel
theorem dX7_setMark_2 : decode cX7_setMark 2 = .ok (.invokevirtual 166, 3) := by decide +kernel
theorem dX7_setMark_5 : decode cX7_setMark 5 = .ok (.aload_n 0, 1) := by decide +kernel
theorem dX7_setMark_6 : decode cX7_setMark 6 = .ok (.getfield 10, 3) := by decide +kernel
theorem dX7_setMark_9 : decode cX7_setMark 9 = .ok (.iload_n 1, 1) := by decide +kernel
theorem dX7_setMark_10 : decode cX7_setMark 10 = .ok (.invokevirtual 175, 3) := by decide +kernel
theorem dX7_setMark_13 : decode cX7_setMark 13 = .ok (.astore_n 2, 1) := by decide +kernel
theorem dX7_setMark_14 : decode cX7_setMark 14 = .ok (.aload_n 2, 1) := by decide +kernel
theorem dX7_setMark_15 : decode cX7_setMark 15 = .ok (.getfield 179, 3) := by decide +kernel
theorem dX7_setMark_18 : decode cX7_setMark 18 = .ok (.ifCond .eq 6, 3) := by decide +kernel
theorem dX7_setMark_21 : decode cX7_setMark 21 = .ok (.ldc 188, 2) := by decide +kernel
theorem dX7_setMark_23 : decode cX7_setMark 23 = .ok (.ireturn, 1) := by decide +kernel
theorem dX7_setMark_24 : decode cX7_setMark 24 = .ok (.aload_n 2, 1) := by decide +kernel
theorem dX7_setMark_25 : decode cX7_setMark 25 = .ok (.getfield 199, 3) := by decide +kernel
theorem dX7_setMark_28 : decode cX7_setMark 28 = .ok (.bipush 10, 2) := by decide +kernel
theorem dX7_setMark_30 : decode cX7_setMark 30 = .ok (.idiv, 1) := by decide +kernel
theorem dX7_setMark_31 : decode cX7_setMark 31 = .ok (.ineg, 1) := by decide +kernel
theorem dX7_setMark_32 : decode cX7_setMark 32 = .ok (.istore_n 3, 1) := by decide +kernel
theorem dX7_setMark_33 : decode cX7_setMark 33 = .ok (.iload_n 3, 1) := by decide +kernel
theorem dX7_setMark_34 : decode cX7_setMark 34 = .ok (.sipush (-9999), 3) := by decide +kernel
theorem dX7_setMark_37 : decode cX7_setMark 37 = .ok (.if_icmp .ge 6, 3) := by decide +kernel
theorem dX7_setMark_40 : decode cX7_setMark 40 = .ok (.ldc 232, 2) := by decide +kernel
theorem dX7_setMark_42 : decode cX7_setMark 42 = .ok (.ireturn, 1) := by decide +kernel
theorem dX7_setMark_43 : decode cX7_setMark 43 = .ok (.aload_n 0, 1) := by decide +kernel
theorem dX7_setMark_44 : decode cX7_setMark 44 = .ok (.getfield 25, 3) := by decide +kernel
theorem dX7_setMark_47 : decode cX7_setMark 47 = .ok (.aload_n 0, 1) := by decide +kernel
theorem dX7_setMark_48 : decode cX7_setMark 48 = .ok (.getfield 10, 3) := by decide +kernel
theorem dX7_setMark_51 : decode cX7_setMark 51 = .ok (.invokevirtual 229, 3) := by decide +kernel
theorem dX7_setMark_54 : decode cX7_setMark 54 = .ok (.aload_n 2, 1) := by decide +kernel
theorem dX7_setMark_55 : decode cX7_setMark 55 = .ok (.iload_n 3, 1) := by decide +kernel
theorem dX7_setMark_56 : decode cX7_setMark 56 = .ok (.putfield 233, 3) := by decide +kernel
theorem dX7_setMark_59 : decode cX7_setMark 59 = .ok (.iload_n 3, 1) := by decide +kernel
theorem dX7_setMark_60 : decode cX7_setMark 60 = .ok (.ireturn, 1) := by decide +kernel
theorem dX7_setCurve_0 : decode cX7_setCurve 0 = .ok (.iload_n 1, 1) := by decide +kernel
theorem dX7_setCurve_1 : decode cX7_setCurve 1 = .ok (.invokestatic 127, 3) := by decide +kernel
theorem dX7_setCurve_4 : decode cX7_setCurve 4 = .ok (.iload_n 2, 1) := by decide +kernel
theorem dX7_setCurve_5 : decode cX7_setCurve 5 = .ok (.sipush (-9999), 3) := by decide +kernel
theorem dX7_setCurve_8 : decode cX7_setCurve 8 = .ok (.sipush 9999, 3) := by decide +kernel
theorem dX7_setCurve_11 : decode cX7_setCurve 11 = .ok (.invokestatic 60, 3) := by decide +kernel
theorem dX7_setCurve_14 : decode cX7_setCurve 14 = .ok (.aload_n 0, 1) := by decide +kernel
theorem dX7_setCurve_15 : decode cX7_setCurve 15 = .ok (.getfield 25, 3) := by decide +kernel
theorem dX7_setCurve_18 : decode cX7_setCurve 18 = .ok (.aload_n 0, 1) := by decide +kernel
theorem dX7_setCurve_19 : decode cX7_setCurve 19 = .ok (.getfield 10, 3) := by decide +kernel
theorem dX7_setCurve_22 : decode cX7_setCurve 22 = .ok (.invokevirtual 229, 3) := by decide +kernel
theorem dX7_setCurve_25 : decode cX7_setCurve 25 = .ok (.aload_n 0, 1) := by decide +kernel
theorem dX7_setCurve_26 : decode cX7_setCurve 26 = .ok (.getfield 10, 3) := by decide +kernel
theorem dX7_setCurve_29 : decode cX7_setCurve 29 = .ok (.iload_n 1, 1) := by decide +kernel
theorem dX7_setCurve_30 : decode cX7_setCurve 30 = .ok (.invokevirtual 130, 3) := by decide +kernel
theorem dX7_setCurve_33 : decode cX7_setCurve 33 = .ok (.iload_n 2, 1) := by decide +kernel
theorem dX7_setCurve_34 : decode cX7_setCurve 34 = .ok (.putfield 142, 3) := by decide +kernel
theorem dX7_setCurve_37 : decode cX7_setCurve 37 = .ok (.aload_n 0, 1) := by decide +kernel
theorem dX7_setCurve_38 : decode cX7_setCurve 38 = .ok (.getfield 10, 3) := by decide +kernel
theorem dX7_setCurve_41 : decode cX7_setCurve 41 = .ok (.invokevirtual 85, 3) := by decide +kernel
theorem dX7_setCurve_44 : decode cX7_setCurve 44 = .ok (.ireturn, 1) := by decide +kernel
theorem dX7_mend_0 : decode cX7_mend 0 = .ok (.aload_n 0, 1) := by decide +kernel
theorem dX7_mend_1 : decode cX7_mend 1 = .ok (.iload_n 1, 1) := by decide +kernel
theorem dX7_mend_2 : decode cX7_mend 2 = .ok (.invokevirtual 166, 3) := by decide +kernel
theorem dX7_mend_5 : decode cX7_mend 5 = .ok (.aload_n 0, 1) := by decide +kernel
theorem dX7_mend_6 : decode cX7_mend 6 = .ok (.getfield 10, 3) := by decide +kernel
theorem dX7_mend_9 : decode cX7_mend 9 = .ok (.iload_n 1, 1) := by decide +kernel
theorem dX7_mend_10 : decode cX7_mend 10 = .ok (.invokevirtual 175, 3) := by decide +kernel
theorem dX7_mend_13 : decode cX7_mend 13 = .ok (.astore_n 2, 1) := by decide +kernel
theorem dX7_mend_14 : decode cX7_mend 14 = .ok (.aload_n 2, 1) := by decide +kernel
theorem dX7_mend_15 : decode cX7_mend 15 = .ok (.getfield 179, 3) := by decide +kernel
theorem dX7_mend_18 : decode cX7_mend 18 = .ok (.ifCond .ne 6, 3) := by decide +kernel
theorem dX7_mend_21 : decode cX7_mend 21 = .ok (.bipush (-2), 2) := by decide +kernel
theorem dX7_mend_23 : decode cX7_mend 23 = .ok (.ireturn, 1) := by decide +kernel
theorem dX7_mend_24 : decode cX7_mend 24 = .ok (.aload_n 0, 1) := by decide +kernel
theorem dX7_mend_25 : decode cX7_mend 25 = .ok (.getfield 25, 3) := by decide +kernel
theorem dX7_mend_28 : decode cX7_mend 28 = .ok (.aload_n 0, 1) := by decide +kernel
theorem dX7_mend_29 : decode cX7_mend 29 = .ok (.getfield 10, 3) := by decide +kernel
theorem dX7_mend_32 : decode cX7_mend 32 = .ok (.invokevirtual 229, 3) := by decide +kernel
theorem dX7_mend_35 : decode cX7_mend 35 = .ok (.aload_n 2, 1) := by decide +kernel
theorem dX7_mend_36 : decode cX7_mend 36 = .ok (.iconst 0, 1) := by decide +kernel
theorem dX7_mend_37 : decode cX7_mend 37 = .ok (.putfield 179, 3) := by decide +kernel
theorem dX7_mend_40 : decode cX7_mend 40 = .ok (.aload_n 0, 1) := by decide +kernel
theorem dX7_mend_41 : decode cX7_mend 41 = .ok (.getfield 10, 3) := by decide +kernel
theorem dX7_mend_44 : decode cX7_mend 44 = .ok (.invokevirtual 85, 3) := by decide +kernel
theorem dX7_mend_47 : decode cX7_mend 47 = .ok (.pop, 1) := by decide +kernel
theorem dX7_mend_48 : decode cX7_mend 48 = .ok (.aload_n 2, 1) := by decide +kernel
theorem dX7_mend_49 : decode cX7_mend 49 = .ok (.getfield 179, 3) := by decide +kernel
theorem dX7_mend_52 : decode cX7_mend 52 = .ok (.ireturn, 1) := by decide +kernel
theorem dX7_refill_0 : decode cX7_refill 0 = .ok (.iload_n 1, 1) := by decide +kernel
theorem dX7_refill_1 : decode cX7_refill 1 = .ok (.invokestatic 127, 3) := by decide +kernel
theorem dX7_refill_4 : decode cX7_refill 4 = .ok (.iload_n 2, 1) := by decide +kernel
theorem dX7_refill_5 : decode cX7_refill 5 = .ok (.iconst 1, 1) := by decide +kernel
theorem dX7_refill_6 : decode cX7_refill 6 = .ok (.ldc 236, 2) := by decide +kernel
theorem dX7_refill_8 : decode cX7_refill 8 = .ok (.invokestatic 60, 3) := by decide +kernel
theorem dX7_refill_11 : decode cX7_refill 11 = .ok (.aload_n 0, 1) := by decide +kernel
theorem dX7_refill_12 : decode cX7_refill 12 = .ok (.getfield 10, 3) := by decide +kernel
theorem dX7_refill_15 : decode cX7_refill 15 = .ok (.iload_n 1, 1) := by decide +kernel
theorem dX7_refill_16 : decode cX7_refill 16 = .ok (.invokevirtual 130, 3) := by decide +kernel
theorem dX7_refill_19 : decode cX7_refill 19 = .ok (.astore_n 3, 1) := by decide +kernel
theorem dX7_refill_20 : decode cX7_refill 20 = .ok (.aload_n 3, 1) := by decide +kernel
theorem dX7_refill_21 : decode cX7_refill 21 = .ok (.getfield 161, 3) := by decide +kernel
theorem dX7_refill_24 : decode cX7_refill 24 = .ok (.iload_n 2, 1) := by decide +kernel
theorem dX7_refill_25 : decode cX7_refill 25 = .ok (.i2l, 1) := by decide +kernel
theorem dX7_refill_26 : decode cX7_refill 26 = .ok (.ladd, 1) := by decide +kernel
theorem dX7_refill_27 : decode cX7_refill 27 = .ok (.ldc2_w 237, 3) := by decide +kernel
theorem dX7_refill_30 : decode cX7_refill 30 = .ok (.lcmp, 1) := by decide +kernel
theorem dX7_refill_31 : decode cX7_refill 31 = .ok (.ifCond .le 6, 3) := by decide +kernel
theorem dX7_refill_34 : decode cX7_refill 34 = .ok (.bipush (-2), 2) := by decide +kernel
theorem dX7_refill_36 : decode cX7_refill 36 = .ok (.ireturn, 1) := by decide +kernel
theorem dX7_refill_37 : decode cX7_refill 37 = .ok (.aload_n 0, 1) := by decide +kernel
theorem dX7_refill_38 : decode cX7_refill 38 = .ok (.getfield 25, 3) := by decide +kernel
theorem dX7_refill_41 : decode cX7_refill 41 = .ok (.aload_n 0, 1) := by decide +kernel
theorem dX7_refill_42 : decode cX7_refill 42 = .ok (.getfield 10, 3) := by decide +kernel
theorem dX7_refill_45 : decode cX7_refill 45 = .ok (.invokevirtual 229, 3) := by decide +kernel
theorem dX7_refill_48 : decode cX7_refill 48 = .ok (.aload_n 3, 1) := by decide +kernel
theorem dX7_refill_49 : decode cX7_refill 49 = .ok (.dup, 1) := by decide +kernel
theorem dX7_refill_50 : decode cX7_refill 50 = .ok (.getfield 155, 3) := by decide +kernel
theorem dX7_refill_53 : decode cX7_refill 53 = .ok (.iload_n 2, 1) := by decide +kernel
theorem dX7_refill_54 : decode cX7_refill 54 = .ok (.i2l, 1) := by decide +kernel
theorem dX7_refill_55 : decode cX7_refill 55 = .ok (.ladd, 1) := by decide +kernel
theorem dX7_refill_56 : decode cX7_refill 56 = .ok (.putfield 155, 3) := by decide +kernel
theorem dX7_refill_59 : decode cX7_refill 59 = .ok (.aload_n 3, 1) := by decide +kernel
theorem dX7_refill_60 : decode cX7_refill 60 = .ok (.dup, 1) := by decide +kernel
theorem dX7_refill_61 : decode cX7_refill 61 = .ok (.getfield 161, 3) := by decide +kernel
theorem dX7_refill_64 : decode cX7_refill 64 = .ok (.iload_n 2, 1) := by decide +kernel
theorem dX7_refill_65 : decode cX7_refill 65 = .ok (.i2l, 1) := by decide +kernel
theorem dX7_refill_66 : decode cX7_refill 66 = .ok (.ladd, 1) := by decide +kernel
theorem dX7_refill_67 : decode cX7_refill 67 = .ok (.putfield 161, 3) := by decide +kernel
theorem dX7_refill_70 : decode cX7_refill 70 = .ok (.aload_n 0, 1) := by decide +kernel
theorem dX7_refill_71 : decode cX7_refill 71 = .ok (.getfield 10, 3) := by decide +kernel
theorem dX7_refill_74 : decode cX7_refill 74 = .ok (.invokevirtual 85, 3) := by decide +kernel
theorem dX7_refill_77 : decode cX7_refill 77 = .ok (.ireturn, 1) := by decide +kernel
theorem dX7_addTube_0 : decode cX7_addTube 0 = .ok (.iload_n 1, 1) := by decide +kernel
theorem dX7_addTube_1 : decode cX7_addTube 1 = .ok (.invokestatic 127, 3) := by decide +kernel
theorem dX7_addTube_4 : decode cX7_addTube 4 = .ok (.aload_n 0, 1) := by decide +kernel
theorem dX7_addTube_5 : decode cX7_addTube 5 = .ok (.iload_n 2, 1) := by decide +kernel
theorem dX7_addTube_6 : decode cX7_addTube 6 = .ok (.invokevirtual 121, 3) := by decide +kernel
theorem dX7_addTube_9 : decode cX7_addTube 9 = .ok (.iload_n 3, 1) := by decide +kernel
theorem dX7_addTube_10 : decode cX7_addTube 10 = .ok (.iconst 1, 1) := by decide +kernel
theorem dX7_addTube_11 : decode cX7_addTube 11 = .ok (.bipush 20, 2) := by decide +kernel
theorem dX7_addTube_13 : decode cX7_addTube 13 = .ok (.invokestatic 60, 3) := by decide +kernel
theorem dX7_addTube_16 : decode cX7_addTube 16 = .ok (.iload 4, 2) := by decide +kernel
theorem dX7_addTube_18 : decode cX7_addTube 18 = .ok (.bipush 50, 2) := by decide +kernel
theorem dX7_addTube_20 : decode cX7_addTube 20 = .ok (.sipush 1000, 3) := by decide +kernel
theorem dX7_addTube_23 : decode cX7_addTube 23 = .ok (.invokestatic 60, 3) := by decide +kernel
theorem dX7_addTube_26 : decode cX7_addTube 26 = .ok (.iload 5, 2) := by decide +kernel
theorem dX7_addTube_28 : decode cX7_addTube 28 = .ok (.bipush 10, 2) := by decide +kernel
theorem dX7_addTube_30 : decode cX7_addTube 30 = .ok (.sipush 2000, 3) := by decide +kernel
theorem dX7_addTube_33 : decode cX7_addTube 33 = .ok (.invokestatic 60, 3) := by decide +kernel
theorem dX7_addTube_36 : decode cX7_addTube 36 = .ok (.aload_n 0, 1) := by decide +kernel
theorem dX7_addTube_37 : decode cX7_addTube 37 = .ok (.getfield 10, 3) := by decide +kernel
theorem dX7_addTube_40 : decode cX7_addTube 40 = .ok (.getfield 108, 3) := by decide +kernel
theorem dX7_addTube_43 : decode cX7_addTube 43 = .ok (.bipush 12, 2) := by decide +kernel
theorem dX7_addTube_45 : decode cX7_addTube 45 = .ok (.if_icmp .lt 6, 3) := by decide +kernel
theorem dX7_addTube_48 : decode cX7_addTube 48 = .ok (.bipush (-2), 2) := by decide +kernel
theorem dX7_addTube_50 : decode cX7_addTube 50 = .ok (.ireturn, 1) := by decide +kernel
theorem dX7_addTube_51 : decode cX7_addTube 51 = .ok (.aload_n 0, 1) := by decide +kernel
theorem dX7_addTube_52 : decode cX7_addTube 52 = .ok (.getfield 25, 3) := by decide +kernel
theorem dX7_addTube_55 : decode cX7_addTube 55 = .ok (.aload_n 0, 1) := by decide +kernel
theorem dX7_addTube_56 : decode cX7_addTube 56 = .ok (.getfield 10, 3) := by decide +kernel
theorem dX7_addTube_59 : decode cX7_addTube 59 = .ok (.invokevirtual 229, 3) := by decide +kernel
theorem dX7_addTube_62 : decode cX7_addTube 62 = .ok (.aload_n 0, 1) := by decide +kernel
theorem dX7_addTube_63 : decode cX7_addTube 63 = .ok (.getfield 10, 3) := by decide +kernel
theorem dX7_addTube_66 : decode cX7_addTube 66 = .ok (.invokevirtual 239, 3) := by decide +kernel
theorem dX7_addTube_69 : decode cX7_addTube 69 = .ok (.astore 6, 2) := by decide +kernel
theorem dX7_addTube_71 : decode cX7_addTube 71 = .ok (.aload 6, 2) := by decide +kernel
theorem dX7_addTube_73 : decode cX7_addTube 73 = .ok (.iload_n 1, 1) := by decide +kernel
theorem dX7_addTube_74 : decode cX7_addTube 74 = .ok (.iload_n 2, 1) := by decide +kernel
theorem dX7_addTube_75 : decode cX7_addTube 75 = .ok (.invokevirtual 242, 3) := by decide +kernel
theorem dX7_addTube_78 : decode cX7_addTube 78 = .ok (.aload 6, 2) := by decide +kernel
theorem dX7_addTube_80 : decode cX7_addTube 80 = .ok (.iload_n 3, 1) := by decide +kernel
theorem dX7_addTube_81 : decode cX7_addTube 81 = .ok (.iload 4, 2) := by decide +kernel
theorem dX7_addTube_83 : decode cX7_addTube 83 = .ok (.iload 5, 2) := by decide +kernel
theorem dX7_addTube_85 : decode cX7_addTube 85 = .ok (.invokevirtual 245, 3) := by decide +kernel
theorem dX7_addTube_88 : decode cX7_addTube 88 = .ok (.aload_n 0, 1) := by decide +kernel
theorem dX7_addTube_89 : decode cX7_addTube 89 = .ok (.getfield 10, 3) := by decide +kernel
theorem dX7_addTube_92 : decode cX7_addTube 92 = .ok (.invokevirtual 85, 3) := by decide +kernel
theorem dX7_addTube_95 : decode cX7_addTube 95 = .ok (.pop, 1) := by decide +kernel
theorem dX7_addTube_96 : decode cX7_addTube 96 = .ok (.aload_n 0, 1) := by decide +kernel
theorem dX7_addTube_97 : decode cX7_addTube 97 = .ok (.getfield 10, 3) := by decide +kernel
theorem dX7_addTube_100 : decode cX7_addTube 100 = .ok (.getfield 108, 3) := by decide +kernel
theorem dX7_addTube_103 : decode cX7_addTube 103 = .ok (.iconst 1, 1) := by decide +kernel
theorem dX7_addTube_104 : decode cX7_addTube 104 = .ok (.isub, 1) := by decide +kernel
theorem dX7_addTube_105 : decode cX7_addTube 105 = .ok (.ireturn, 1) := by decide +kernel
theorem dX7_dropTube_0 : decode cX7_dropTube 0 = .ok (.aload_n 0, 1) := by decide +kernel
theorem dX7_dropTube_1 : decode cX7_dropTube 1 = .ok (.iload_n 1, 1) := by decide +kernel
theorem dX7_dropTube_2 : decode cX7_dropTube 2 = .ok (.invokevirtual 166, 3) := by decide +kernel
theorem dX7_dropTube_5 : decode cX7_dropTube 5 = .ok (.aload_n 0, 1) := by decide +kernel
theorem dX7_dropTube_6 : decode cX7_dropTube 6 = .ok (.getfield 25, 3) := by decide +kernel
theorem dX7_dropTube_9 : decode cX7_dropTube 9 = .ok (.aload_n 0, 1) := by decide +kernel
theorem dX7_dropTube_10 : decode cX7_dropTube 10 = .ok (.getfield 10, 3) := by decide +kernel
theorem dX7_dropTube_13 : decode cX7_dropTube 13 = .ok (.invokevirtual 229, 3) := by decide +kernel
theorem dX7_dropTube_16 : decode cX7_dropTube 16 = .ok (.aload_n 0, 1) := by decide +kernel
theorem dX7_dropTube_17 : decode cX7_dropTube 17 = .ok (.getfield 10, 3) := by decide +kernel
theorem dX7_dropTube_20 : decode cX7_dropTube 20 = .ok (.iload_n 1, 1) := by decide +kernel
theorem dX7_dropTube_21 : decode cX7_dropTube 21 = .ok (.invokevirtual 248, 3) := by decide +kernel
theorem dX7_dropTube_24 : decode cX7_dropTube 24 = .ok (.aload_n 0, 1) := by decide +kernel
theorem dX7_dropTube_25 : decode cX7_dropTube 25 = .ok (.getfield 10, 3) := by decide +kernel
theorem dX7_dropTube_28 : decode cX7_dropTube 28 = .ok (.invokevirtual 85, 3) := by decide +kernel
theorem dX7_dropTube_31 : decode cX7_dropTube 31 = .ok (.pop, 1) := by decide +kernel
theorem dX7_dropTube_32 : decode cX7_dropTube 32 = .ok (.aload_n 0, 1) := by decide +kernel
theorem dX7_dropTube_33 : decode cX7_dropTube 33 = .ok (.getfield 10, 3) := by decide +kernel
theorem dX7_dropTube_36 : decode cX7_dropTube 36 = .ok (.getfield 108, 3) := by decide +kernel
theorem dX7_dropTube_39 : decode cX7_dropTube 39 = .ok (.ireturn, 1) := by decide +kernel
theorem dX7_format_0 : decode cX7_format 0 = .ok (.aload_n 0, 1) := by decide +kernel
theorem dX7_format_1 : decode cX7_format 1 = .ok (.iload_n 1, 1) := by decide +kernel
theorem dX7_format_2 : decode cX7_format 2 = .ok (.invokevirtual 166, 3) := by decide +kernel
theorem dX7_format_5 : decode cX7_format 5 = .ok (.aload_n 0, 1) := by decide +kernel
theorem dX7_format_6 : decode cX7_format 6 = .ok (.getfield 10, 3) := by decide +kernel
theorem dX7_format_9 : decode cX7_format 9 = .ok (.iload_n 1, 1) := by decide +kernel
theorem dX7_format_10 : decode cX7_format 10 = .ok (.invokevirtual 175, 3) := by decide +kernel
theorem dX7_format_13 : decode cX7_format 13 = .ok (.astore_n 2, 1) := by decide +kernel
theorem dX7_format_14 : decode cX7_format 14 = .ok (.aload_n 0, 1) := by decide +kernel
theorem dX7_format_15 : decode cX7_format 15 = .ok (.getfield 39, 3) := by decide +kernel
theorem dX7_format_18 : decode cX7_format 18 = .ok (.iconst 0, 1) := by decide +kernel
theorem dX7_format_19 : decode cX7_format 19 = .ok (.invokevirtual 251, 3) := by decide +kernel
theorem dX7_format_22 : decode cX7_format 22 = .ok (.aload_n 0, 1) := by decide +kernel
theorem dX7_format_23 : decode cX7_format 23 = .ok (.getfield 39, 3) := by decide +kernel
theorem dX7_format_26 : decode cX7_format 26 = .ok (.aload_n 2, 1) := by decide +kernel
theorem dX7_format_27 : decode cX7_format 27 = .ok (.getfield 254, 3) := by decide +kernel
theorem dX7_format_30 : decode cX7_format 30 = .ok (.invokevirtual 257, 3) := by decide +kernel
theorem dX7_format_33 : decode cX7_format 33 = .ok (.pop, 1) := by decide +kernel
theorem dX7_format_34 : decode cX7_format 34 = .ok (.aload_n 0, 1) := by decide +kernel
theorem dX7_format_35 : decode cX7_format 35 = .ok (.getfield 39, 3) := by decide +kernel
theorem dX7_format_38 : decode cX7_format 38 = .ok (.bipush 47, 2) := by decide +kernel
theorem dX7_format_40 : decode cX7_format 40 = .ok (.invokevirtual 260, 3) := by decide +kernel
theorem dX7_format_43 : decode cX7_format 43 = .ok (.pop, 1) := by decide +kernel
theorem dX7_format_44 : decode cX7_format 44 = .ok (.aload_n 0, 1) := by decide +kernel
theorem dX7_format_45 : decode cX7_format 45 = .ok (.getfield 39, 3) := by decide +kernel
theorem dX7_format_48 : decode cX7_format 48 = .ok (.aload_n 2, 1) := by decide +kernel
theorem dX7_format_49 : decode cX7_format 49 = .ok (.getfield 208, 3) := by decide +kernel
theorem dX7_format_52 : decode cX7_format 52 = .ok (.invokevirtual 257, 3) := by decide +kernel
theorem dX7_format_55 : decode cX7_format 55 = .ok (.pop, 1) := by decide +kernel
theorem dX7_format_56 : decode cX7_format 56 = .ok (.aload_n 0, 1) := by decide +kernel
theorem dX7_format_57 : decode cX7_format 57 = .ok (.getfield 39, 3) := by decide +kernel
theorem dX7_format_60 : decode cX7_format 60 = .ok (.bipush 32, 2) := by decide +kernel
theorem dX7_format_62 : decode cX7_format 62 = .ok (.invokevirtual 260, 3) := by decide +kernel
theorem dX7_format_65 : decode cX7_format 65 = .ok (.pop, 1) := by decide +kernel
theorem dX7_format_66 : decode cX7_format 66 = .ok (.aload_n 0, 1) := by decide +kernel
theorem dX7_format_67 : decode cX7_format 67 = .ok (.getfield 39, 3) := by decide +kernel
theorem dX7_format_70 : decode cX7_format 70 = .ok (.aload_n 2, 1) := by decide +kernel
theorem dX7_format_71 : decode cX7_format 71 = .ok (.getfield 226, 3) := by decide +kernel
theorem dX7_format_74 : decode cX7_format 74 = .ok (.invokevirtual 257, 3) := by decide +kernel
theorem dX7_format_77 : decode cX7_format 77 = .ok (.pop, 1) := by decide +kernel
theorem dX7_format_78 : decode cX7_format 78 = .ok (.aload_n 0, 1) := by decide +kernel
theorem dX7_format_79 : decode cX7_format 79 = .ok (.getfield 39, 3) := by decide +kernel
theorem dX7_format_82 : decode cX7_format 82 = .ok (.bipush 32, 2) := by decide +kernel
theorem dX7_format_84 : decode cX7_format 84 = .ok (.invokevirtual 260, 3) := by decide +kernel
theorem dX7_format_87 : decode cX7_format 87 = .ok (.pop, 1) := by decide +kernel
theorem dX7_format_88 : decode cX7_format 88 = .ok (.aload_n 2, 1) := by decide +kernel
theorem dX7_format_89 : decode cX7_format 89 = .ok (.getfield 179, 3) := by decide +kernel
theorem dX7_format_92 : decode cX7_format 92 = .ok (.ifCond .ne 18, 3) := by decide +kernel
theorem dX7_format_95 : decode cX7_format 95 = .ok (.aload_n 0, 1) := by decide +kernel
theorem dX7_format_96 : decode cX7_format 96 = .ok (.getfield 39, 3) := by decide +kernel
theorem dX7_format_99 : decode cX7_format 99 = .ok (.aload_n 2, 1) := by decide +kernel
theorem dX7_format_100 : decode cX7_format 100 = .ok (.invokevirtual 220, 3) := by decide +kernel
theorem dX7_format_103 : decode cX7_format 103 = .ok (.invokevirtual 257, 3) := by decide +kernel
theorem dX7_format_106 : decode cX7_format 106 = .ok (.pop, 1) := by decide +kernel
theorem dX7_format_107 : decode cX7_format 107 = .ok (.goto 28, 3) := by decide +kernel
theorem dX7_format_110 : decode cX7_format 110 = .ok (.aload_n 0, 1) := by decide +kernel
theorem dX7_format_111 : decode cX7_format 111 = .ok (.getfield 39, 3) := by decide +kernel
theorem dX7_format_114 : decode cX7_format 114 = .ok (.aload_n 2, 1) := by decide +kernel
theorem dX7_format_115 : decode cX7_format 115 = .ok (.getfield 179, 3) := by decide +kernel
theorem dX7_format_118 : decode cX7_format 118 = .ok (.iconst 1, 1) := by decide +kernel
theorem dX7_format_119 : decode cX7_format 119 = .ok (.if_icmp .ne 9, 3) := by decide +kernel
theorem dX7_format_122 : decode cX7_format 122 = .ok (.ldc_w 263, 3) := by decide +kernel
theorem dX7_format_125 : decode cX7_format 125 = .ok (.goto 6, 3) := by decide +kernel
theorem dX7_format_128 : decode cX7_format 128 = .ok (.ldc_w 265, 3) := by decide +kernel
theorem dX7_format_131 : decode cX7_format 131 = .ok (.invokevirtual 267, 3) := by decide +kernel
theorem dX7_format_134 : decode cX7_format 134 = .ok (.pop, 1) := by decide +kernel
theorem dX7_format_135 : decode cX7_format 135 = .ok (.aload_n 0, 1) := by decide +kernel
theorem dX7_format_136 : decode cX7_format 136 = .ok (.getfield 39, 3) := by decide +kernel
theorem dX7_format_139 : decode cX7_format 139 = .ok (.invokevirtual 270, 3) := by decide +kernel
theorem dX7_format_142 : decode cX7_format 142 = .ok (.ireturn, 1) := by decide +kernel
theorem dX7_formattedByte_0 : decode cX7_formattedByte 0 = .ok (.iload_n 1, 1) := by decide +kernel
theorem dX7_formattedByte_1 : decode cX7_formattedByte 1 = .ok (.ifCond .lt 25, 3) := by decide +kernel
theorem dX7_formattedByte_4 : decode cX7_formattedByte 4 = .ok (.iload_n 1, 1) := by decide +kernel
theorem dX7_formattedByte_5 : decode cX7_formattedByte 5 = .ok (.aload_n 0, 1) := by decide +kernel
theorem dX7_formattedByte_6 : decode cX7_formattedByte 6 = .ok (.getfield 39, 3) := by decide +kernel
theorem dX7_formattedByte_9 : decode cX7_formattedByte 9 = .ok (.invokevirtual 270, 3) := by decide +kernel
theorem dX7_formattedByte_12 : decode cX7_formattedByte 12 = .ok (.if_icmp .ge 14, 3) := by decide +kernel
theorem dX7_formattedByte_15 : decode cX7_formattedByte 15 = .ok (.aload_n 0, 1) := by decide +kernel
theorem dX7_formattedByte_16 : decode cX7_formattedByte 16 = .ok (.getfield 39, 3) := by decide +kernel
theorem dX7_formattedByte_19 : decode cX7_formattedByte 19 = .ok (.iload_n 1, 1) := by decide +kernel
theorem dX7_formattedByte_20 : decode cX7_formattedByte 20 = .ok (.invokevirtual 273, 3) := by decide +kernel
theorem dX7_formattedByte_23 : decode cX7_formattedByte 23 = .ok (.goto 4, 3) := by decide +kernel
theorem dX7_formattedByte_26 : decode cX7_formattedByte 26 = .ok (.iconst (-1), 1) := by decide +kernel
theorem dX7_formattedByte_27 : decode cX7_formattedByte 27 = .ok (.ireturn, 1) := by decide +kernel
theorem dX7_undoCount_0 : decode cX7_undoCount 0 = .ok (.aload_n 0, 1) := by decide +kernel
theorem dX7_undoCount_1 : decode cX7_undoCount 1 = .ok (.getfield 25, 3) := by decide +kernel
theorem dX7_undoCount_4 : decode cX7_undoCount 4 = .ok (.getfield 277, 3) := by decide +kernel
theorem dX7_undoCount_7 : decode cX7_undoCount 7 = .ok (.ireturn, 1) := by decide +kernel
theorem dX7_undo_0 : decode cX7_undo 0 = .ok (.aload_n 0, 1) := by decide +kernel
theorem dX7_undo_1 : decode cX7_undo 1 = .ok (.getfield 25, 3) := by decide +kernel
theorem dX7_undo_4 : decode cX7_undo 4 = .ok (.getfield 277, 3) := by decide +kernel
theorem dX7_undo_7 : decode cX7_undo 7 = .ok (.ifCond .ne 5, 3) := by decide +kernel
theorem dX7_undo_10 : decode cX7_undo 10 = .ok (.iconst (-1), 1) := by decide +kernel
theorem dX7_undo_11 : decode cX7_undo 11 = .ok (.ireturn, 1) := by decide +kernel
theorem dX7_undo_12 : decode cX7_undo 12 = .ok (.aload_n 0, 1) := by decide +kernel
theorem dX7_undo_13 : decode cX7_undo 13 = .ok (.getfield 25, 3) := by decide +kernel
theorem dX7_undo_16 : decode cX7_undo 16 = .ok (.aload_n 0, 1) := by decide +kernel
theorem dX7_undo_17 : decode cX7_undo 17 = .ok (.getfield 10, 3) := by decide +kernel
theorem dX7_undo_20 : decode cX7_undo 20 = .ok (.invokevirtual 280, 3) := by decide +kernel
theorem dX7_undo_23 : decode cX7_undo 23 = .ok (.aload_n 0, 1) := by decide +kernel
theorem dX7_undo_24 : decode cX7_undo 24 = .ok (.getfield 25, 3) := by decide +kernel
theorem dX7_undo_27 : decode cX7_undo 27 = .ok (.getfield 277, 3) := by decide +kernel
theorem dX7_undo_30 : decode cX7_undo 30 = .ok (.ireturn, 1) := by decide +kernel
theorem dX7_saveSnapshot_0 : decode cX7_saveSnapshot 0 = .ok (.aload_n 0, 1) := by decide +kernel
theorem dX7_saveSnapshot_1 : decode cX7_saveSnapshot 1 = .ok (.getfield 19, 3) := by decide +kernel
theorem dX7_saveSnapshot_4 : decode cX7_saveSnapshot 4 = .ok (.aload_n 0, 1) := by decide +kernel
theorem dX7_saveSnapshot_5 : decode cX7_saveSnapshot 5 = .ok (.getfield 10, 3) := by decide +kernel
theorem dX7_saveSnapshot_8 : decode cX7_saveSnapshot 8 = .ok (.invokevirtual 81, 3) := by decide +kernel
theorem dX7_saveSnapshot_11 : decode cX7_saveSnapshot 11 = .ok (.aload_n 0, 1) := by decide +kernel
theorem dX7_saveSnapshot_12 : decode cX7_saveSnapshot 12 = .ok (.iconst 1, 1) := by decide +kernel
theorem dX7_saveSnapshot_13 : decode cX7_saveSnapshot 13 = .ok (.putfield 91, 3) := by decide +kernel
theorem dX7_saveSnapshot_16 : decode cX7_saveSnapshot 16 = .ok (.return_, 1) := by decide +kernel
theorem dX7_restoreSnapshot_0 : decode cX7_restoreSnapshot 0 = .ok (.aload_n 0, 1) := by decide +kernel
theorem dX7_restoreSnapshot_1 : decode cX7_restoreSnapshot 1 = .ok (.getfield 91, 3) := by decide +kernel
theorem dX7_restoreSnapshot_4 : decode cX7_restoreSnapshot 4 = .ok (.ifCond .ne 5, 3) := by decide +kernel
theorem dX7_restoreSnapshot_7 : decode cX7_restoreSnapshot 7 = .ok (.iconst 0, 1) := by decide +kernel
theorem dX7_restoreSnapshot_8 : decode cX7_restoreSnapshot 8 = .ok (.ireturn, 1) := by decide +kernel
theorem dX7_restoreSnapshot_9 : decode cX7_restoreSnapshot 9 = .ok (.aload_n 0, 1) := by decide +kernel
theorem dX7_restoreSnapshot_10 : decode cX7_restoreSnapshot 10 = .ok (.getfield 10, 3) := by decide +kernel
theorem dX7_restoreSnapshot_13 : decode cX7_restoreSnapshot 13 = .ok (.aload_n 0, 1) := by decide +kernel
theorem dX7_restoreSnapshot_14 : decode cX7_restoreSnapshot 14 = .ok (.getfield 19, 3) := by decide +kernel
theorem dX7_restoreSnapshot_17 : decode cX7_restoreSnapshot 17 = .ok (.invokevirtual 81, 3) := by decide +kernel
theorem dX7_restoreSnapshot_20 : decode cX7_restoreSnapshot 20 = .ok (.aload_n 0, 1) := by decide +kernel
theorem dX7_restoreSnapshot_21 : decode cX7_restoreSnapshot 21 = .ok (.getfield 25, 3) := by decide +kernel
theorem dX7_restoreSnapshot_24 : decode cX7_restoreSnapshot 24 = .ok (.invokevirtual 89, 3) := by decide +kernel
theorem dX7_restoreSnapshot_27 : decode cX7_restoreSnapshot 27 = .ok (.iconst 1, 1) := by decide +kernel
theorem dX7_restoreSnapshot_28 : decode cX7_restoreSnapshot 28 = .ok (.ireturn, 1) := by decide +kernel
theorem dX7_query_0 : decode cX7_query 0 = .ok (.iload_n 1, 1) := by decide +kernel
theorem dX7_query_1 : decode cX7_query 1 = .ok (.iconst 0, 1) := by decide +kernel
theorem dX7_query_2 : decode cX7_query 2 = .ok (.sipush 200, 3) := by decide +kernel
theorem dX7_query_5 : decode cX7_query 5 = .ok (.aload_n 0, 1) := by decide +kernel
theorem dX7_query_6 : decode cX7_query 6 = .ok (.getfield 32, 3) := by decide +kernel
theorem dX7_query_9 : decode cX7_query 9 = .ok (.getfield 56, 3) := by decide +kernel
theorem dX7_query_12 : decode cX7_query 12 = .ok (.invokestatic 211, 3) := by decide +kernel
theorem dX7_query_15 : decode cX7_query 15 = .ok (.invokestatic 60, 3) := by decide +kernel
theorem dX7_query_18 : decode cX7_query 18 = .ok (.aload_n 0, 1) := by decide +kernel
theorem dX7_query_19 : decode cX7_query 19 = .ok (.getfield 32, 3) := by decide +kernel
theorem dX7_query_22 : decode cX7_query 22 = .ok (.iload_n 1, 1) := by decide +kernel
theorem dX7_query_23 : decode cX7_query 23 = .ok (.invokevirtual 64, 3) := by decide +kernel
theorem dX7_query_26 : decode cX7_query 26 = .ok (.new 283, 3) := by decide +kernel
theorem dX7_query_29 : decode cX7_query 29 = .ok (.dup, 1) := by decide +kernel
theorem dX7_query_30 : decode cX7_query 30 = .ok (.aload_n 0, 1) := by decide +kernel
theorem dX7_query_31 : decode cX7_query 31 = .ok (.getfield 32, 3) := by decide +kernel
theorem dX7_query_34 : decode cX7_query 34 = .ok (.aload_n 0, 1) := by decide +kernel
theorem dX7_query_35 : decode cX7_query 35 = .ok (.getfield 10, 3) := by decide +kernel
theorem dX7_query_38 : decode cX7_query 38 = .ok (.invokespecial 285, 3) := by decide +kernel
theorem dX7_query_41 : decode cX7_query 41 = .ok (.astore_n 2, 1) := by decide +kernel
theorem dX7_query_42 : decode cX7_query 42 = .ok (.aload_n 2, 1) := by decide +kernel
theorem dX7_query_43 : decode cX7_query 43 = .ok (.invokevirtual 286, 3) := by decide +kernel
theorem dX7_query_46 : decode cX7_query 46 = .ok (.istore_n 3, 1) := by decide +kernel
theorem dX7_query_47 : decode cX7_query 47 = .ok (.aload_n 2, 1) := by decide +kernel
theorem dX7_query_48 : decode cX7_query 48 = .ok (.iconst 0, 1) := by decide +kernel
theorem dX7_query_49 : decode cX7_query 49 = .ok (.invokevirtual 290, 3) := by decide +kernel
theorem dX7_query_52 : decode cX7_query 52 = .ok (.istore 4, 2) := by decide +kernel
theorem dX7_query_54 : decode cX7_query 54 = .ok (.aload_n 0, 1) := by decide +kernel
theorem dX7_query_55 : decode cX7_query 55 = .ok (.getfield 32, 3) := by decide +kernel
theorem dX7_query_58 : decode cX7_query 58 = .ok (.invokevirtual 293, 3) := by decide +kernel
theorem dX7_query_61 : decode cX7_query 61 = .ok (.aload_n 0, 1) := by decide +kernel
theorem dX7_query_62 : decode cX7_query 62 = .ok (.getfield 32, 3) := by decide +kernel
theorem dX7_query_65 : decode cX7_query 65 = .ok (.invokevirtual 75, 3) := by decide +kernel
theorem dX7_query_68 : decode cX7_query 68 = .ok (.aload_n 0, 1) := by decide +kernel
theorem dX7_query_69 : decode cX7_query 69 = .ok (.getfield 32, 3) := by decide +kernel
theorem dX7_query_72 : decode cX7_query 72 = .ok (.getfield 78, 3) := by decide +kernel
theorem dX7_query_75 : decode cX7_query 75 = .ok (.ifCond .eq 14, 3) := by decide +kernel
theorem dX7_query_78 : decode cX7_query 78 = .ok (.ldc 188, 2) := by decide +kernel
theorem dX7_query_80 : decode cX7_query 80 = .ok (.aload_n 0, 1) := by decide +kernel
theorem dX7_query_81 : decode cX7_query 81 = .ok (.getfield 32, 3) := by decide +kernel
theorem dX7_query_84 : decode cX7_query 84 = .ok (.getfield 78, 3) := by decide +kernel
theorem dX7_query_87 : decode cX7_query 87 = .ok (.isub, 1) := by decide +kernel
theorem dX7_query_88 : decode cX7_query 88 = .ok (.ireturn, 1) := by decide +kernel
theorem dX7_query_89 : decode cX7_query 89 = .ok (.iload_n 3, 1) := by decide +kernel
theorem dX7_query_90 : decode cX7_query 90 = .ok (.ifCond .eq 11, 3) := by decide +kernel
theorem dX7_query_93 : decode cX7_query 93 = .ok (.iload 4, 2) := by decide +kernel
theorem dX7_query_95 : decode cX7_query 95 = .ok (.invokestatic 296, 3) := by decide +kernel
theorem dX7_query_98 : decode cX7_query 98 = .ok (.goto 8, 3) := by decide +kernel
theorem dX7_query_101 : decode cX7_query 101 = .ok (.iload 4, 2) := by decide +kernel
theorem dX7_query_103 : decode cX7_query 103 = .ok (.invokestatic 301, 3) := by decide +kernel
theorem dX7_query_106 : decode cX7_query 106 = .ok (.ireturn, 1) := by decide +kernel
theorem dX7_requirePoint_0 : decode cX7_requirePoint 0 = .ok (.iload_n 1, 1) := by decide +kernel
theorem dX7_requirePoint_1 : decode cX7_requirePoint 1 = .ok (.ifCond .lt 14, 3) := by decide +kernel
theorem dX7_requirePoint_4 : decode cX7_requirePoint 4 = .ok (.iload_n 1, 1) := by decide +kernel
theorem dX7_requirePoint_5 : decode cX7_requirePoint 5 = .ok (.aload_n 0, 1) := by decide +kernel
theorem dX7_requirePoint_6 : decode cX7_requirePoint 6 = .ok (.getfield 10, 3) := by decide +kernel
theorem dX7_requirePoint_9 : decode cX7_requirePoint 9 = .ok (.getfield 102, 3) := by decide +kernel
theorem dX7_requirePoint_12 : decode cX7_requirePoint 12 = .ok (.if_icmp .lt 14, 3) := by decide +kernel
theorem dX7_requirePoint_15 : decode cX7_requirePoint 15 = .ok (.new 114, 3) := by decide +kernel
theorem dX7_requirePoint_18 : decode cX7_requirePoint 18 = .ok (.dup, 1) := by decide +kernel
theorem dX7_requirePoint_19 : decode cX7_requirePoint 19 = .ok (.ldc_w 304, 3) := by decide +kernel
theorem dX7_requirePoint_22 : decode cX7_requirePoint 22 = .ok (.invokespecial 118, 3) := by decide +kernel
theorem dX7_requirePoint_25 : decode cX7_requirePoint 25 = .ok (.athrow, 1) := by decide +kernel
theorem dX7_requirePoint_26 : decode cX7_requirePoint 26 = .ok (.return_, 1) := by decide +kernel
theorem dX7_requireTube_0 : decode cX7_requireTube 0 = .ok (.iload_n 1, 1) := by decide +kernel
theorem dX7_requireTube_1 : decode cX7_requireTube 1 = .ok (.ifCond .lt 14, 3) := by decide +kernel
theorem dX7_requireTube_4 : decode cX7_requireTube 4 = .ok (.iload_n 1, 1) := by decide +kernel
theorem dX7_requireTube_5 : decode cX7_requireTube 5 = .ok (.aload_n 0, 1) := by decide +kernel
theorem dX7_requireTube_6 : decode cX7_requireTube 6 = .ok (.getfield 10, 3) := by decide +kernel
theorem dX7_requireTube_9 : decode cX7_requireTube 9 = .ok (.getfield 108, 3) := by decide +kernel
theorem dX7_requireTube_12 : decode cX7_requireTube 12 = .ok (.if_icmp .lt 14, 3) := by decide +kernel
theorem dX7_requireTube_15 : decode cX7_requireTube 15 = .ok (.new 114, 3) := by decide +kernel
theorem dX7_requireTube_18 : decode cX7_requireTube 18 = .ok (.dup, 1) := by decide +kernel
theorem dX7_requireTube_19 : decode cX7_requireTube 19 = .ok (.ldc_w 306, 3) := by decide +kernel
theorem dX7_requireTube_22 : decode cX7_requireTube 22 = .ok (.invokespecial 118, 3) := by decide +kernel
theorem dX7_requireTube_25 : decode cX7_requireTube 25 = .ok (.athrow, 1) := by decide +kernel
theorem dX7_requireTube_26 : decode cX7_requireTube 26 = .ok (.return_, 1) := by decide +kernel
theorem dX7_requireLeg_0 : decode cX7_requireLeg 0 = .ok (.iload_n 0, 1) := by decide +kernel
theorem dX7_requireLeg_1 : decode cX7_requireLeg 1 = .ok (.ifCond .eq 19, 3) := by decide +kernel
theorem dX7_requireLeg_4 : decode cX7_requireLeg 4 = .ok (.iload_n 0, 1) := by decide +kernel
theorem dX7_requireLeg_5 : decode cX7_requireLeg 5 = .ok (.iconst 1, 1) := by decide +kernel
theorem dX7_requireLeg_6 : decode cX7_requireLeg 6 = .ok (.if_icmp .eq 14, 3) := by decide +kernel
theorem dX7_requireLeg_9 : decode cX7_requireLeg 9 = .ok (.new 114, 3) := by decide +kernel
theorem dX7_requireLeg_12 : decode cX7_requireLeg 12 = .ok (.dup, 1) := by decide +kernel
theorem dX7_requireLeg_13 : decode cX7_requireLeg 13 = .ok (.ldc_w 308, 3) := by decide +kernel
theorem dX7_requireLeg_16 : decode cX7_requireLeg 16 = .ok (.invokespecial 118, 3) := by decide +kernel
theorem dX7_requireLeg_19 : decode cX7_requireLeg 19 = .ok (.athrow, 1) := by decide +kernel
theorem dX7_requireLeg_20 : decode cX7_requireLeg 20 = .ok (.return_, 1) := by decide +kernel
theorem dX7_requireWithin_0 : decode cX7_requireWithin 0 = .ok (.iload_n 0, 1) := by decide +kernel
theorem dX7_requireWithin_1 : decode cX7_requireWithin 1 = .ok (.iload_n 1, 1) := by decide +kernel
theorem dX7_requireWithin_2 : decode cX7_requireWithin 2 = .ok (.if_icmp .lt 8, 3) := by decide +kernel
theorem dX7_requireWithin_5 : decode cX7_requireWithin 5 = .ok (.iload_n 0, 1) := by decide +kernel
theorem dX7_requireWithin_6 : decode cX7_requireWithin 6 = .ok (.iload_n 2, 1) := by decide +kernel
theorem dX7_requireWithin_7 : decode cX7_requireWithin 7 = .ok (.if_icmp .le 14, 3) := by decide +kernel
theorem dX7_requireWithin_10 : decode cX7_requireWithin 10 = .ok (.new 310, 3) := by decide +kernel
theorem dX7_requireWithin_13 : decode cX7_requireWithin 13 = .ok (.dup, 1) := by decide +kernel
theorem dX7_requireWithin_14 : decode cX7_requireWithin 14 = .ok (.ldc_w 312, 3) := by decide +kernel
theorem dX7_requireWithin_17 : decode cX7_requireWithin 17 = .ok (.invokespecial 314, 3) := by decide +kernel
theorem dX7_requireWithin_20 : decode cX7_requireWithin 20 = .ok (.athrow, 1) := by decide +kernel
theorem dX7_requireWithin_21 : decode cX7_requireWithin 21 = .ok (.return_, 1) := by decide +kernel
theorem dX7_tryPressure_0 : decode cX7_tryPressure 0 = .ok (.aload_n 0, 1) := by decide +kernel
theorem dX7_tryPressure_1 : decode cX7_tryPressure 1 = .ok (.getfield 16, 3) := by decide +kernel
theorem dX7_tryPressure_4 : decode cX7_tryPressure 4 = .ok (.aload_n 0, 1) := by decide +kernel
theorem dX7_tryPressure_5 : decode cX7_tryPressure 5 = .ok (.getfield 10, 3) := by decide +kernel
theorem dX7_tryPressure_8 : decode cX7_tryPressure 8 = .ok (.invokevirtual 81, 3) := by decide +kernel
theorem dX7_tryPressure_11 : decode cX7_tryPressure 11 = .ok (.aload_n 0, 1) := by decide +kernel
theorem dX7_tryPressure_12 : decode cX7_tryPressure 12 = .ok (.getfield 16, 3) := by decide +kernel
theorem dX7_tryPressure_15 : decode cX7_tryPressure 15 = .ok (.iload_n 1, 1) := by decide +kernel
theorem dX7_tryPressure_16 : decode cX7_tryPressure 16 = .ok (.iload_n 2, 1) := by decide +kernel
theorem dX7_tryPressure_17 : decode cX7_tryPressure 17 = .ok (.invokevirtual 223, 3) := by decide +kernel
theorem dX7_tryPressure_20 : decode cX7_tryPressure 20 = .ok (.aload_n 0, 1) := by decide +kernel
theorem dX7_tryPressure_21 : decode cX7_tryPressure 21 = .ok (.getfield 16, 3) := by decide +kernel
theorem dX7_tryPressure_24 : decode cX7_tryPressure 24 = .ok (.invokevirtual 85, 3) := by decide +kernel
theorem dX7_tryPressure_27 : decode cX7_tryPressure 27 = .ok (.pop, 1) := by decide +kernel
theorem dX7_tryPressure_28 : decode cX7_tryPressure 28 = .ok (.return_, 1) := by decide +kernel
theorem dX7_lowestBit_0 : decode cX7_lowestBit 0 = .ok (.iconst 0, 1) := by decide +kernel
theorem dX7_lowestBit_1 : decode cX7_lowestBit 1 = .ok (.istore_n 1, 1) := by decide +kernel
theorem dX7_lowestBit_2 : decode cX7_lowestBit 2 = .ok (.iload_n 1, 1) := by decide +kernel
theorem dX7_lowestBit_3 : decode cX7_lowestBit 3 = .ok (.bipush 12, 2) := by decide +kernel
theorem dX7_lowestBit_5 : decode cX7_lowestBit 5 = .ok (.if_icmp .ge 20, 3) := by decide +kernel
theorem dX7_lowestBit_8 : decode cX7_lowestBit 8 = .ok (.iload_n 0, 1) := by decide +kernel
theorem dX7_lowestBit_9 : decode cX7_lowestBit 9 = .ok (.iload_n 1, 1) := by decide +kernel
theorem dX7_lowestBit_10 : decode cX7_lowestBit 10 = .ok (.ishr, 1) := by decide +kernel
theorem dX7_lowestBit_11 : decode cX7_lowestBit 11 = .ok (.iconst 1, 1) := by decide +kernel
theorem dX7_lowestBit_12 : decode cX7_lowestBit 12 = .ok (.iand, 1) := by decide +kernel
theorem dX7_lowestBit_13 : decode cX7_lowestBit 13 = .ok (.iconst 1, 1) := by decide +kernel
theorem dX7_lowestBit_14 : decode cX7_lowestBit 14 = .ok (.if_icmp .ne 5, 3) := by decide +kernel
theorem dX7_lowestBit_17 : decode cX7_lowestBit 17 = .ok (.iload_n 1, 1) := by decide +kernel
theorem dX7_lowestBit_18 : decode cX7_lowestBit 18 = .ok (.ireturn, 1) := by decide +kernel
theorem dX7_lowestBit_19 : decode cX7_lowestBit 19 = .ok (.iinc 1 1, 3) := by decide +kernel
theorem dX7_lowestBit_22 : decode cX7_lowestBit 22 = .ok (.goto (-20), 3) := by decide +kernel
theorem dX7_lowestBit_25 : decode cX7_lowestBit 25 = .ok (.iconst (-1), 1) := by decide +kernel
theorem dX7_lowestBit_26 : decode cX7_lowestBit 26 = .ok (.ireturn, 1) := by decide +kernel
theorem dX8_thrown_0 : decode cX8_thrown 0 = .ok (.aload_n 0, 1) := by decide +kernel
theorem dX8_thrown_1 : decode cX8_thrown 1 = .ok (.getfield 1, 3) := by decide +kernel
theorem dX8_thrown_4 : decode cX8_thrown 4 = .ok (.ireturn, 1) := by decide +kernel
theorem dX8_in_0 : decode cX8_in 0 = .ok (.lload_n 0, 1) := by decide +kernel
theorem dX8_in_1 : decode cX8_in 1 = .ok (.lload_n 2, 1) := by decide +kernel
theorem dX8_in_2 : decode cX8_in 2 = .ok (.lcmp, 1) := by decide +kernel
theorem dX8_in_3 : decode cX8_in 3 = .ok (.ifCond .lt 14, 3) := by decide +kernel
theorem dX8_in_6 : decode cX8_in 6 = .ok (.lload_n 0, 1) := by decide +kernel
theorem dX8_in_7 : decode cX8_in 7 = .ok (.lload 4, 2) := by decide +kernel
theorem dX8_in_9 : decode cX8_in 9 = .ok (.lcmp, 1) := by decide +kernel
theorem dX8_in_10 : decode cX8_in 10 = .ok (.ifCond .gt 7, 3) := by decide +kernel
theorem dX8_in_13 : decode cX8_in 13 = .ok (.iconst 1, 1) := by decide +kernel
theorem dX8_in_14 : decode cX8_in 14 = .ok (.goto 4, 3) := by decide +kernel
theorem dX8_in_17 : decode cX8_in 17 = .ok (.iconst 0, 1) := by decide +kernel
theorem dX8_in_18 : decode cX8_in 18 = .ok (.ireturn, 1) := by decide +kernel
theorem dX8_lesser_0 : decode cX8_lesser 0 = .ok (.iload_n 0, 1) := by decide +kernel
theorem dX8_lesser_1 : decode cX8_lesser 1 = .ok (.iload_n 1, 1) := by decide +kernel
theorem dX8_lesser_2 : decode cX8_lesser 2 = .ok (.if_icmp .ge 7, 3) := by decide +kernel
theorem dX8_lesser_5 : decode cX8_lesser 5 = .ok (.iload_n 0, 1) := by decide +kernel
theorem dX8_lesser_6 : decode cX8_lesser 6 = .ok (.goto 4, 3) := by decide +kernel
theorem dX8_lesser_9 : decode cX8_lesser 9 = .ok (.iload_n 1, 1) := by decide +kernel
theorem dX8_lesser_10 : decode cX8_lesser 10 = .ok (.ireturn, 1) := by decide +kernel
theorem dX8_off0_0 : decode cX8_off0 0 = .ok (.iload_n 0, 1) := by decide +kernel
theorem dX8_off0_1 : decode cX8_off0 1 = .ok (.ifCond .ge 8, 3) := by decide +kernel
theorem dX8_off0_4 : decode cX8_off0 4 = .ok (.iload_n 0, 1) := by decide +kernel
theorem dX8_off0_5 : decode cX8_off0 5 = .ok (.ineg, 1) := by decide +kernel
theorem dX8_off0_6 : decode cX8_off0 6 = .ok (.goto 4, 3) := by decide +kernel
theorem dX8_off0_9 : decode cX8_off0 9 = .ok (.iload_n 0, 1) := by decide +kernel
theorem dX8_off0_10 : decode cX8_off0 10 = .ok (.ireturn, 1) := by decide +kernel
theorem dX8_fails_0 : decode cX8_fails 0 = .ok (.iload_n 1, 1) := by decide +kernel
theorem dX8_fails_1 : decode cX8_fails 1 = .ok (.ifCond .ne 15, 3) := by decide +kernel
theorem dX8_fails_4 : decode cX8_fails 4 = .ok (.aload_n 0, 1) := by decide +kernel
theorem dX8_fails_5 : decode cX8_fails 5 = .ok (.getfield 1, 3) := by decide +kernel
theorem dX8_fails_8 : decode cX8_fails 8 = .ok (.ifCond .ne 8, 3) := by decide +kernel
theorem dX8_fails_11 : decode cX8_fails 11 = .ok (.aload_n 0, 1) := by decide +kernel
theorem dX8_fails_12 : decode cX8_fails 12 = .ok (.iload_n 2, 1) := by decide +kernel
theorem dX8_fails_13 : decode cX8_fails 13 = .ok (.putfield 1, 3) := by decide +kernel
theorem dX8_fails_16 : decode cX8_fails 16 = .ok (.aload_n 0, 1) := by decide +kernel
theorem dX8_fails_17 : decode cX8_fails 17 = .ok (.getfield 1, 3) := by decide +kernel
theorem dX8_fails_20 : decode cX8_fails 20 = .ok (.ifCond .eq 7, 3) := by decide +kernel
theorem dX8_fails_23 : decode cX8_fails 23 = .ok (.iconst 1, 1) := by decide +kernel
theorem dX8_fails_24 : decode cX8_fails 24 = .ok (.goto 4, 3) := by decide +kernel
theorem dX8_fails_27 : decode cX8_fails 27 = .ok (.iconst 0, 1) := by decide +kernel
theorem dX8_fails_28 : decode cX8_fails 28 = .ok (.ireturn, 1) := by decide +kernel
theorem dX8_init_0 : decode cX8_init 0 = .ok (.aload_n 0, 1) := by decide +kernel
theorem dX8_init_1 : decode cX8_init 1 = .ok (.invokespecial 7, 3) := by decide +kernel
theorem dX8_init_4 : decode cX8_init 4 = .ok (.aload_n 0, 1) := by decide +kernel
theorem dX8_init_5 : decode cX8_init 5 = .ok (.bipush 102, 2) := by decide +kernel
theorem dX8_init_7 : decode cX8_init 7 = .ok (.newarray .int, 2) := by decide +kernel
theorem dX8_init_9 : decode cX8_init 9 = .ok (.putfield 13, 3) := by decide +kernel
theorem dX8_init_12 : decode cX8_init 12 = .ok (.aload_n 0, 1) := by decide +kernel
theorem dX8_init_13 : decode cX8_init 13 = .ok (.bipush 102, 2) := by decide +kernel
theorem dX8_init_15 : decode cX8_init 15 = .ok (.newarray .int, 2) := by decide +kernel
theorem dX8_init_17 : decode cX8_init 17 = .ok (.putfield 17, 3) := by decide +kernel
theorem dX8_init_20 : decode cX8_init 20 = .ok (.aload_n 0, 1) := by decide +kernel
theorem dX8_init_21 : decode cX8_init 21 = .ok (.bipush 102, 2) := by decide +kernel
theorem dX8_init_23 : decode cX8_init 23 = .ok (.newarray .int, 2) := by decide +kernel
theorem dX8_init_25 : decode cX8_init 25 = .ok (.putfield 20, 3) := by decide +kernel
theorem dX8_init_28 : decode cX8_init 28 = .ok (.aload_n 0, 1) := by decide +kernel
theorem dX8_init_29 : decode cX8_init 29 = .ok (.sipush 1020, 3) := by decide +kernel
theorem dX8_init_32 : decode cX8_init 32 = .ok (.newarray .int, 2) := by decide +kernel
theorem dX8_init_34 : decode cX8_init 34 = .ok (.putfield 23, 3) := by decide +kernel
theorem dX8_init_37 : decode cX8_init 37 = .ok (.aload_n 0, 1) := by decide +kernel
theorem dX8_init_38 : decode cX8_init 38 = .ok (.bipush 6, 2) := by decide +kernel
theorem dX8_init_40 : decode cX8_init 40 = .ok (.newarray .long, 2) := by decide +kernel
theorem dX8_init_42 : decode cX8_init 42 = .ok (.putfield 26, 3) := by decide +kernel
theorem dX8_init_45 : decode cX8_init 45 = .ok (.aload_n 0, 1) := by decide +kernel
theorem dX8_init_46 : decode cX8_init 46 = .ok (.bipush 6, 2) := by decide +kernel
theorem dX8_init_48 : decode cX8_init 48 = .ok (.newarray .long, 2) := by decide +kernel
theorem dX8_init_50 : decode cX8_init 50 = .ok (.putfield 30, 3) := by decide +kernel
theorem dX8_init_53 : decode cX8_init 53 = .ok (.aload_n 0, 1) := by decide +kernel
theorem dX8_init_54 : decode cX8_init 54 = .ok (.bipush 6, 2) := by decide +kernel
theorem dX8_init_56 : decode cX8_init 56 = .ok (.newarray .long, 2) := by decide +kernel
theorem dX8_init_58 : decode cX8_init 58 = .ok (.putfield 33, 3) := by decide +kernel
theorem dX8_init_61 : decode cX8_init 61 = .ok (.aload_n 0, 1) := by decide +kernel
theorem dX8_init_62 : decode cX8_init 62 = .ok (.bipush 60, 2) := by decide +kernel
theorem dX8_init_64 : decode cX8_init 64 = .ok (.newarray .long, 2) := by decide +kernel
theorem dX8_init_66 : decode cX8_init 66 = .ok (.putfield 36, 3) := by decide +kernel
theorem dX8_init_69 : decode cX8_init 69 = .ok (.aload_n 0, 1) := by decide +kernel
theorem dX8_init_70 : decode cX8_init 70 = .ok (.sipush 600, 3) := by decide +kernel
theorem dX8_init_73 : decode cX8_init 73 = .ok (.newarray .int, 2) := by decide +kernel
theorem dX8_init_75 : decode cX8_init 75 = .ok (.putfield 39, 3) := by decide +kernel
theorem dX8_init_78 : decode cX8_init 78 = .ok (.aload_n 0, 1) := by decide +kernel
theorem dX8_init_79 : decode cX8_init 79 = .ok (.iconst (-1), 1) := by decide +kernel
theorem dX8_init_80 : decode cX8_init 80 = .ok (.putfield 42, 3) := by decide +kernel
theorem dX8_init_83 : decode cX8_init 83 = .ok (.aload_n 0, 1) := by decide +kernel
theorem dX8_init_84 : decode cX8_init 84 = .ok (.bipush 40, 2) := by decide +kernel
theorem dX8_init_86 : decode cX8_init 86 = .ok (.newarray .int, 2) := by decide +kernel
theorem dX8_init_88 : decode cX8_init 88 = .ok (.putfield 45, 3) := by decide +kernel
theorem dX8_init_91 : decode cX8_init 91 = .ok (.aload_n 0, 1) := by decide +kernel
theorem dX8_init_92 : decode cX8_init 92 = .ok (.sipush 200, 3) := by decide +kernel
theorem dX8_init_95 : decode cX8_init 95 = .ok (.newarray .int, 2) := by decide +kernel
theorem dX8_init_97 : decode cX8_init 97 = .ok (.putfield 48, 3) := by decide +kernel
theorem dX8_init_100 : decode cX8_init 100 = .ok (.aload_n 0, 1) := by decide +kernel
theorem dX8_init_101 : decode cX8_init 101 = .ok (.sipush 200, 3) := by decide +kernel
theorem dX8_init_104 : decode cX8_init 104 = .ok (.newarray .int, 2) := by decide +kernel
theorem dX8_init_106 : decode cX8_init 106 = .ok (.putfield 51, 3) := by decide +kernel
theorem dX8_init_109 : decode cX8_init 109 = .ok (.aload_n 0, 1) := by decide +kernel
theorem dX8_init_110 : decode cX8_init 110 = .ok (.sipush 200, 3) := by decide +kernel
theorem dX8_init_113 : decode cX8_init 113 = .ok (.newarray .int, 2) := by decide +kernel
theorem dX8_init_115 : decode cX8_init 115 = .ok (.putfield 54, 3) := by decide +kernel
theorem dX8_init_118 : decode cX8_init 118 = .ok (.aload_n 0, 1) := by decide +kernel
theorem dX8_init_119 : decode cX8_init 119 = .ok (.iconst 2, 1) := by decide +kernel
theorem dX8_init_120 : decode cX8_init 120 = .ok (.ldc 57, 2) := by decide +kernel
theorem dX8_init_122 : decode cX8_init 122 = .ok (.invokevirtual 58, 3) := by decide +kernel
theorem dX8_init_125 : decode cX8_init 125 = .ok (.return_, 1) := by decide +kernel
theorem dX8_begins_0 : decode cX8_begins 0 = .ok (.iconst 0, 1) := by decide +kernel
theorem dX8_begins_1 : decode cX8_begins 1 = .ok (.istore_n 3, 1) := by decide +kernel
theorem dX8_begins_2 : decode cX8_begins 2 = .ok (.iload_n 3, 1) := by decide +kernel
theorem dX8_begins_3 : decode cX8_begins 3 = .ok (.bipush 102, 2) := by decide +kernel
theorem dX8_begins_5 : decode cX8_begins 5 = .ok (.if_icmp .ge 16, 3) := by decide +kernel
theorem dX8_begins_8 : decode cX8_begins 8 = .ok (.aload_n 0, 1) := by decide +kernel
theorem dX8_begins_9 : decode cX8_begins 9 = .ok (.getfield 13, 3) := by decide +kernel
theorem dX8_begins_12 : decode cX8_begins 12 = .ok (.iload_n 3, 1) := by decide +kernel
theorem dX8_begins_13 : decode cX8_begins 13 = .ok (.iconst 0, 1) := by decide +kernel
theorem dX8_begins_14 : decode cX8_begins 14 = .ok (.iastore, 1) := by decide +kernel
theorem dX8_begins_15 : decode cX8_begins 15 = .ok (.iinc 3 1, 3) := by decide +kernel
theorem dX8_begins_18 : decode cX8_begins 18 = .ok (.goto (-16), 3) := by decide +kernel
theorem dX8_begins_21 : decode cX8_begins 21 = .ok (.iconst 0, 1) := by decide +kernel
theorem dX8_begins_22 : decode cX8_begins 22 = .ok (.istore_n 3, 1) := by decide +kernel
theorem dX8_begins_23 : decode cX8_begins 23 = .ok (.iload_n 3, 1) := by decide +kernel
theorem dX8_begins_24 : decode cX8_begins 24 = .ok (.bipush 6, 2) := by decide +kernel
theorem dX8_begins_26 : decode cX8_begins 26 = .ok (.if_icmp .ge 16, 3) := by decide +kernel
theorem dX8_begins_29 : decode cX8_begins 29 = .ok (.aload_n 0, 1) := by decide +kernel
theorem dX8_begins_30 : decode cX8_begins 30 = .ok (.getfield 26, 3) := by decide +kernel
theorem dX8_begins_33 : decode cX8_begins 33 = .ok (.iload_n 3, 1) := by decide +kernel
theorem dX8_begins_34 : decode cX8_begins 34 = .ok (.lconst 0, 1) := by decide +kernel
theorem dX8_begins_35 : decode cX8_begins 35 = .ok (.lastore, 1) := by decide +kernel
theorem dX8_begins_36 : decode cX8_begins 36 = .ok (.iinc 3 1, 3) := by decide +kernel
theorem dX8_begins_39 : decode cX8_begins 39 = .ok (.goto (-16), 3) := by decide +kernel
theorem dX8_begins_42 : decode cX8_begins 42 = .ok (.aload_n 0, 1) := by decide +kernel
theorem dX8_begins_43 : decode cX8_begins 43 = .ok (.getfield 13, 3) := by decide +kernel
theorem dX8_begins_46 : decode cX8_begins 46 = .ok (.iconst 0, 1) := by decide +kernel
theorem dX8_begins_47 : decode cX8_begins 47 = .ok (.iload_n 1, 1) := by decide +kernel
theorem dX8_begins_48 : decode cX8_begins 48 = .ok (.iastore, 1) := by decide +kernel
theorem dX8_begins_49 : decode cX8_begins 49 = .ok (.aload_n 0, 1) := by decide +kernel
theorem dX8_begins_50 : decode cX8_begins 50 = .ok (.getfield 13, 3) := by decide +kernel
theorem dX8_begins_53 : decode cX8_begins 53 = .ok (.iconst 1, 1) := by decide +kernel
theorem dX8_begins_54 : decode cX8_begins 54 = .ok (.iload_n 2, 1) := by decide +kernel
theorem dX8_begins_55 : decode cX8_begins 55 = .ok (.iastore, 1) := by decide +kernel
theorem dX8_begins_56 : decode cX8_begins 56 = .ok (.iconst 0, 1) := by decide +kernel
theorem dX8_begins_57 : decode cX8_begins 57 = .ok (.istore_n 3, 1) := by decide +kernel
theorem dX8_begins_58 : decode cX8_begins 58 = .ok (.iload_n 3, 1) := by decide +kernel
theorem dX8_begins_59 : decode cX8_begins 59 = .ok (.bipush 8, 2) := by decide +kernel
theorem dX8_begins_61 : decode cX8_begins 61 = .ok (.if_icmp .ge 19, 3) := by decide +kernel
theorem dX8_begins_64 : decode cX8_begins 64 = .ok (.aload_n 0, 1) := by decide +kernel
theorem dX8_begins_65 : decode cX8_begins 65 = .ok (.getfield 13, 3) := by decide +kernel
theorem dX8_begins_68 : decode cX8_begins 68 = .ok (.iconst 4, 1) := by decide +kernel
theorem dX8_begins_69 : decode cX8_begins 69 = .ok (.iload_n 3, 1) := by decide +kernel
theorem dX8_begins_70 : decode cX8_begins 70 = .ok (.iadd, 1) := by decide +kernel
theorem dX8_begins_71 : decode cX8_begins 71 = .ok (.ldc 57, 2) := by decide +kernel
theorem dX8_begins_73 : decode cX8_begins 73 = .ok (.iastore, 1) := by decide +kernel
theorem dX8_begins_74 : decode cX8_begins 74 = .ok (.iinc 3 1, 3) := by decide +kernel
theorem dX8_begins_77 : decode cX8_begins 77 = .ok (.goto (-19), 3) := by decide +kernel
theorem dX8_begins_80 : decode cX8_begins 80 = .ok (.iconst 0, 1) := by decide +kernel
theorem dX8_begins_81 : decode cX8_begins 81 = .ok (.istore_n 3, 1) := by decide +kernel
theorem dX8_begins_82 : decode cX8_begins 82 = .ok (.iload_n 3, 1) := by decide +kernel
theorem dX8_begins_83 : decode cX8_begins 83 = .ok (.iconst 2, 1) := by decide +kernel
theorem dX8_begins_84 : decode cX8_begins 84 = .ok (.if_icmp .ge 21, 3) := by decide +kernel
theorem dX8_begins_87 : decode cX8_begins 87 = .ok (.aload_n 0, 1) := by decide +kernel
theorem dX8_begins_88 : decode cX8_begins 88 = .ok (.iload_n 3, 1) := by decide +kernel
theorem dX8_begins_89 : decode cX8_begins 89 = .ok (.sipush 1000, 3) := by decide +kernel
theorem dX8_begins_92 : decode cX8_begins 92 = .ok (.sipush 10000, 3) := by decide +kernel
theorem dX8_begins_95 : decode cX8_begins 95 = .ok (.iconst 0, 1) := by decide +kernel
theorem dX8_begins_96 : decode cX8_begins 96 = .ok (.invokevirtual 62, 3) := by decide +kernel
theorem dX8_begins_99 : decode cX8_begins 99 = .ok (.iinc 3 1, 3) := by decide +kernel
theorem dX8_begins_102 : decode cX8_begins 102 = .ok (.goto (-20), 3) := by decide +kernel
theorem dX8_begins_105 : decode cX8_begins 105 = .ok (.return_, 1) := by decide +kernel
theorem dX8_laysLeg_0 : decode cX8_laysLeg 0 = .ok (.aload_n 0, 1) := by decide +kernel
theorem dX8_laysLeg_1 : decode cX8_laysLeg 1 = .ok (.getfield 13, 3) := by decide +kernel
theorem dX8_laysLeg_4 : decode cX8_laysLeg 4 = .ok (.bipush 12, 2) := by decide +kernel
theorem dX8_laysLeg_6 : decode cX8_laysLeg 6 = .ok (.iconst 3, 1) := by decide +kernel
theorem dX8_laysLeg_7 : decode cX8_laysLeg 7 = .ok (.iload_n 1, 1) := by decide +kernel
theorem dX8_laysLeg_8 : decode cX8_laysLeg 8 = .ok (.imul, 1) := by decide +kernel
theorem dX8_laysLeg_9 : decode cX8_laysLeg 9 = .ok (.iadd, 1) := by decide +kernel
theorem dX8_laysLeg_10 : decode cX8_laysLeg 10 = .ok (.iconst 0, 1) := by decide +kernel
theorem dX8_laysLeg_11 : decode cX8_laysLeg 11 = .ok (.iadd, 1) := by decide +kernel
theorem dX8_laysLeg_12 : decode cX8_laysLeg 12 = .ok (.iload_n 2, 1) := by decide +kernel
theorem dX8_laysLeg_13 : decode cX8_laysLeg 13 = .ok (.iastore, 1) := by decide +kernel
theorem dX8_laysLeg_14 : decode cX8_laysLeg 14 = .ok (.aload_n 0, 1) := by decide +kernel
theorem dX8_laysLeg_15 : decode cX8_laysLeg 15 = .ok (.getfield 13, 3) := by decide +kernel
theorem dX8_laysLeg_18 : decode cX8_laysLeg 18 = .ok (.bipush 12, 2) := by decide +kernel
theorem dX8_laysLeg_20 : decode cX8_laysLeg 20 = .ok (.iconst 3, 1) := by decide +kernel
theorem dX8_laysLeg_21 : decode cX8_laysLeg 21 = .ok (.iload_n 1, 1) := by decide +kernel
theorem dX8_laysLeg_22 : decode cX8_laysLeg 22 = .ok (.imul, 1) := by decide +kernel
theorem dX8_laysLeg_23 : decode cX8_laysLeg 23 = .ok (.iadd, 1) := by decide +kernel
theorem dX8_laysLeg_24 : decode cX8_laysLeg 24 = .ok (.iconst 1, 1) := by decide +kernel
theorem dX8_laysLeg_25 : decode cX8_laysLeg 25 = .ok (.iadd, 1) := by decide +kernel
theorem dX8_laysLeg_26 : decode cX8_laysLeg 26 = .ok (.iload_n 3, 1) := by decide +kernel
theorem dX8_laysLeg_27 : decode cX8_laysLeg 27 = .ok (.iastore, 1) := by decide +kernel
theorem dX8_laysLeg_28 : decode cX8_laysLeg 28 = .ok (.aload_n 0, 1) := by decide +kernel
theorem dX8_laysLeg_29 : decode cX8_laysLeg 29 = .ok (.getfield 13, 3) := by decide +kernel
theorem dX8_laysLeg_32 : decode cX8_laysLeg 32 = .ok (.bipush 12, 2) := by decide +kernel
theorem dX8_laysLeg_34 : decode cX8_laysLeg 34 = .ok (.iconst 3, 1) := by decide +kernel
theorem dX8_laysLeg_35 : decode cX8_laysLeg 35 = .ok (.iload_n 1, 1) := by decide +kernel
theorem dX8_laysLeg_36 : decode cX8_laysLeg 36 = .ok (.imul, 1) := by decide +kernel
theorem dX8_laysLeg_37 : decode cX8_laysLeg 37 = .ok (.iadd, 1) := by decide +kernel
theorem dX8_laysLeg_38 : decode cX8_laysLeg 38 = .ok (.iconst 2, 1) := by decide +kernel
theorem dX8_laysLeg_39 : decode cX8_laysLeg 39 = .ok (.iadd, 1) := by decide +kernel
theorem dX8_laysLeg_40 : decode cX8_laysLeg 40 = .ok (.iload 4, 2) := by decide +kernel
theorem dX8_laysLeg_42 : decode cX8_laysLeg 42 = .ok (.iastore, 1) := by decide +kernel
theorem dX8_laysLeg_43 : decode cX8_laysLeg 43 = .ok (.return_, 1) := by decide +kernel
theorem dX8_copies_0 : decode cX8_copies 0 = .ok (.iconst 0, 1) := by decide +kernel
theorem dX8_copies_1 : decode cX8_copies 1 = .ok (.istore 4, 2) := by decide +kernel
theorem dX8_copies_3 : decode cX8_copies 3 = .ok (.iload 4, 2) := by decide +kernel
theorem dX8_copies_5 : decode cX8_copies 5 = .ok (.bipush 102, 2) := by decide +kernel
theorem dX8_copies_7 : decode cX8_copies 7 = .ok (.if_icmp .ge 21, 3) := by decide +kernel
theorem dX8_copies_10 : decode cX8_copies 10 = .ok (.aload_n 2, 1) := by decide +kernel
theorem dX8_copies_11 : decode cX8_copies 11 = .ok (.iload_n 3, 1) := by decide +kernel
theorem dX8_copies_12 : decode cX8_copies 12 = .ok (.iload 4, 2) := by decide +kernel
theorem dX8_copies_14 : decode cX8_copies 14 = .ok (.iadd, 1) := by decide +kernel
theorem dX8_copies_15 : decode cX8_copies 15 = .ok (.aload_n 0, 1) := by decide +kernel
theorem dX8_copies_16 : decode cX8_copies 16 = .ok (.iload_n 1, 1) := by decide +kernel
theorem dX8_copies_17 : decode cX8_copies 17 = .ok (.iload 4, 2) := by decide +kernel
theorem dX8_copies_19 : decode cX8_copies 19 = .ok (.iadd, 1) := by decide +kernel
theorem dX8_copies_20 : decode cX8_copies 20 = .ok (.iaload, 1) := by decide +kernel
theorem dX8_copies_21 : decode cX8_copies 21 = .ok (.iastore, 1) := by decide +kernel
theorem dX8_copies_22 : decode cX8_copies 22 = .ok (.iinc 4 1, 3) := by decide +kernel
theorem dX8_copies_25 : decode cX8_copies 25 = .ok (.goto (-22), 3) := by decide +kernel
theorem dX8_copies_28 : decode cX8_copies 28 = .ok (.return_, 1) := by decide +kernel
theorem dX8_copiesLongs_0 : decode cX8_copiesLongs 0 = .ok (.iconst 0, 1) := by decide +kernel
theorem dX8_copiesLongs_1 : decode cX8_copiesLongs 1 = .ok (.istore 4, 2) := by decide +kernel
theorem dX8_copiesLongs_3 : decode cX8_copiesLongs 3 = .ok (.iload 4, 2) := by decide +kernel
theorem dX8_copiesLongs_5 : decode cX8_copiesLongs 5 = .ok (.bipush 6, 2) := by decide +kernel
theorem dX8_copiesLongs_7 : decode cX8_copiesLongs 7 = .ok (.if_icmp .ge 21, 3) := by decide +kernel
theorem dX8_copiesLongs_10 : decode cX8_copiesLongs 10 = .ok (.aload_n 2, 1) := by decide +kernel
theorem dX8_copiesLongs_11 : decode cX8_copiesLongs 11 = .ok (.iload_n 3, 1) := by decide +kernel
theorem dX8_copiesLongs_12 : decode cX8_copiesLongs 12 = .ok (.iload 4, 2) := by decide +kernel
theorem dX8_copiesLongs_14 : decode cX8_copiesLongs 14 = .ok (.iadd, 1) := by decide +kernel
theorem dX8_copiesLongs_15 : decode cX8_copiesLongs 15 = .ok (.aload_n 0, 1) := by decide +kernel
theorem dX8_copiesLongs_16 : decode cX8_copiesLongs 16 = .ok (.iload_n 1, 1) := by decide +kernel
theorem dX8_copiesLongs_17 : decode cX8_copiesLongs 17 = .ok (.iload 4, 2) := by decide +kernel
theorem dX8_copiesLongs_19 : decode cX8_copiesLongs 19 = .ok (.iadd, 1) := by decide +kernel
theorem dX8_copiesLongs_20 : decode cX8_copiesLongs 20 = .ok (.laload, 1) := by decide +kernel
theorem dX8_copiesLongs_21 : decode cX8_copiesLongs 21 = .ok (.lastore, 1) := by decide +kernel
theorem dX8_copiesLongs_22 : decode cX8_copiesLongs 22 = .ok (.iinc 4 1, 3) := by decide +kernel
theorem dX8_copiesLongs_25 : decode cX8_copiesLongs 25 = .ok (.goto (-22), 3) := by decide +kernel
theorem dX8_copiesLongs_28 : decode cX8_copiesLongs 28 = .ok (.return_, 1) := by decide +kernel
theorem dX8_laysAside_0 : decode cX8_laysAside 0 = .ok (.aload_n 0, 1) := by decide +kernel
theorem dX8_laysAside_1 : decode cX8_laysAside 1 = .ok (.getfield 13, 3) := by decide +kernel
theorem dX8_laysAside_4 : decode cX8_laysAside 4 = .ok (.iconst 0, 1) := by decide +kernel
theorem dX8_laysAside_5 : decode cX8_laysAside 5 = .ok (.aload_n 0, 1) := by decide +kernel
theorem dX8_laysAside_6 : decode cX8_laysAside 6 = .ok (.getfield 20, 3) := by decide +kernel
theorem dX8_laysAside_9 : decode cX8_laysAside 9 = .ok (.iconst 0, 1) := by decide +kernel
theorem dX8_laysAside_10 : decode cX8_laysAside 10 = .ok (.invokestatic 66, 3) := by decide +kernel
theorem dX8_laysAside_13 : decode cX8_laysAside 13 = .ok (.aload_n 0, 1) := by decide +kernel
theorem dX8_laysAside_14 : decode cX8_laysAside 14 = .ok (.getfield 26, 3) := by decide +kernel
theorem dX8_laysAside_17 : decode cX8_laysAside 17 = .ok (.iconst 0, 1) := by decide +kernel
theorem dX8_laysAside_18 : decode cX8_laysAside 18 = .ok (.aload_n 0, 1) := by decide +kernel
theorem dX8_laysAside_19 : decode cX8_laysAside 19 = .ok (.getfield 33, 3) := by decide +kernel
theorem dX8_laysAside_22 : decode cX8_laysAside 22 = .ok (.iconst 0, 1) := by decide +kernel
theorem dX8_laysAside_23 : decode cX8_laysAside 23 = .ok (.invokestatic 70, 3) := by decide +kernel
theorem dX8_laysAside_26 : decode cX8_laysAside 26 = .ok (.return_, 1) := by decide +kernel
theorem dX8_laysBack_0 : decode cX8_laysBack 0 = .ok (.aload_n 0, 1) := by decide +kernel
theorem dX8_laysBack_1 : decode cX8_laysBack 1 = .ok (.getfield 20, 3) := by decide +kernel
theorem dX8_laysBack_4 : decode cX8_laysBack 4 = .ok (.iconst 0, 1) := by decide +kernel
theorem dX8_laysBack_5 : decode cX8_laysBack 5 = .ok (.aload_n 0, 1) := by decide +kernel
theorem dX8_laysBack_6 : decode cX8_laysBack 6 = .ok (.getfield 13, 3) := by decide +kernel
theorem dX8_laysBack_9 : decode cX8_laysBack 9 = .ok (.iconst 0, 1) := by decide +kernel
theorem dX8_laysBack_10 : decode cX8_laysBack 10 = .ok (.invokestatic 66, 3) := by decide +kernel
theorem dX8_laysBack_13 : decode cX8_laysBack 13 = .ok (.aload_n 0, 1) := by decide +kernel
theorem dX8_laysBack_14 : decode cX8_laysBack 14 = .ok (.getfield 33, 3) := by decide +kernel
theorem dX8_laysBack_17 : decode cX8_laysBack 17 = .ok (.iconst 0, 1) := by decide +kernel
theorem dX8_laysBack_18 : decode cX8_laysBack 18 = .ok (.aload_n 0, 1) := by decide +kernel
theorem dX8_laysBack_19 : decode cX8_laysBack 19 = .ok (.getfield 26, 3) := by decide +kernel
theorem dX8_laysBack_22 : decode cX8_laysBack 22 = .ok (.iconst 0, 1) := by decide +kernel
theorem dX8_laysBack_23 : decode cX8_laysBack 23 = .ok (.invokestatic 70, 3) := by decide +kernel
theorem dX8_laysBack_26 : decode cX8_laysBack 26 = .ok (.return_, 1) := by decide +kernel
theorem dX8_lays_0 : decode cX8_lays 0 = .ok (.bipush 24, 2) := by decide +kernel
theorem dX8_lays_2 : decode cX8_lays 2 = .ok (.istore_n 2, 1) := by decide +kernel
theorem dX8_lays_3 : decode cX8_lays 3 = .ok (.iload_n 2, 1) := by decide +kernel
theorem dX8_lays_4 : decode cX8_lays 4 = .ok (.ifCond .lt 35, 3) := by decide +kernel
theorem dX8_lays_7 : decode cX8_lays 7 = .ok (.aload_n 0, 1) := by decide +kernel
theorem dX8_lays_8 : decode cX8_lays 8 = .ok (.getfield 39, 3) := by decide +kernel
theorem dX8_lays_11 : decode cX8_lays 11 = .ok (.aload_n 0, 1) := by decide +kernel
theorem dX8_lays_12 : decode cX8_lays 12 = .ok (.getfield 74, 3) := by decide +kernel
theorem dX8_lays_15 : decode cX8_lays 15 = .ok (.iload_n 1, 1) := by decide +kernel
theorem dX8_lays_16 : decode cX8_lays 16 = .ok (.iload_n 2, 1) := by decide +kernel
theorem dX8_lays_17 : decode cX8_lays 17 = .ok (.ishr, 1) := by decide +kernel
theorem dX8_lays_18 : decode cX8_lays 18 = .ok (.sipush 255, 3) := by decide +kernel
theorem dX8_lays_21 : decode cX8_lays 21 = .ok (.iand, 1) := by decide +kernel
theorem dX8_lays_22 : decode cX8_lays 22 = .ok (.iastore, 1) := by decide +kernel
theorem dX8_lays_23 : decode cX8_lays 23 = .ok (.aload_n 0, 1) := by decide +kernel
theorem dX8_lays_24 : decode cX8_lays 24 = .ok (.dup, 1) := by decide +kernel
theorem dX8_lays_25 : decode cX8_lays 25 = .ok (.getfield 74, 3) := by decide +kernel
theorem dX8_lays_28 : decode cX8_lays 28 = .ok (.iconst 1, 1) := by decide +kernel
theorem dX8_lays_29 : decode cX8_lays 29 = .ok (.iadd, 1) := by decide +kernel
theorem dX8_lays_30 : decode cX8_lays 30 = .ok (.putfield 74, 3) := by decide +kernel
theorem dX8_lays_33 : decode cX8_lays 33 = .ok (.iinc 2 (-8), 3) := by decide +kernel
theorem dX8_lays_36 : decode cX8_lays 36 = .ok (.goto (-33), 3) := by decide +kernel
theorem dX8_lays_39 : decode cX8_lays 39 = .ok (.return_, 1) := by decide +kernel
theorem dX8_feed_0 : decode cX8_feed 0 = .ok (.aload_n 0, 1) := by decide +kernel
theorem dX8_feed_1 : decode cX8_feed 1 = .ok (.iconst 0, 1) := by decide +kernel
theorem dX8_feed_2 : decode cX8_feed 2 = .ok (.putfield 1, 3) := by decide +kernel
theorem dX8_feed_5 : decode cX8_feed 5 = .ok (.aload_n 0, 1) := by decide +kernel
theorem dX8_feed_6 : decode cX8_feed 6 = .ok (.getfield 74, 3) := by decide +kernel
theorem dX8_feed_9 : decode cX8_feed 9 = .ok (.bipush 20, 2) := by decide +kernel
theorem dX8_feed_11 : decode cX8_feed 11 = .ok (.iadd, 1) := by decide +kernel
theorem dX8_feed_12 : decode cX8_feed 12 = .ok (.sipush 600, 3) := by decide +kernel
theorem dX8_feed_15 : decode cX8_feed 15 = .ok (.if_icmp .le 5, 3) := by decide +kernel
theorem dX8_feed_18 : decode cX8_feed 18 = .ok (.iconst (-1), 1) := by decide +kernel
theorem dX8_feed_19 : decode cX8_feed 19 = .ok (.ireturn, 1) := by decide +kernel
theorem dX8_feed_20 : decode cX8_feed 20 = .ok (.aload_n 0, 1) := by decide +kernel
theorem dX8_feed_21 : decode cX8_feed 21 = .ok (.iload_n 1, 1) := by decide +kernel
theorem dX8_feed_22 : decode cX8_feed 22 = .ok (.invokevirtual 77, 3) := by decide +kernel
theorem dX8_feed_25 : decode cX8_feed 25 = .ok (.aload_n 0, 1) := by decide +kernel
theorem dX8_feed_26 : decode cX8_feed 26 = .ok (.iload_n 2, 1) := by decide +kernel
theorem dX8_feed_27 : decode cX8_feed 27 = .ok (.invokevirtual 77, 3) := by decide +kernel
theorem dX8_feed_30 : decode cX8_feed 30 = .ok (.aload_n 0, 1) := by decide +kernel
theorem dX8_feed_31 : decode cX8_feed 31 = .ok (.iload_n 3, 1) := by decide +kernel
theorem dX8_feed_32 : decode cX8_feed 32 = .ok (.invokevirtual 77, 3) := by decide +kernel
theorem dX8_feed_35 : decode cX8_feed 35 = .ok (.aload_n 0, 1) := by decide +kernel
theorem dX8_feed_36 : decode cX8_feed 36 = .ok (.iload 4, 2) := by decide +kernel
theorem dX8_feed_38 : decode cX8_feed 38 = .ok (.invokevirtual 77, 3) := by decide +kernel
theorem dX8_feed_41 : decode cX8_feed 41 = .ok (.aload_n 0, 1) := by decide +kernel
theorem dX8_feed_42 : decode cX8_feed 42 = .ok (.iload 5, 2) := by decide +kernel
theorem dX8_feed_44 : decode cX8_feed 44 = .ok (.invokevirtual 77, 3) := by decide +kernel
theorem dX8_feed_47 : decode cX8_feed 47 = .ok (.aload_n 0, 1) := by decide +kernel
theorem dX8_feed_48 : decode cX8_feed 48 = .ok (.getfield 74, 3) := by decide +kernel
theorem dX8_feed_51 : decode cX8_feed 51 = .ok (.ireturn, 1) := by decide +kernel
theorem dX8_errorPosition_0 : decode cX8_errorPosition 0 = .ok (.aload_n 0, 1) := by decide +kernel
theorem dX8_errorPosition_1 : decode cX8_errorPosition 1 = .ok (.iconst 0, 1) := by decide +kernel
theorem dX8_errorPosition_2 : decode cX8_errorPosition 2 = .ok (.putfield 1, 3) := by decide +kernel
theorem dX8_errorPosition_5 : decode cX8_errorPosition 5 = .ok (.aload_n 0, 1) := by decide +kernel
theorem dX8_errorPosition_6 : decode cX8_errorPosition 6 = .ok (.getfield 42, 3) := by decide +kernel
theorem dX8_errorPosition_9 : decode cX8_errorPosition 9 = .ok (.ireturn, 1) := by decide +kernel
theorem dX8_byteAt_0 : decode cX8_byteAt 0 = .ok (.iload_n 1, 1) := by decide +kernel
theorem dX8_byteAt_1 : decode cX8_byteAt 1 = .ok (.aload_n 0, 1) := by decide +kernel
theorem dX8_byteAt_2 : decode cX8_byteAt 2 = .ok (.getfield 81, 3) := by decide +kernel
theorem dX8_byteAt_5 : decode cX8_byteAt 5 = .ok (.if_icmp .ge 12, 3) := by decide +kernel
theorem dX8_byteAt_8 : decode cX8_byteAt 8 = .ok (.aload_n 0, 1) := by decide +kernel
theorem dX8_byteAt_9 : decode cX8_byteAt 9 = .ok (.getfield 39, 3) := by decide +kernel
theorem dX8_byteAt_12 : decode cX8_byteAt 12 = .ok (.iload_n 1, 1) := by decide +kernel
theorem dX8_byteAt_13 : decode cX8_byteAt 13 = .ok (.iaload, 1) := by decide +kernel
theorem dX8_byteAt_14 : decode cX8_byteAt 14 = .ok (.goto 4, 3) := by decide +kernel
theorem dX8_byteAt_17 : decode cX8_byteAt 17 = .ok (.iconst (-1), 1) := by decide +kernel
theorem dX8_byteAt_18 : decode cX8_byteAt 18 = .ok (.ireturn, 1) := by decide +kernel
theorem dX8_isLetter_0 : decode cX8_isLetter 0 = .ok (.iload_n 0, 1) := by decide +kernel
theorem dX8_isLetter_1 : decode cX8_isLetter 1 = .ok (.bipush 97, 2) := by decide +kernel
theorem dX8_isLetter_3 : decode cX8_isLetter 3 = .ok (.if_icmp .lt 13, 3) := by decide +kernel
theorem dX8_isLetter_6 : decode cX8_isLetter 6 = .ok (.iload_n 0, 1) := by decide +kernel
theorem dX8_isLetter_7 : decode cX8_isLetter 7 = .ok (.bipush 122, 2) := by decide +kernel
theorem dX8_isLetter_9 : decode cX8_isLetter 9 = .ok (.if_icmp .gt 7, 3) := by decide +kernel
theorem dX8_isLetter_12 : decode cX8_isLetter 12 = .ok (.iconst 1, 1) := by decide +kernel
theorem dX8_isLetter_13 : decode cX8_isLetter 13 = .ok (.goto 4, 3) := by decide +kernel
theorem dX8_isLetter_16 : decode cX8_isLetter 16 = .ok (.iconst 0, 1) := by decide +kernel
theorem dX8_isLetter_17 : decode cX8_isLetter 17 = .ok (.ireturn, 1) := by decide +kernel
theorem dX8_isFigure_0 : decode cX8_isFigure 0 = .ok (.iload_n 0, 1) := by decide +kernel
theorem dX8_isFigure_1 : decode cX8_isFigure 1 = .ok (.bipush 48, 2) := by decide +kernel
theorem dX8_isFigure_3 : decode cX8_isFigure 3 = .ok (.if_icmp .lt 13, 3) := by decide +kernel
theorem dX8_isFigure_6 : decode cX8_isFigure 6 = .ok (.iload_n 0, 1) := by decide +kernel
theorem dX8_isFigure_7 : decode cX8_isFigure 7 = .ok (.bipush 57, 2) := by decide +kernel
theorem dX8_isFigure_9 : decode cX8_isFigure 9 = .ok (.if_icmp .gt 7, 3) := by decide +kernel
theorem dX8_isFigure_12 : decode cX8_isFigure 12 = .ok (.iconst 1, 1) := by decide +kernel
theorem dX8_isFigure_13 : decode cX8_isFigure 13 = .ok (.goto 4, 3) := by decide +kernel
theorem dX8_isFigure_16 : decode cX8_isFigure 16 = .ok (.iconst 0, 1) := by decide +kernel
theorem dX8_isFigure_17 : decode cX8_isFigure 17 = .ok (.ireturn, 1) := by decide +kernel
theorem dX8_readsWord_0 : decode cX8_readsWord 0 = .ok (.aload_n 0, 1) := by decide +kernel
theorem dX8_readsWord_1 : decode cX8_readsWord 1 = .ok (.lconst 0, 1) := by decide +kernel
theorem dX8_readsWord_2 : decode cX8_readsWord 2 = .ok (.putfield 84, 3) := by decide +kernel
theorem dX8_readsWord_5 : decode cX8_readsWord 5 = .ok (.aload_n 0, 1) := by decide +kernel
theorem dX8_readsWord_6 : decode cX8_readsWord 6 = .ok (.aload_n 0, 1) := by decide +kernel
theorem dX8_readsWord_7 : decode cX8_readsWord 7 = .ok (.getfield 88, 3) := by decide +kernel
theorem dX8_readsWord_10 : decode cX8_readsWord 10 = .ok (.invokevirtual 91, 3) := by decide +kernel
theorem dX8_readsWord_13 : decode cX8_readsWord 13 = .ok (.invokestatic 95, 3) := by decide +kernel
theorem dX8_readsWord_16 : decode cX8_readsWord 16 = .ok (.ifCond .eq 57, 3) := by decide +kernel
theorem dX8_readsWord_19 : decode cX8_readsWord 19 = .ok (.aload_n 0, 1) := by decide +kernel
theorem dX8_readsWord_20 : decode cX8_readsWord 20 = .ok (.getfield 88, 3) := by decide +kernel
theorem dX8_readsWord_23 : decode cX8_readsWord 23 = .ok (.aload_n 0, 1) := by decide +kernel
theorem dX8_readsWord_24 : decode cX8_readsWord 24 = .ok (.getfield 99, 3) := by decide +kernel
theorem dX8_readsWord_27 : decode cX8_readsWord 27 = .ok (.isub, 1) := by decide +kernel
theorem dX8_readsWord_28 : decode cX8_readsWord 28 = .ok (.bipush 10, 2) := by decide +kernel
theorem dX8_readsWord_30 : decode cX8_readsWord 30 = .ok (.if_icmp .ge 30, 3) := by decide +kernel
theorem dX8_readsWord_33 : decode cX8_readsWord 33 = .ok (.aload_n 0, 1) := by decide +kernel
theorem dX8_readsWord_34 : decode cX8_readsWord 34 = .ok (.ldc2_w 102, 3) := by decide +kernel
theorem dX8_readsWord_37 : decode cX8_readsWord 37 = .ok (.aload_n 0, 1) := by decide +kernel
theorem dX8_readsWord_38 : decode cX8_readsWord 38 = .ok (.getfield 84, 3) := by decide +kernel
theorem dX8_readsWord_41 : decode cX8_readsWord 41 = .ok (.lmul, 1) := by decide +kernel
theorem dX8_readsWord_42 : decode cX8_readsWord 42 = .ok (.aload_n 0, 1) := by decide +kernel
theorem dX8_readsWord_43 : decode cX8_readsWord 43 = .ok (.getfield 39, 3) := by decide +kernel
theorem dX8_readsWord_46 : decode cX8_readsWord 46 = .ok (.aload_n 0, 1) := by decide +kernel
theorem dX8_readsWord_47 : decode cX8_readsWord 47 = .ok (.getfield 88, 3) := by decide +kernel
theorem dX8_readsWord_50 : decode cX8_readsWord 50 = .ok (.iaload, 1) := by decide +kernel
theorem dX8_readsWord_51 : decode cX8_readsWord 51 = .ok (.i2l, 1) := by decide +kernel
theorem dX8_readsWord_52 : decode cX8_readsWord 52 = .ok (.ladd, 1) := by decide +kernel
theorem dX8_readsWord_53 : decode cX8_readsWord 53 = .ok (.ldc2_w 104, 3) := by decide +kernel
theorem dX8_readsWord_56 : decode cX8_readsWord 56 = .ok (.lsub, 1) := by decide +kernel
theorem dX8_readsWord_57 : decode cX8_readsWord 57 = .ok (.putfield 84, 3) := by decide +kernel
theorem dX8_readsWord_60 : decode cX8_readsWord 60 = .ok (.aload_n 0, 1) := by decide +kernel
theorem dX8_readsWord_61 : decode cX8_readsWord 61 = .ok (.dup, 1) := by decide +kernel
theorem dX8_readsWord_62 : decode cX8_readsWord 62 = .ok (.getfield 88, 3) := by decide +kernel
theorem dX8_readsWord_65 : decode cX8_readsWord 65 = .ok (.iconst 1, 1) := by decide +kernel
theorem dX8_readsWord_66 : decode cX8_readsWord 66 = .ok (.iadd, 1) := by decide +kernel
theorem dX8_readsWord_67 : decode cX8_readsWord 67 = .ok (.putfield 88, 3) := by decide +kernel
theorem dX8_readsWord_70 : decode cX8_readsWord 70 = .ok (.goto (-65), 3) := by decide +kernel
theorem dX8_readsWord_73 : decode cX8_readsWord 73 = .ok (.aload_n 0, 1) := by decide +kernel
theorem dX8_readsWord_74 : decode cX8_readsWord 74 = .ok (.iconst 1, 1) := by decide +kernel
theorem dX8_readsWord_75 : decode cX8_readsWord 75 = .ok (.putfield 106, 3) := by decide +kernel
theorem dX8_readsWord_78 : decode cX8_readsWord 78 = .ok (.return_, 1) := by decide +kernel
theorem dX8_readsNumber_0 : decode cX8_readsNumber 0 = .ok (.aload_n 0, 1) := by decide +kernel
theorem dX8_readsNumber_1 : decode cX8_readsNumber 1 = .ok (.iconst 0, 1) := by decide +kernel
theorem dX8_readsNumber_2 : decode cX8_readsNumber 2 = .ok (.putfield 109, 3) := by decide +kernel
theorem dX8_readsNumber_5 : decode cX8_readsNumber 5 = .ok (.aload_n 0, 1) := by decide +kernel
theorem dX8_readsNumber_6 : decode cX8_readsNumber 6 = .ok (.aload_n 0, 1) := by decide +kernel
theorem dX8_readsNumber_7 : decode cX8_readsNumber 7 = .ok (.getfield 88, 3) := by decide +kernel
theorem dX8_readsNumber_10 : decode cX8_readsNumber 10 = .ok (.invokevirtual 91, 3) := by decide +kernel
theorem dX8_readsNumber_13 : decode cX8_readsNumber 13 = .ok (.invokestatic 112, 3) := by decide +kernel
theorem dX8_readsNumber_16 : decode cX8_readsNumber 16 = .ok (.ifCond .eq 56, 3) := by decide +kernel
theorem dX8_readsNumber_19 : decode cX8_readsNumber 19 = .ok (.aload_n 0, 1) := by decide +kernel
theorem dX8_readsNumber_20 : decode cX8_readsNumber 20 = .ok (.aload_n 0, 1) := by decide +kernel
theorem dX8_readsNumber_21 : decode cX8_readsNumber 21 = .ok (.getfield 109, 3) := by decide +kernel
theorem dX8_readsNumber_24 : decode cX8_readsNumber 24 = .ok (.ldc 115, 2) := by decide +kernel
theorem dX8_readsNumber_26 : decode cX8_readsNumber 26 = .ok (.if_icmp .le 10, 3) := by decide +kernel
theorem dX8_readsNumber_29 : decode cX8_readsNumber 29 = .ok (.aload_n 0, 1) := by decide +kernel
theorem dX8_readsNumber_30 : decode cX8_readsNumber 30 = .ok (.getfield 109, 3) := by decide +kernel
theorem dX8_readsNumber_33 : decode cX8_readsNumber 33 = .ok (.goto 23, 3) := by decide +kernel
theorem dX8_readsNumber_36 : decode cX8_readsNumber 36 = .ok (.bipush 10, 2) := by decide +kernel
theorem dX8_readsNumber_38 : decode cX8_readsNumber 38 = .ok (.aload_n 0, 1) := by decide +kernel
theorem dX8_readsNumber_39 : decode cX8_readsNumber 39 = .ok (.getfield 109, 3) := by decide +kernel
theorem dX8_readsNumber_42 : decode cX8_readsNumber 42 = .ok (.imul, 1) := by decide +kernel
theorem dX8_readsNumber_43 : decode cX8_readsNumber 43 = .ok (.aload_n 0, 1) := by decide +kernel
theorem dX8_readsNumber_44 : decode cX8_readsNumber 44 = .ok (.getfield 39, 3) := by decide +kernel
theorem dX8_readsNumber_47 : decode cX8_readsNumber 47 = .ok (.aload_n 0, 1) := by decide +kernel
theorem dX8_readsNumber_48 : decode cX8_readsNumber 48 = .ok (.getfield 88, 3) := by decide +kernel
theorem dX8_readsNumber_51 : decode cX8_readsNumber 51 = .ok (.iaload, 1) := by decide +kernel
theorem dX8_readsNumber_52 : decode cX8_readsNumber 52 = .ok (.iadd, 1) := by decide +kernel
theorem dX8_readsNumber_53 : decode cX8_readsNumber 53 = .ok (.bipush 48, 2) := by decide +kernel
theorem dX8_readsNumber_55 : decode cX8_readsNumber 55 = .ok (.isub, 1) := by decide +kernel
theorem dX8_readsNumber_56 : decode cX8_readsNumber 56 = .ok (.putfield 109, 3) := by decide +kernel
theorem dX8_readsNumber_59 : decode cX8_readsNumber 59 = .ok (.aload_n 0, 1) := by decide +kernel
theorem dX8_readsNumber_60 : decode cX8_readsNumber 60 = .ok (.dup, 1) := by decide +kernel
theorem dX8_readsNumber_61 : decode cX8_readsNumber 61 = .ok (.getfield 88, 3) := by decide +kernel
theorem dX8_readsNumber_64 : decode cX8_readsNumber 64 = .ok (.iconst 1, 1) := by decide +kernel
theorem dX8_readsNumber_65 : decode cX8_readsNumber 65 = .ok (.iadd, 1) := by decide +kernel
theorem dX8_readsNumber_66 : decode cX8_readsNumber 66 = .ok (.putfield 88, 3) := by decide +kernel
theorem dX8_readsNumber_69 : decode cX8_readsNumber 69 = .ok (.goto (-64), 3) := by decide +kernel
theorem dX8_readsNumber_72 : decode cX8_readsNumber 72 = .ok (.aload_n 0, 1) := by decide +kernel
theorem dX8_readsNumber_73 : decode cX8_readsNumber 73 = .ok (.iconst 2, 1) := by decide +kernel
theorem dX8_readsNumber_74 : decode cX8_readsNumber 74 = .ok (.putfield 106, 3) := by decide +kernel
theorem dX8_readsNumber_77 : decode cX8_readsNumber 77 = .ok (.return_, 1) := by decide +kernel
theorem dX8_next_0 : decode cX8_next 0 = .ok (.aload_n 0, 1) := by decide +kernel
theorem dX8_next_1 : decode cX8_next 1 = .ok (.aload_n 0, 1) := by decide +kernel
theorem dX8_next_2 : decode cX8_next 2 = .ok (.getfield 88, 3) := by decide +kernel
theorem dX8_next_5 : decode cX8_next 5 = .ok (.invokevirtual 91, 3) := by decide +kernel
theorem dX8_next_8 : decode cX8_next 8 = .ok (.bipush 32, 2) := by decide +kernel
theorem dX8_next_10 : decode cX8_next 10 = .ok (.if_icmp .eq 16, 3) := by decide +kernel
theorem dX8_next_13 : decode cX8_next 13 = .ok (.aload_n 0, 1) := by decide +kernel
theorem dX8_next_14 : decode cX8_next 14 = .ok (.aload_n 0, 1) := by decide +kernel
theorem dX8_next_15 : decode cX8_next 15 = .ok (.getfield 88, 3) := by decide +kernel
theorem dX8_next_18 : decode cX8_next 18 = .ok (.invokevirtual 91, 3) := by decide +kernel
theorem dX8_next_21 : decode cX8_next 21 = .ok (.bipush 10, 2) := by decide +kernel
theorem dX8_next_23 : decode cX8_next 23 = .ok (.if_icmp .ne 16, 3) := by decide +kernel
theorem dX8_next_26 : decode cX8_next 26 = .ok (.aload_n 0, 1) := by decide +kernel
theorem dX8_next_27 : decode cX8_next 27 = .ok (.dup, 1) := by decide +kernel
theorem dX8_next_28 : decode cX8_next 28 = .ok (.getfield 88, 3) := by decide +kernel
theorem dX8_next_31 : decode cX8_next 31 = .ok (.iconst 1, 1) := by decide +kernel
theorem dX8_next_32 : decode cX8_next 32 = .ok (.iadd, 1) := by decide +kernel
theorem dX8_next_33 : decode cX8_next 33 = .ok (.putfield 88, 3) := by decide +kernel
theorem dX8_next_36 : decode cX8_next 36 = .ok (.goto (-36), 3) := by decide +kernel
theorem dX8_next_39 : decode cX8_next 39 = .ok (.aload_n 0, 1) := by decide +kernel
theorem dX8_next_40 : decode cX8_next 40 = .ok (.aload_n 0, 1) := by decide +kernel
theorem dX8_next_41 : decode cX8_next 41 = .ok (.getfield 88, 3) := by decide +kernel
theorem dX8_next_44 : decode cX8_next 44 = .ok (.putfield 99, 3) := by decide +kernel
theorem dX8_next_47 : decode cX8_next 47 = .ok (.aload_n 0, 1) := by decide +kernel
theorem dX8_next_48 : decode cX8_next 48 = .ok (.getfield 88, 3) := by decide +kernel
theorem dX8_next_51 : decode cX8_next 51 = .ok (.aload_n 0, 1) := by decide +kernel
theorem dX8_next_52 : decode cX8_next 52 = .ok (.getfield 81, 3) := by decide +kernel
theorem dX8_next_55 : decode cX8_next 55 = .ok (.if_icmp .lt 11, 3) := by decide +kernel
theorem dX8_next_58 : decode cX8_next 58 = .ok (.aload_n 0, 1) := by decide +kernel
theorem dX8_next_59 : decode cX8_next 59 = .ok (.iconst 0, 1) := by decide +kernel
theorem dX8_next_60 : decode cX8_next 60 = .ok (.putfield 106, 3) := by decide +kernel
theorem dX8_next_63 : decode cX8_next 63 = .ok (.goto 62, 3) := by decide +kernel
theorem dX8_next_66 : decode cX8_next 66 = .ok (.aload_n 0, 1) := by decide +kernel
theorem dX8_next_67 : decode cX8_next 67 = .ok (.getfield 39, 3) := by decide +kernel
theorem dX8_next_70 : decode cX8_next 70 = .ok (.aload_n 0, 1) := by decide +kernel
theorem dX8_next_71 : decode cX8_next 71 = .ok (.getfield 88, 3) := by decide +kernel
theorem dX8_next_74 : decode cX8_next 74 = .ok (.iaload, 1) := by decide +kernel
theorem dX8_next_75 : decode cX8_next 75 = .ok (.invokestatic 95, 3) := by decide +kernel
theorem dX8_next_78 : decode cX8_next 78 = .ok (.ifCond .eq 10, 3) := by decide +kernel
theorem dX8_next_81 : decode cX8_next 81 = .ok (.aload_n 0, 1) := by decide +kernel
theorem dX8_next_82 : decode cX8_next 82 = .ok (.invokevirtual 116, 3) := by decide +kernel
theorem dX8_next_85 : decode cX8_next 85 = .ok (.goto 40, 3) := by decide +kernel
theorem dX8_next_88 : decode cX8_next 88 = .ok (.aload_n 0, 1) := by decide +kernel
theorem dX8_next_89 : decode cX8_next 89 = .ok (.getfield 39, 3) := by decide +kernel
theorem dX8_next_92 : decode cX8_next 92 = .ok (.aload_n 0, 1) := by decide +kernel
theorem dX8_next_93 : decode cX8_next 93 = .ok (.getfield 88, 3) := by decide +kernel
theorem dX8_next_96 : decode cX8_next 96 = .ok (.iaload, 1) := by decide +kernel
theorem dX8_next_97 : decode cX8_next 97 = .ok (.invokestatic 112, 3) := by decide +kernel
theorem dX8_next_100 : decode cX8_next 100 = .ok (.ifCond .eq 10, 3) := by decide +kernel
theorem dX8_next_103 : decode cX8_next 103 = .ok (.aload_n 0, 1) := by decide +kernel
theorem dX8_next_104 : decode cX8_next 104 = .ok (.invokevirtual 119, 3) := by decide +kernel
theorem dX8_next_107 : decode cX8_next 107 = .ok (.goto 18, 3) := by decide +kernel
theorem dX8_next_110 : decode cX8_next 110 = .ok (.aload_n 0, 1) := by decide +kernel
theorem dX8_next_111 : decode cX8_next 111 = .ok (.iconst 3, 1) := by decide +kernel
theorem dX8_next_112 : decode cX8_next 112 = .ok (.putfield 106, 3) := by decide +kernel
theorem dX8_next_115 : decode cX8_next 115 = .ok (.aload_n 0, 1) := by decide +kernel
theorem dX8_next_116 : decode cX8_next 116 = .ok (.dup, 1) := by decide +kernel
theorem dX8_next_117 : decode cX8_next 117 = .ok (.getfield 88, 3) := by decide +kernel
theorem dX8_next_120 : decode cX8_next 120 = .ok (.iconst 1, 1) := by decide +kernel
theorem dX8_next_121 : decode cX8_next 121 = .ok (.iadd, 1) := by decide +kernel
theorem dX8_next_122 : decode cX8_next 122 = .ok (.putfield 88, 3) := by decide +kernel
theorem dX8_next_125 : decode cX8_next 125 = .ok (.return_, 1) := by decide +kernel
theorem dX8_starts_0 : decode cX8_starts 0 = .ok (.aload_n 0, 1) := by decide +kernel
theorem dX8_starts_1 : decode cX8_starts 1 = .ok (.iload_n 1, 1) := by decide +kernel
theorem dX8_starts_2 : decode cX8_starts 2 = .ok (.putfield 81, 3) := by decide +kernel
theorem dX8_starts_5 : decode cX8_starts 5 = .ok (.aload_n 0, 1) := by decide +kernel
theorem dX8_starts_6 : decode cX8_starts 6 = .ok (.iconst 0, 1) := by decide +kernel
theorem dX8_starts_7 : decode cX8_starts 7 = .ok (.putfield 74, 3) := by decide +kernel
theorem dX8_starts_10 : decode cX8_starts 10 = .ok (.aload_n 0, 1) := by decide +kernel
theorem dX8_starts_11 : decode cX8_starts 11 = .ok (.iconst 0, 1) := by decide +kernel
theorem dX8_starts_12 : decode cX8_starts 12 = .ok (.putfield 88, 3) := by decide +kernel
theorem dX8_starts_15 : decode cX8_starts 15 = .ok (.aload_n 0, 1) := by decide +kernel
theorem dX8_starts_16 : decode cX8_starts 16 = .ok (.iconst 0, 1) := by decide +kernel
theorem dX8_starts_17 : decode cX8_starts 17 = .ok (.putfield 122, 3) := by decide +kernel
theorem dX8_starts_20 : decode cX8_starts 20 = .ok (.aload_n 0, 1) := by decide +kernel
theorem dX8_starts_21 : decode cX8_starts 21 = .ok (.iconst (-1), 1) := by decide +kernel
theorem dX8_starts_22 : decode cX8_starts 22 = .ok (.putfield 42, 3) := by decide +kernel
theorem dX8_starts_25 : decode cX8_starts 25 = .ok (.aload_n 0, 1) := by decide +kernel
theorem dX8_starts_26 : decode cX8_starts 26 = .ok (.invokevirtual 125, 3) := by decide +kernel
theorem dX8_starts_29 : decode cX8_starts 29 = .ok (.return_, 1) := by decide +kernel
theorem dX8_wrongs_0 : decode cX8_wrongs 0 = .ok (.aload_n 0, 1) := by decide +kernel
theorem dX8_wrongs_1 : decode cX8_wrongs 1 = .ok (.getfield 122, 3) := by decide +kernel
theorem dX8_wrongs_4 : decode cX8_wrongs 4 = .ok (.ifCond .ne 16, 3) := by decide +kernel
theorem dX8_wrongs_7 : decode cX8_wrongs 7 = .ok (.aload_n 0, 1) := by decide +kernel
theorem dX8_wrongs_8 : decode cX8_wrongs 8 = .ok (.iload_n 1, 1) := by decide +kernel
theorem dX8_wrongs_9 : decode cX8_wrongs 9 = .ok (.putfield 122, 3) := by decide +kernel
theorem dX8_wrongs_12 : decode cX8_wrongs 12 = .ok (.aload_n 0, 1) := by decide +kernel
theorem dX8_wrongs_13 : decode cX8_wrongs 13 = .ok (.aload_n 0, 1) := by decide +kernel
theorem dX8_wrongs_14 : decode cX8_wrongs 14 = .ok (.getfield 99, 3) := by decide +kernel
theorem dX8_wrongs_17 : decode cX8_wrongs 17 = .ok (.putfield 42, 3) := by decide +kernel
theorem dX8_wrongs_20 : decode cX8_wrongs 20 = .ok (.iconst 0, 1) := by decide +kernel
theorem dX8_wrongs_21 : decode cX8_wrongs 21 = .ok (.ireturn, 1) := by decide +kernel
theorem dX8_isGood_0 : decode cX8_isGood 0 = .ok (.aload_n 0, 1) := by decide +kernel
theorem dX8_isGood_1 : decode cX8_isGood 1 = .ok (.getfield 122, 3) := by decide +kernel
theorem dX8_isGood_4 : decode cX8_isGood 4 = .ok (.ifCond .ne 7, 3) := by decide +kernel
theorem dX8_isGood_7 : decode cX8_isGood 7 = .ok (.iconst 1, 1) := by decide +kernel
theorem dX8_isGood_8 : decode cX8_isGood 8 = .ok (.goto 4, 3) := by decide +kernel
theorem dX8_isGood_11 : decode cX8_isGood 11 = .ok (.iconst 0, 1) := by decide +kernel
theorem dX8_isGood_12 : decode cX8_isGood 12 = .ok (.ireturn, 1) := by decide +kernel
theorem dX8_isWord_0 : decode cX8_isWord 0 = .ok (.aload_n 0, 1) := by decide +kernel
theorem dX8_isWord_1 : decode cX8_isWord 1 = .ok (.invokevirtual 128, 3) := by decide +kernel
theorem dX8_isWord_4 : decode cX8_isWord 4 = .ok (.ifCond .eq 38, 3) := by decide +kernel
theorem dX8_isWord_7 : decode cX8_isWord 7 = .ok (.aload_n 0, 1) := by decide +kernel
theorem dX8_isWord_8 : decode cX8_isWord 8 = .ok (.getfield 106, 3) := by decide +kernel
theorem dX8_isWord_11 : decode cX8_isWord 11 = .ok (.iconst 1, 1) := by decide +kernel
theorem dX8_isWord_12 : decode cX8_isWord 12 = .ok (.if_icmp .ne 30, 3) := by decide +kernel
theorem dX8_isWord_15 : decode cX8_isWord 15 = .ok (.aload_n 0, 1) := by decide +kernel
theorem dX8_isWord_16 : decode cX8_isWord 16 = .ok (.getfield 88, 3) := by decide +kernel
theorem dX8_isWord_19 : decode cX8_isWord 19 = .ok (.aload_n 0, 1) := by decide +kernel
theorem dX8_isWord_20 : decode cX8_isWord 20 = .ok (.getfield 99, 3) := by decide +kernel
theorem dX8_isWord_23 : decode cX8_isWord 23 = .ok (.isub, 1) := by decide +kernel
theorem dX8_isWord_24 : decode cX8_isWord 24 = .ok (.bipush 10, 2) := by decide +kernel
theorem dX8_isWord_26 : decode cX8_isWord 26 = .ok (.if_icmp .gt 16, 3) := by decide +kernel
theorem dX8_isWord_29 : decode cX8_isWord 29 = .ok (.aload_n 0, 1) := by decide +kernel
theorem dX8_isWord_30 : decode cX8_isWord 30 = .ok (.getfield 84, 3) := by decide +kernel
theorem dX8_isWord_33 : decode cX8_isWord 33 = .ok (.lload_n 1, 1) := by decide +kernel
theorem dX8_isWord_34 : decode cX8_isWord 34 = .ok (.lcmp, 1) := by decide +kernel
theorem dX8_isWord_35 : decode cX8_isWord 35 = .ok (.ifCond .ne 7, 3) := by decide +kernel
theorem dX8_isWord_38 : decode cX8_isWord 38 = .ok (.iconst 1, 1) := by decide +kernel
theorem dX8_isWord_39 : decode cX8_isWord 39 = .ok (.goto 4, 3) := by decide +kernel
theorem dX8_isWord_42 : decode cX8_isWord 42 = .ok (.iconst 0, 1) := by decide +kernel
theorem dX8_isWord_43 : decode cX8_isWord 43 = .ok (.ireturn, 1) := by decide +kernel
theorem dX8_passes_0 : decode cX8_passes 0 = .ok (.aload_n 0, 1) := by decide +kernel
theorem dX8_passes_1 : decode cX8_passes 1 = .ok (.lload_n 1, 1) := by decide +kernel
theorem dX8_passes_2 : decode cX8_passes 2 = .ok (.invokevirtual 132, 3) := by decide +kernel
theorem dX8_passes_5 : decode cX8_passes 5 = .ok (.ifCond .ne 5, 3) := by decide +kernel
theorem dX8_passes_8 : decode cX8_passes 8 = .ok (.iconst 0, 1) := by decide +kernel
theorem dX8_passes_9 : decode cX8_passes 9 = .ok (.ireturn, 1) := by decide +kernel
theorem dX8_passes_10 : decode cX8_passes 10 = .ok (.aload_n 0, 1) := by decide +kernel
theorem dX8_passes_11 : decode cX8_passes 11 = .ok (.invokevirtual 125, 3) := by decide +kernel
theorem dX8_passes_14 : decode cX8_passes 14 = .ok (.iconst 1, 1) := by decide +kernel
theorem dX8_passes_15 : decode cX8_passes 15 = .ok (.ireturn, 1) := by decide +kernel
theorem dX8_isByte_0 : decode cX8_isByte 0 = .ok (.aload_n 0, 1) := by decide +kernel
theorem dX8_isByte_1 : decode cX8_isByte 1 = .ok (.invokevirtual 128, 3) := by decide +kernel
theorem dX8_isByte_4 : decode cX8_isByte 4 = .ok (.ifCond .eq 28, 3) := by decide +kernel
theorem dX8_isByte_7 : decode cX8_isByte 7 = .ok (.aload_n 0, 1) := by decide +kernel
theorem dX8_isByte_8 : decode cX8_isByte 8 = .ok (.getfield 106, 3) := by decide +kernel
theorem dX8_isByte_11 : decode cX8_isByte 11 = .ok (.iconst 3, 1) := by decide +kernel
theorem dX8_isByte_12 : decode cX8_isByte 12 = .ok (.if_icmp .ne 20, 3) := by decide +kernel
theorem dX8_isByte_15 : decode cX8_isByte 15 = .ok (.aload_n 0, 1) := by decide +kernel
theorem dX8_isByte_16 : decode cX8_isByte 16 = .ok (.getfield 39, 3) := by decide +kernel
theorem dX8_isByte_19 : decode cX8_isByte 19 = .ok (.aload_n 0, 1) := by decide +kernel
theorem dX8_isByte_20 : decode cX8_isByte 20 = .ok (.getfield 99, 3) := by decide +kernel
theorem dX8_isByte_23 : decode cX8_isByte 23 = .ok (.iaload, 1) := by decide +kernel
theorem dX8_isByte_24 : decode cX8_isByte 24 = .ok (.iload_n 1, 1) := by decide +kernel
theorem dX8_isByte_25 : decode cX8_isByte 25 = .ok (.if_icmp .ne 7, 3) := by decide +kernel
theorem dX8_isByte_28 : decode cX8_isByte 28 = .ok (.iconst 1, 1) := by decide +kernel
theorem dX8_isByte_29 : decode cX8_isByte 29 = .ok (.goto 4, 3) := by decide +kernel
theorem dX8_isByte_32 : decode cX8_isByte 32 = .ok (.iconst 0, 1) := by decide +kernel
theorem dX8_isByte_33 : decode cX8_isByte 33 = .ok (.ireturn, 1) := by decide +kernel
theorem dX8_must_0 : decode cX8_must 0 = .ok (.aload_n 0, 1) := by decide +kernel
theorem dX8_must_1 : decode cX8_must 1 = .ok (.invokevirtual 128, 3) := by decide +kernel
theorem dX8_must_4 : decode cX8_must 4 = .ok (.ifCond .ne 4, 3) := by decide +kernel
theorem dX8_must_7 : decode cX8_must 7 = .ok (.return_, 1) := by decide +kernel
theorem dX8_must_8 : decode cX8_must 8 = .ok (.aload_n 0, 1) := by decide +kernel
theorem dX8_must_9 : decode cX8_must 9 = .ok (.iload_n 1, 1) := by decide +kernel
theorem dX8_must_10 : decode cX8_must 10 = .ok (.invokevirtual 136, 3) := by decide +kernel
theorem dX8_must_13 : decode cX8_must 13 = .ok (.ifCond .eq 10, 3) := by decide +kernel
theorem dX8_must_16 : decode cX8_must 16 = .ok (.aload_n 0, 1) := by decide +kernel
theorem dX8_must_17 : decode cX8_must 17 = .ok (.invokevirtual 125, 3) := by decide +kernel
theorem dX8_must_20 : decode cX8_must 20 = .ok (.goto 9, 3) := by decide +kernel
theorem dX8_must_23 : decode cX8_must 23 = .ok (.aload_n 0, 1) := by decide +kernel
theorem dX8_must_24 : decode cX8_must 24 = .ok (.iconst 1, 1) := by decide +kernel
theorem dX8_must_25 : decode cX8_must 25 = .ok (.invokevirtual 139, 3) := by decide +kernel
theorem dX8_must_28 : decode cX8_must 28 = .ok (.pop, 1) := by decide +kernel
theorem dX8_must_29 : decode cX8_must 29 = .ok (.return_, 1) := by decide +kernel
theorem dX8_number_0 : decode cX8_number 0 = .ok (.aload_n 0, 1) := by decide +kernel
theorem dX8_number_1 : decode cX8_number 1 = .ok (.invokevirtual 128, 3) := by decide +kernel
theorem dX8_number_4 : decode cX8_number 4 = .ok (.ifCond .ne 5, 3) := by decide +kernel
theorem dX8_number_7 : decode cX8_number 7 = .ok (.iload_n 1, 1) := by decide +kernel
theorem dX8_number_8 : decode cX8_number 8 = .ok (.ireturn, 1) := by decide +kernel
theorem dX8_number_9 : decode cX8_number 9 = .ok (.aload_n 0, 1) := by decide +kernel
theorem dX8_number_10 : decode cX8_number 10 = .ok (.getfield 106, 3) := by decide +kernel
theorem dX8_number_13 : decode cX8_number 13 = .ok (.iconst 2, 1) := by decide +kernel
theorem dX8_number_14 : decode cX8_number 14 = .ok (.if_icmp .eq 12, 3) := by decide +kernel
theorem dX8_number_17 : decode cX8_number 17 = .ok (.aload_n 0, 1) := by decide +kernel
theorem dX8_number_18 : decode cX8_number 18 = .ok (.iconst 1, 1) := by decide +kernel
theorem dX8_number_19 : decode cX8_number 19 = .ok (.invokevirtual 139, 3) := by decide +kernel
theorem dX8_number_22 : decode cX8_number 22 = .ok (.pop, 1) := by decide +kernel
theorem dX8_number_23 : decode cX8_number 23 = .ok (.goto 24, 3) := by decide +kernel
theorem dX8_number_26 : decode cX8_number 26 = .ok (.aload_n 0, 1) := by decide +kernel
theorem dX8_number_27 : decode cX8_number 27 = .ok (.getfield 109, 3) := by decide +kernel
theorem dX8_number_30 : decode cX8_number 30 = .ok (.i2l, 1) := by decide +kernel
theorem dX8_number_31 : decode cX8_number 31 = .ok (.iload_n 1, 1) := by decide +kernel
theorem dX8_number_32 : decode cX8_number 32 = .ok (.i2l, 1) := by decide +kernel
theorem dX8_number_33 : decode cX8_number 33 = .ok (.iload_n 2, 1) := by decide +kernel
theorem dX8_number_34 : decode cX8_number 34 = .ok (.i2l, 1) := by decide +kernel
theorem dX8_number_35 : decode cX8_number 35 = .ok (.invokestatic 142, 3) := by decide +kernel
theorem dX8_number_38 : decode cX8_number 38 = .ok (.ifCond .ne 9, 3) := by decide +kernel
theorem dX8_number_41 : decode cX8_number 41 = .ok (.aload_n 0, 1) := by decide +kernel
theorem dX8_number_42 : decode cX8_number 42 = .ok (.iconst 2, 1) := by decide +kernel
theorem dX8_number_43 : decode cX8_number 43 = .ok (.invokevirtual 139, 3) := by decide +kernel
theorem dX8_number_46 : decode cX8_number 46 = .ok (.pop, 1) := by decide +kernel
theorem dX8_number_47 : decode cX8_number 47 = .ok (.aload_n 0, 1) := by decide +kernel
theorem dX8_number_48 : decode cX8_number 48 = .ok (.invokevirtual 128, 3) := by decide +kernel
theorem dX8_number_51 : decode cX8_number 51 = .ok (.ifCond .ne 5, 3) := by decide +kernel
theorem dX8_number_54 : decode cX8_number 54 = .ok (.iload_n 1, 1) := by decide +kernel
theorem dX8_number_55 : decode cX8_number 55 = .ok (.ireturn, 1) := by decide +kernel
theorem dX8_number_56 : decode cX8_number 56 = .ok (.aload_n 0, 1) := by decide +kernel
theorem dX8_number_57 : decode cX8_number 57 = .ok (.getfield 109, 3) := by decide +kernel
theorem dX8_number_60 : decode cX8_number 60 = .ok (.istore_n 3, 1) := by decide +kernel
theorem dX8_number_61 : decode cX8_number 61 = .ok (.aload_n 0, 1) := by decide +kernel
theorem dX8_number_62 : decode cX8_number 62 = .ok (.invokevirtual 125, 3) := by decide +kernel
theorem dX8_number_65 : decode cX8_number 65 = .ok (.iload_n 3, 1) := by decide +kernel
theorem dX8_number_66 : decode cX8_number 66 = .ok (.ireturn, 1) := by decide +kernel
theorem dX8_signed_0 : decode cX8_signed 0 = .ok (.aload_n 0, 1) := by decide +kernel
theorem dX8_signed_1 : decode cX8_signed 1 = .ok (.bipush 45, 2) := by decide +kernel
theorem dX8_signed_3 : decode cX8_signed 3 = .ok (.invokevirtual 136, 3) := by decide +kernel
theorem dX8_signed_6 : decode cX8_signed 6 = .ok (.istore_n 1, 1) := by decide +kernel
theorem dX8_signed_7 : decode cX8_signed 7 = .ok (.iload_n 1, 1) := by decide +kernel
theorem dX8_signed_8 : decode cX8_signed 8 = .ok (.ifCond .eq 7, 3) := by decide +kernel
theorem dX8_signed_11 : decode cX8_signed 11 = .ok (.aload_n 0, 1) := by decide +kernel
theorem dX8_signed_12 : decode cX8_signed 12 = .ok (.invokevirtual 125, 3) := by decide +kernel
theorem dX8_signed_15 : decode cX8_signed 15 = .ok (.aload_n 0, 1) := by decide +kernel
theorem dX8_signed_16 : decode cX8_signed 16 = .ok (.iconst 0, 1) := by decide +kernel
theorem dX8_signed_17 : decode cX8_signed 17 = .ok (.sipush 9999, 3) := by decide +kernel
theorem dX8_signed_20 : decode cX8_signed 20 = .ok (.invokevirtual 146, 3) := by decide +kernel
theorem dX8_signed_23 : decode cX8_signed 23 = .ok (.istore_n 2, 1) := by decide +kernel
theorem dX8_signed_24 : decode cX8_signed 24 = .ok (.iload_n 1, 1) := by decide +kernel
theorem dX8_signed_25 : decode cX8_signed 25 = .ok (.ifCond .eq 8, 3) := by decide +kernel
theorem dX8_signed_28 : decode cX8_signed 28 = .ok (.iload_n 2, 1) := by decide +kernel
theorem dX8_signed_29 : decode cX8_signed 29 = .ok (.ineg, 1) := by decide +kernel
theorem dX8_signed_30 : decode cX8_signed 30 = .ok (.goto 4, 3) := by decide +kernel
theorem dX8_signed_33 : decode cX8_signed 33 = .ok (.iload_n 2, 1) := by decide +kernel
theorem dX8_signed_34 : decode cX8_signed 34 = .ok (.ireturn, 1) := by decide +kernel
theorem dX8_readsLeg_0 : decode cX8_readsLeg 0 = .ok (.aload_n 0, 1) := by decide +kernel
theorem dX8_readsLeg_1 : decode cX8_readsLeg 1 = .ok (.iconst 0, 1) := by decide +kernel
theorem dX8_readsLeg_2 : decode cX8_readsLeg 2 = .ok (.iconst 1, 1) := by decide +kernel
theorem dX8_readsLeg_3 : decode cX8_readsLeg 3 = .ok (.invokevirtual 146, 3) := by decide +kernel
theorem dX8_readsLeg_6 : decode cX8_readsLeg 6 = .ok (.istore_n 1, 1) := by decide +kernel
theorem dX8_readsLeg_7 : decode cX8_readsLeg 7 = .ok (.aload_n 0, 1) := by decide +kernel
theorem dX8_readsLeg_8 : decode cX8_readsLeg 8 = .ok (.bipush 100, 2) := by decide +kernel
theorem dX8_readsLeg_10 : decode cX8_readsLeg 10 = .ok (.sipush 20000, 3) := by decide +kernel
theorem dX8_readsLeg_13 : decode cX8_readsLeg 13 = .ok (.invokevirtual 146, 3) := by decide +kernel
theorem dX8_readsLeg_16 : decode cX8_readsLeg 16 = .ok (.istore_n 2, 1) := by decide +kernel
theorem dX8_readsLeg_17 : decode cX8_readsLeg 17 = .ok (.aload_n 0, 1) := by decide +kernel
theorem dX8_readsLeg_18 : decode cX8_readsLeg 18 = .ok (.bipush 100, 2) := by decide +kernel
theorem dX8_readsLeg_20 : decode cX8_readsLeg 20 = .ok (.ldc 150, 2) := by decide +kernel
theorem dX8_readsLeg_22 : decode cX8_readsLeg 22 = .ok (.invokevirtual 146, 3) := by decide +kernel
theorem dX8_readsLeg_25 : decode cX8_readsLeg 25 = .ok (.istore_n 3, 1) := by decide +kernel
theorem dX8_readsLeg_26 : decode cX8_readsLeg 26 = .ok (.aload_n 0, 1) := by decide +kernel
theorem dX8_readsLeg_27 : decode cX8_readsLeg 27 = .ok (.invokevirtual 151, 3) := by decide +kernel
theorem dX8_readsLeg_30 : decode cX8_readsLeg 30 = .ok (.istore 4, 2) := by decide +kernel
theorem dX8_readsLeg_32 : decode cX8_readsLeg 32 = .ok (.aload_n 0, 1) := by decide +kernel
theorem dX8_readsLeg_33 : decode cX8_readsLeg 33 = .ok (.invokevirtual 128, 3) := by decide +kernel
theorem dX8_readsLeg_36 : decode cX8_readsLeg 36 = .ok (.ifCond .eq 12, 3) := by decide +kernel
theorem dX8_readsLeg_39 : decode cX8_readsLeg 39 = .ok (.aload_n 0, 1) := by decide +kernel
theorem dX8_readsLeg_40 : decode cX8_readsLeg 40 = .ok (.iload_n 1, 1) := by decide +kernel
theorem dX8_readsLeg_41 : decode cX8_readsLeg 41 = .ok (.iload_n 2, 1) := by decide +kernel
theorem dX8_readsLeg_42 : decode cX8_readsLeg 42 = .ok (.iload_n 3, 1) := by decide +kernel
theorem dX8_readsLeg_43 : decode cX8_readsLeg 43 = .ok (.iload 4, 2) := by decide +kernel
theorem dX8_readsLeg_45 : decode cX8_readsLeg 45 = .ok (.invokevirtual 62, 3) := by decide +kernel
theorem dX8_readsLeg_48 : decode cX8_readsLeg 48 = .ok (.return_, 1) := by decide +kernel
theorem dX8_readsTube_0 : decode cX8_readsTube 0 = .ok (.aload_n 0, 1) := by decide +kernel
theorem dX8_readsTube_1 : decode cX8_readsTube 1 = .ok (.getfield 13, 3) := by decide +kernel
theorem dX8_readsTube_4 : decode cX8_readsTube 4 = .ok (.iconst 2, 1) := by decide +kernel
theorem dX8_readsTube_5 : decode cX8_readsTube 5 = .ok (.iaload, 1) := by decide +kernel
theorem dX8_readsTube_6 : decode cX8_readsTube 6 = .ok (.istore_n 1, 1) := by decide +kernel
theorem dX8_readsTube_7 : decode cX8_readsTube 7 = .ok (.iload_n 1, 1) := by decide +kernel
theorem dX8_readsTube_8 : decode cX8_readsTube 8 = .ok (.bipush 12, 2) := by decide +kernel
theorem dX8_readsTube_10 : decode cX8_readsTube 10 = .ok (.if_icmp .ne 10, 3) := by decide +kernel
theorem dX8_readsTube_13 : decode cX8_readsTube 13 = .ok (.aload_n 0, 1) := by decide +kernel
theorem dX8_readsTube_14 : decode cX8_readsTube 14 = .ok (.iconst 3, 1) := by decide +kernel
theorem dX8_readsTube_15 : decode cX8_readsTube 15 = .ok (.invokevirtual 139, 3) := by decide +kernel
theorem dX8_readsTube_18 : decode cX8_readsTube 18 = .ok (.pop, 1) := by decide +kernel
theorem dX8_readsTube_19 : decode cX8_readsTube 19 = .ok (.return_, 1) := by decide +kernel
theorem dX8_readsTube_20 : decode cX8_readsTube 20 = .ok (.aload_n 0, 1) := by decide +kernel
theorem dX8_readsTube_21 : decode cX8_readsTube 21 = .ok (.invokevirtual 125, 3) := by decide +kernel
theorem dX8_readsTube_24 : decode cX8_readsTube 24 = .ok (.aload_n 0, 1) := by decide +kernel
theorem dX8_readsTube_25 : decode cX8_readsTube 25 = .ok (.iconst 0, 1) := by decide +kernel
theorem dX8_readsTube_26 : decode cX8_readsTube 26 = .ok (.iconst 1, 1) := by decide +kernel
theorem dX8_readsTube_27 : decode cX8_readsTube 27 = .ok (.invokevirtual 146, 3) := by decide +kernel
theorem dX8_readsTube_30 : decode cX8_readsTube 30 = .ok (.istore_n 2, 1) := by decide +kernel
theorem dX8_readsTube_31 : decode cX8_readsTube 31 = .ok (.aload_n 0, 1) := by decide +kernel
theorem dX8_readsTube_32 : decode cX8_readsTube 32 = .ok (.iconst 0, 1) := by decide +kernel
theorem dX8_readsTube_33 : decode cX8_readsTube 33 = .ok (.aload_n 0, 1) := by decide +kernel
theorem dX8_readsTube_34 : decode cX8_readsTube 34 = .ok (.getfield 13, 3) := by decide +kernel
theorem dX8_readsTube_37 : decode cX8_readsTube 37 = .ok (.iconst 0, 1) := by decide +kernel
theorem dX8_readsTube_38 : decode cX8_readsTube 38 = .ok (.iaload, 1) := by decide +kernel
theorem dX8_readsTube_39 : decode cX8_readsTube 39 = .ok (.iconst 1, 1) := by decide +kernel
theorem dX8_readsTube_40 : decode cX8_readsTube 40 = .ok (.isub, 1) := by decide +kernel
theorem dX8_readsTube_41 : decode cX8_readsTube 41 = .ok (.invokevirtual 146, 3) := by decide +kernel
theorem dX8_readsTube_44 : decode cX8_readsTube 44 = .ok (.istore_n 3, 1) := by decide +kernel
theorem dX8_readsTube_45 : decode cX8_readsTube 45 = .ok (.aload_n 0, 1) := by decide +kernel
theorem dX8_readsTube_46 : decode cX8_readsTube 46 = .ok (.iconst 1, 1) := by decide +kernel
theorem dX8_readsTube_47 : decode cX8_readsTube 47 = .ok (.bipush 20, 2) := by decide +kernel
theorem dX8_readsTube_49 : decode cX8_readsTube 49 = .ok (.invokevirtual 146, 3) := by decide +kernel
theorem dX8_readsTube_52 : decode cX8_readsTube 52 = .ok (.istore 4, 2) := by decide +kernel
theorem dX8_readsTube_54 : decode cX8_readsTube 54 = .ok (.aload_n 0, 1) := by decide +kernel
theorem dX8_readsTube_55 : decode cX8_readsTube 55 = .ok (.bipush 50, 2) := by decide +kernel
theorem dX8_readsTube_57 : decode cX8_readsTube 57 = .ok (.sipush 1000, 3) := by decide +kernel
theorem dX8_readsTube_60 : decode cX8_readsTube 60 = .ok (.invokevirtual 146, 3) := by decide +kernel
theorem dX8_readsTube_63 : decode cX8_readsTube 63 = .ok (.istore 5, 2) := by decide +kernel
theorem dX8_readsTube_65 : decode cX8_readsTube 65 = .ok (.aload_n 0, 1) := by decide +kernel
theorem dX8_readsTube_66 : decode cX8_readsTube 66 = .ok (.bipush 10, 2) := by decide +kernel
theorem dX8_readsTube_68 : decode cX8_readsTube 68 = .ok (.sipush 2000, 3) := by decide +kernel
theorem dX8_readsTube_71 : decode cX8_readsTube 71 = .ok (.invokevirtual 146, 3) := by decide +kernel
theorem dX8_readsTube_74 : decode cX8_readsTube 74 = .ok (.istore 6, 2) := by decide +kernel
theorem dX8_readsTube_76 : decode cX8_readsTube 76 = .ok (.aload_n 0, 1) := by decide +kernel
theorem dX8_readsTube_77 : decode cX8_readsTube 77 = .ok (.ldc2_w 155, 3) := by decide +kernel
theorem dX8_readsTube_80 : decode cX8_readsTube 80 = .ok (.invokevirtual 157, 3) := by decide +kernel
theorem dX8_readsTube_83 : decode cX8_readsTube 83 = .ok (.ifCond .eq 10, 3) := by decide +kernel
theorem dX8_readsTube_86 : decode cX8_readsTube 86 = .ok (.aload_n 0, 1) := by decide +kernel
theorem dX8_readsTube_87 : decode cX8_readsTube 87 = .ok (.invokevirtual 151, 3) := by decide +kernel
theorem dX8_readsTube_90 : decode cX8_readsTube 90 = .ok (.goto 4, 3) := by decide +kernel
theorem dX8_readsTube_93 : decode cX8_readsTube 93 = .ok (.iconst 0, 1) := by decide +kernel
theorem dX8_readsTube_94 : decode cX8_readsTube 94 = .ok (.istore 7, 2) := by decide +kernel
theorem dX8_readsTube_96 : decode cX8_readsTube 96 = .ok (.aload_n 0, 1) := by decide +kernel
theorem dX8_readsTube_97 : decode cX8_readsTube 97 = .ok (.invokevirtual 128, 3) := by decide +kernel
theorem dX8_readsTube_100 : decode cX8_readsTube 100 = .ok (.ifCond .ne 4, 3) := by decide +kernel
theorem dX8_readsTube_103 : decode cX8_readsTube 103 = .ok (.return_, 1) := by decide +kernel
theorem dX8_readsTube_104 : decode cX8_readsTube 104 = .ok (.aload_n 0, 1) := by decide +kernel
theorem dX8_readsTube_105 : decode cX8_readsTube 105 = .ok (.iload_n 1, 1) := by decide +kernel
theorem dX8_readsTube_106 : decode cX8_readsTube 106 = .ok (.iload_n 2, 1) := by decide +kernel
theorem dX8_readsTube_107 : decode cX8_readsTube 107 = .ok (.iload_n 3, 1) := by decide +kernel
theorem dX8_readsTube_108 : decode cX8_readsTube 108 = .ok (.iload 4, 2) := by decide +kernel
theorem dX8_readsTube_110 : decode cX8_readsTube 110 = .ok (.iload 5, 2) := by decide +kernel
theorem dX8_readsTube_112 : decode cX8_readsTube 112 = .ok (.iload 6, 2) := by decide +kernel
theorem dX8_readsTube_114 : decode cX8_readsTube 114 = .ok (.invokevirtual 160, 3) := by decide +kernel
theorem dX8_readsTube_117 : decode cX8_readsTube 117 = .ok (.aload_n 0, 1) := by decide +kernel
theorem dX8_readsTube_118 : decode cX8_readsTube 118 = .ok (.getfield 13, 3) := by decide +kernel
theorem dX8_readsTube_121 : decode cX8_readsTube 121 = .ok (.iload_n 1, 1) := by decide +kernel
theorem dX8_readsTube_122 : decode cX8_readsTube 122 = .ok (.iconst 5, 1) := by decide +kernel
theorem dX8_readsTube_123 : decode cX8_readsTube 123 = .ok (.invokestatic 164, 3) := by decide +kernel
theorem dX8_readsTube_126 : decode cX8_readsTube 126 = .ok (.iload 7, 2) := by decide +kernel
theorem dX8_readsTube_128 : decode cX8_readsTube 128 = .ok (.iastore, 1) := by decide +kernel
theorem dX8_readsTube_129 : decode cX8_readsTube 129 = .ok (.aload_n 0, 1) := by decide +kernel
theorem dX8_readsTube_130 : decode cX8_readsTube 130 = .ok (.getfield 13, 3) := by decide +kernel
theorem dX8_readsTube_133 : decode cX8_readsTube 133 = .ok (.iconst 2, 1) := by decide +kernel
theorem dX8_readsTube_134 : decode cX8_readsTube 134 = .ok (.iload_n 1, 1) := by decide +kernel
theorem dX8_readsTube_135 : decode cX8_readsTube 135 = .ok (.iconst 1, 1) := by decide +kernel
theorem dX8_readsTube_136 : decode cX8_readsTube 136 = .ok (.iadd, 1) := by decide +kernel
theorem dX8_readsTube_137 : decode cX8_readsTube 137 = .ok (.iastore, 1) := by decide +kernel
theorem dX8_readsTube_138 : decode cX8_readsTube 138 = .ok (.return_, 1) := by decide +kernel
theorem dX8_readsPressure_0 : decode cX8_readsPressure 0 = .ok (.aload_n 0, 1) := by decide +kernel
theorem dX8_readsPressure_1 : decode cX8_readsPressure 1 = .ok (.iconst 0, 1) := by decide +kernel
theorem dX8_readsPressure_2 : decode cX8_readsPressure 2 = .ok (.aload_n 0, 1) := by decide +kernel
theorem dX8_readsPressure_3 : decode cX8_readsPressure 3 = .ok (.getfield 13, 3) := by decide +kernel
theorem dX8_readsPressure_6 : decode cX8_readsPressure 6 = .ok (.iconst 0, 1) := by decide +kernel
theorem dX8_readsPressure_7 : decode cX8_readsPressure 7 = .ok (.iaload, 1) := by decide +kernel
theorem dX8_readsPressure_8 : decode cX8_readsPressure 8 = .ok (.iconst 1, 1) := by decide +kernel
theorem dX8_readsPressure_9 : decode cX8_readsPressure 9 = .ok (.isub, 1) := by decide +kernel
theorem dX8_readsPressure_10 : decode cX8_readsPressure 10 = .ok (.invokevirtual 146, 3) := by decide +kernel
theorem dX8_readsPressure_13 : decode cX8_readsPressure 13 = .ok (.istore_n 1, 1) := by decide +kernel
theorem dX8_readsPressure_14 : decode cX8_readsPressure 14 = .ok (.aload_n 0, 1) := by decide +kernel
theorem dX8_readsPressure_15 : decode cX8_readsPressure 15 = .ok (.iconst 0, 1) := by decide +kernel
theorem dX8_readsPressure_16 : decode cX8_readsPressure 16 = .ok (.ldc 150, 2) := by decide +kernel
theorem dX8_readsPressure_18 : decode cX8_readsPressure 18 = .ok (.invokevirtual 146, 3) := by decide +kernel
theorem dX8_readsPressure_21 : decode cX8_readsPressure 21 = .ok (.istore_n 2, 1) := by decide +kernel
theorem dX8_readsPressure_22 : decode cX8_readsPressure 22 = .ok (.aload_n 0, 1) := by decide +kernel
theorem dX8_readsPressure_23 : decode cX8_readsPressure 23 = .ok (.invokevirtual 128, 3) := by decide +kernel
theorem dX8_readsPressure_26 : decode cX8_readsPressure 26 = .ok (.ifCond .eq 12, 3) := by decide +kernel
theorem dX8_readsPressure_29 : decode cX8_readsPressure 29 = .ok (.aload_n 0, 1) := by decide +kernel
theorem dX8_readsPressure_30 : decode cX8_readsPressure 30 = .ok (.getfield 13, 3) := by decide +kernel
theorem dX8_readsPressure_33 : decode cX8_readsPressure 33 = .ok (.iconst 4, 1) := by decide +kernel
theorem dX8_readsPressure_34 : decode cX8_readsPressure 34 = .ok (.iload_n 1, 1) := by decide +kernel
theorem dX8_readsPressure_35 : decode cX8_readsPressure 35 = .ok (.iadd, 1) := by decide +kernel
theorem dX8_readsPressure_36 : decode cX8_readsPressure 36 = .ok (.iload_n 2, 1) := by decide +kernel
theorem dX8_readsPressure_37 : decode cX8_readsPressure 37 = .ok (.iastore, 1) := by decide +kernel
theorem dX8_readsPressure_38 : decode cX8_readsPressure 38 = .ok (.return_, 1) := by decide +kernel
theorem dX8_readsAll_0 : decode cX8_readsAll 0 = .ok (.aload_n 0, 1) := by decide +kernel
theorem dX8_readsAll_1 : decode cX8_readsAll 1 = .ok (.ldc2_w 167, 3) := by decide +kernel
theorem dX8_readsAll_4 : decode cX8_readsAll 4 = .ok (.invokevirtual 157, 3) := by decide +kernel
theorem dX8_readsAll_7 : decode cX8_readsAll 7 = .ok (.ifCond .ne 10, 3) := by decide +kernel
theorem dX8_readsAll_10 : decode cX8_readsAll 10 = .ok (.aload_n 0, 1) := by decide +kernel
theorem dX8_readsAll_11 : decode cX8_readsAll 11 = .ok (.iconst 1, 1) := by decide +kernel
theorem dX8_readsAll_12 : decode cX8_readsAll 12 = .ok (.invokevirtual 139, 3) := by decide +kernel
theorem dX8_readsAll_15 : decode cX8_readsAll 15 = .ok (.pop, 1) := by decide +kernel
theorem dX8_readsAll_16 : decode cX8_readsAll 16 = .ok (.return_, 1) := by decide +kernel
theorem dX8_readsAll_17 : decode cX8_readsAll 17 = .ok (.aload_n 0, 1) := by decide +kernel
theorem dX8_readsAll_18 : decode cX8_readsAll 18 = .ok (.iconst 2, 1) := by decide +kernel
theorem dX8_readsAll_19 : decode cX8_readsAll 19 = .ok (.bipush 8, 2) := by decide +kernel
theorem dX8_readsAll_21 : decode cX8_readsAll 21 = .ok (.invokevirtual 146, 3) := by decide +kernel
theorem dX8_readsAll_24 : decode cX8_readsAll 24 = .ok (.istore_n 1, 1) := by decide +kernel
theorem dX8_readsAll_25 : decode cX8_readsAll 25 = .ok (.aload_n 0, 1) := by decide +kernel
theorem dX8_readsAll_26 : decode cX8_readsAll 26 = .ok (.iload_n 1, 1) := by decide +kernel
theorem dX8_readsAll_27 : decode cX8_readsAll 27 = .ok (.aload_n 0, 1) := by decide +kernel
theorem dX8_readsAll_28 : decode cX8_readsAll 28 = .ok (.iconst 0, 1) := by decide +kernel
theorem dX8_readsAll_29 : decode cX8_readsAll 29 = .ok (.ldc 150, 2) := by decide +kernel
theorem dX8_readsAll_31 : decode cX8_readsAll 31 = .ok (.invokevirtual 146, 3) := by decide +kernel
theorem dX8_readsAll_34 : decode cX8_readsAll 34 = .ok (.invokevirtual 58, 3) := by decide +kernel
theorem dX8_readsAll_37 : decode cX8_readsAll 37 = .ok (.aload_n 0, 1) := by decide +kernel
theorem dX8_readsAll_38 : decode cX8_readsAll 38 = .ok (.bipush 59, 2) := by decide +kernel
theorem dX8_readsAll_40 : decode cX8_readsAll 40 = .ok (.invokevirtual 169, 3) := by decide +kernel
theorem dX8_readsAll_43 : decode cX8_readsAll 43 = .ok (.aload_n 0, 1) := by decide +kernel
theorem dX8_readsAll_44 : decode cX8_readsAll 44 = .ok (.invokevirtual 128, 3) := by decide +kernel
theorem dX8_readsAll_47 : decode cX8_readsAll 47 = .ok (.ifCond .eq 76, 3) := by decide +kernel
theorem dX8_readsAll_50 : decode cX8_readsAll 50 = .ok (.aload_n 0, 1) := by decide +kernel
theorem dX8_readsAll_51 : decode cX8_readsAll 51 = .ok (.getfield 106, 3) := by decide +kernel
theorem dX8_readsAll_54 : decode cX8_readsAll 54 = .ok (.ifCond .eq 69, 3) := by decide +kernel
theorem dX8_readsAll_57 : decode cX8_readsAll 57 = .ok (.aload_n 0, 1) := by decide +kernel
theorem dX8_readsAll_58 : decode cX8_readsAll 58 = .ok (.ldc2_w 172, 3) := by decide +kernel
theorem dX8_readsAll_61 : decode cX8_readsAll 61 = .ok (.invokevirtual 132, 3) := by decide +kernel
theorem dX8_readsAll_64 : decode cX8_readsAll 64 = .ok (.ifCond .eq 10, 3) := by decide +kernel
theorem dX8_readsAll_67 : decode cX8_readsAll 67 = .ok (.aload_n 0, 1) := by decide +kernel
theorem dX8_readsAll_68 : decode cX8_readsAll 68 = .ok (.invokevirtual 174, 3) := by decide +kernel
theorem dX8_readsAll_71 : decode cX8_readsAll 71 = .ok (.goto 43, 3) := by decide +kernel
theorem dX8_readsAll_74 : decode cX8_readsAll 74 = .ok (.aload_n 0, 1) := by decide +kernel
theorem dX8_readsAll_75 : decode cX8_readsAll 75 = .ok (.ldc2_w 177, 3) := by decide +kernel
theorem dX8_readsAll_78 : decode cX8_readsAll 78 = .ok (.invokevirtual 157, 3) := by decide +kernel
theorem dX8_readsAll_81 : decode cX8_readsAll 81 = .ok (.ifCond .eq 10, 3) := by decide +kernel
theorem dX8_readsAll_84 : decode cX8_readsAll 84 = .ok (.aload_n 0, 1) := by decide +kernel
theorem dX8_readsAll_85 : decode cX8_readsAll 85 = .ok (.invokevirtual 179, 3) := by decide +kernel
theorem dX8_readsAll_88 : decode cX8_readsAll 88 = .ok (.goto 26, 3) := by decide +kernel
theorem dX8_readsAll_91 : decode cX8_readsAll 91 = .ok (.aload_n 0, 1) := by decide +kernel
theorem dX8_readsAll_92 : decode cX8_readsAll 92 = .ok (.ldc2_w 182, 3) := by decide +kernel
theorem dX8_readsAll_95 : decode cX8_readsAll 95 = .ok (.invokevirtual 157, 3) := by decide +kernel
theorem dX8_readsAll_98 : decode cX8_readsAll 98 = .ok (.ifCond .eq 10, 3) := by decide +kernel
theorem dX8_readsAll_101 : decode cX8_readsAll 101 = .ok (.aload_n 0, 1) := by decide +kernel
theorem dX8_readsAll_102 : decode cX8_readsAll 102 = .ok (.invokevirtual 184, 3) := by decide +kernel
theorem dX8_readsAll_105 : decode cX8_readsAll 105 = .ok (.goto 9, 3) := by decide +kernel
theorem dX8_readsAll_108 : decode cX8_readsAll 108 = .ok (.aload_n 0, 1) := by decide +kernel
theorem dX8_readsAll_109 : decode cX8_readsAll 109 = .ok (.iconst 1, 1) := by decide +kernel
theorem dX8_readsAll_110 : decode cX8_readsAll 110 = .ok (.invokevirtual 139, 3) := by decide +kernel
theorem dX8_readsAll_113 : decode cX8_readsAll 113 = .ok (.pop, 1) := by decide +kernel
theorem dX8_readsAll_114 : decode cX8_readsAll 114 = .ok (.aload_n 0, 1) := by decide +kernel
theorem dX8_readsAll_115 : decode cX8_readsAll 115 = .ok (.bipush 59, 2) := by decide +kernel
theorem dX8_readsAll_117 : decode cX8_readsAll 117 = .ok (.invokevirtual 169, 3) := by decide +kernel
theorem dX8_readsAll_120 : decode cX8_readsAll 120 = .ok (.goto (-77), 3) := by decide +kernel
theorem dX8_readsAll_123 : decode cX8_readsAll 123 = .ok (.return_, 1) := by decide +kernel
theorem dX8_load_0 : decode cX8_load 0 = .ok (.aload_n 0, 1) := by decide +kernel
theorem dX8_load_1 : decode cX8_load 1 = .ok (.iconst 0, 1) := by decide +kernel
theorem dX8_load_2 : decode cX8_load 2 = .ok (.putfield 1, 3) := by decide +kernel
theorem dX8_load_5 : decode cX8_load 5 = .ok (.aload_n 0, 1) := by decide +kernel
theorem dX8_load_6 : decode cX8_load 6 = .ok (.iload_n 1, 1) := by decide +kernel
theorem dX8_load_7 : decode cX8_load 7 = .ok (.i2l, 1) := by decide +kernel
theorem dX8_load_8 : decode cX8_load 8 = .ok (.lconst 0, 1) := by decide +kernel
theorem dX8_load_9 : decode cX8_load 9 = .ok (.aload_n 0, 1) := by decide +kernel
theorem dX8_load_10 : decode cX8_load 10 = .ok (.getfield 74, 3) := by decide +kernel
theorem dX8_load_13 : decode cX8_load 13 = .ok (.i2l, 1) := by decide +kernel
theorem dX8_load_14 : decode cX8_load 14 = .ok (.invokestatic 142, 3) := by decide +kernel
theorem dX8_load_17 : decode cX8_load 17 = .ok (.iconst 1, 1) := by decide +kernel
theorem dX8_load_18 : decode cX8_load 18 = .ok (.invokevirtual 187, 3) := by decide +kernel
theorem dX8_load_21 : decode cX8_load 21 = .ok (.ifCond .eq 5, 3) := by decide +kernel
theorem dX8_load_24 : decode cX8_load 24 = .ok (.iconst 0, 1) := by decide +kernel
theorem dX8_load_25 : decode cX8_load 25 = .ok (.ireturn, 1) := by decide +kernel
theorem dX8_load_26 : decode cX8_load 26 = .ok (.aload_n 0, 1) := by decide +kernel
theorem dX8_load_27 : decode cX8_load 27 = .ok (.invokevirtual 191, 3) := by decide +kernel
theorem dX8_load_30 : decode cX8_load 30 = .ok (.aload_n 0, 1) := by decide +kernel
theorem dX8_load_31 : decode cX8_load 31 = .ok (.iload_n 1, 1) := by decide +kernel
theorem dX8_load_32 : decode cX8_load 32 = .ok (.invokevirtual 194, 3) := by decide +kernel
theorem dX8_load_35 : decode cX8_load 35 = .ok (.aload_n 0, 1) := by decide +kernel
theorem dX8_load_36 : decode cX8_load 36 = .ok (.invokevirtual 197, 3) := by decide +kernel
theorem dX8_load_39 : decode cX8_load 39 = .ok (.aload_n 0, 1) := by decide +kernel
theorem dX8_load_40 : decode cX8_load 40 = .ok (.invokevirtual 128, 3) := by decide +kernel
theorem dX8_load_43 : decode cX8_load 43 = .ok (.ifCond .ne 15, 3) := by decide +kernel
theorem dX8_load_46 : decode cX8_load 46 = .ok (.aload_n 0, 1) := by decide +kernel
theorem dX8_load_47 : decode cX8_load 47 = .ok (.invokevirtual 200, 3) := by decide +kernel
theorem dX8_load_50 : decode cX8_load 50 = .ok (.bipush (-10), 2) := by decide +kernel
theorem dX8_load_52 : decode cX8_load 52 = .ok (.aload_n 0, 1) := by decide +kernel
theorem dX8_load_53 : decode cX8_load 53 = .ok (.getfield 122, 3) := by decide +kernel
theorem dX8_load_56 : decode cX8_load 56 = .ok (.isub, 1) := by decide +kernel
theorem dX8_load_57 : decode cX8_load 57 = .ok (.ireturn, 1) := by decide +kernel
theorem dX8_load_58 : decode cX8_load 58 = .ok (.aload_n 0, 1) := by decide +kernel
theorem dX8_load_59 : decode cX8_load 59 = .ok (.invokevirtual 203, 3) := by decide +kernel
theorem dX8_load_62 : decode cX8_load 62 = .ok (.istore_n 2, 1) := by decide +kernel
theorem dX8_load_63 : decode cX8_load 63 = .ok (.aload_n 0, 1) := by decide +kernel
theorem dX8_load_64 : decode cX8_load 64 = .ok (.iconst 0, 1) := by decide +kernel
theorem dX8_load_65 : decode cX8_load 65 = .ok (.putfield 206, 3) := by decide +kernel
theorem dX8_load_68 : decode cX8_load 68 = .ok (.aload_n 0, 1) := by decide +kernel
theorem dX8_load_69 : decode cX8_load 69 = .ok (.iconst 0, 1) := by decide +kernel
theorem dX8_load_70 : decode cX8_load 70 = .ok (.putfield 209, 3) := by decide +kernel
theorem dX8_load_73 : decode cX8_load 73 = .ok (.aload_n 0, 1) := by decide +kernel
theorem dX8_load_74 : decode cX8_load 74 = .ok (.iconst 0, 1) := by decide +kernel
theorem dX8_load_75 : decode cX8_load 75 = .ok (.invokevirtual 213, 3) := by decide +kernel
theorem dX8_load_78 : decode cX8_load 78 = .ok (.ireturn, 1) := by decide +kernel
theorem dX8_cell_0 : decode cX8_cell 0 = .ok (.bipush 18, 2) := by decide +kernel
theorem dX8_cell_2 : decode cX8_cell 2 = .ok (.bipush 7, 2) := by decide +kernel
theorem dX8_cell_4 : decode cX8_cell 4 = .ok (.iload_n 0, 1) := by decide +kernel
theorem dX8_cell_5 : decode cX8_cell 5 = .ok (.imul, 1) := by decide +kernel
theorem dX8_cell_6 : decode cX8_cell 6 = .ok (.iadd, 1) := by decide +kernel
theorem dX8_cell_7 : decode cX8_cell 7 = .ok (.iload_n 1, 1) := by decide +kernel
theorem dX8_cell_8 : decode cX8_cell 8 = .ok (.iadd, 1) := by decide +kernel
theorem dX8_cell_9 : decode cX8_cell 9 = .ok (.ireturn, 1) := by decide +kernel
theorem dX8_of_0 : decode cX8_of 0 = .ok (.aload_n 0, 1) := by decide +kernel
theorem dX8_of_1 : decode cX8_of 1 = .ok (.getfield 13, 3) := by decide +kernel
theorem dX8_of_4 : decode cX8_of 4 = .ok (.iload_n 1, 1) := by decide +kernel
theorem dX8_of_5 : decode cX8_of 5 = .ok (.iload_n 2, 1) := by decide +kernel
theorem dX8_of_6 : decode cX8_of 6 = .ok (.invokestatic 164, 3) := by decide +kernel
theorem dX8_of_9 : decode cX8_of 9 = .ok (.iaload, 1) := by decide +kernel
theorem dX8_of_10 : decode cX8_of 10 = .ok (.ireturn, 1) := by decide +kernel
theorem dX8_laysTube_0 : decode cX8_laysTube 0 = .ok (.aload_n 0, 1) := by decide +kernel
theorem dX8_laysTube_1 : decode cX8_laysTube 1 = .ok (.getfield 13, 3) := by decide +kernel
theorem dX8_laysTube_4 : decode cX8_laysTube 4 = .ok (.iload_n 1, 1) := by decide +kernel
theorem dX8_laysTube_5 : decode cX8_laysTube 5 = .ok (.iconst 0, 1) := by decide +kernel
theorem dX8_laysTube_6 : decode cX8_laysTube 6 = .ok (.invokestatic 164, 3) := by decide +kernel
theorem dX8_laysTube_9 : decode cX8_laysTube 9 = .ok (.iload_n 2, 1) := by decide +kernel
theorem dX8_laysTube_10 : decode cX8_laysTube 10 = .ok (.iastore, 1) := by decide +kernel
theorem dX8_laysTube_11 : decode cX8_laysTube 11 = .ok (.aload_n 0, 1) := by decide +kernel
theorem dX8_laysTube_12 : decode cX8_laysTube 12 = .ok (.getfield 13, 3) := by decide +kernel
theorem dX8_laysTube_15 : decode cX8_laysTube 15 = .ok (.iload_n 1, 1) := by decide +kernel
theorem dX8_laysTube_16 : decode cX8_laysTube 16 = .ok (.iconst 1, 1) := by decide +kernel
theorem dX8_laysTube_17 : decode cX8_laysTube 17 = .ok (.invokestatic 164, 3) := by decide +kernel
theorem dX8_laysTube_20 : decode cX8_laysTube 20 = .ok (.iload_n 3, 1) := by decide +kernel
theorem dX8_laysTube_21 : decode cX8_laysTube 21 = .ok (.iastore, 1) := by decide +kernel
theorem dX8_laysTube_22 : decode cX8_laysTube 22 = .ok (.aload_n 0, 1) := by decide +kernel
theorem dX8_laysTube_23 : decode cX8_laysTube 23 = .ok (.getfield 13, 3) := by decide +kernel
theorem dX8_laysTube_26 : decode cX8_laysTube 26 = .ok (.iload_n 1, 1) := by decide +kernel
theorem dX8_laysTube_27 : decode cX8_laysTube 27 = .ok (.iconst 2, 1) := by decide +kernel
theorem dX8_laysTube_28 : decode cX8_laysTube 28 = .ok (.invokestatic 164, 3) := by decide +kernel
theorem dX8_laysTube_31 : decode cX8_laysTube 31 = .ok (.iload 4, 2) := by decide +kernel
theorem dX8_laysTube_33 : decode cX8_laysTube 33 = .ok (.iastore, 1) := by decide +kernel
theorem dX8_laysTube_34 : decode cX8_laysTube 34 = .ok (.aload_n 0, 1) := by decide +kernel
theorem dX8_laysTube_35 : decode cX8_laysTube 35 = .ok (.getfield 13, 3) := by decide +kernel
theorem dX8_laysTube_38 : decode cX8_laysTube 38 = .ok (.iload_n 1, 1) := by decide +kernel
theorem dX8_laysTube_39 : decode cX8_laysTube 39 = .ok (.iconst 3, 1) := by decide +kernel
theorem dX8_laysTube_40 : decode cX8_laysTube 40 = .ok (.invokestatic 164, 3) := by decide +kernel
theorem dX8_laysTube_43 : decode cX8_laysTube 43 = .ok (.iload 5, 2) := by decide +kernel
theorem dX8_laysTube_45 : decode cX8_laysTube 45 = .ok (.iastore, 1) := by decide +kernel
theorem dX8_laysTube_46 : decode cX8_laysTube 46 = .ok (.aload_n 0, 1) := by decide +kernel
theorem dX8_laysTube_47 : decode cX8_laysTube 47 = .ok (.getfield 13, 3) := by decide +kernel
theorem dX8_laysTube_50 : decode cX8_laysTube 50 = .ok (.iload_n 1, 1) := by decide +kernel
theorem dX8_laysTube_51 : decode cX8_laysTube 51 = .ok (.iconst 4, 1) := by decide +kernel
theorem dX8_laysTube_52 : decode cX8_laysTube 52 = .ok (.invokestatic 164, 3) := by decide +kernel
theorem dX8_laysTube_55 : decode cX8_laysTube 55 = .ok (.iload 6, 2) := by decide +kernel
theorem dX8_laysTube_57 : decode cX8_laysTube 57 = .ok (.iastore, 1) := by decide +kernel
theorem dX8_laysTube_58 : decode cX8_laysTube 58 = .ok (.aload_n 0, 1) := by decide +kernel
theorem dX8_laysTube_59 : decode cX8_laysTube 59 = .ok (.getfield 13, 3) := by decide +kernel
theorem dX8_laysTube_62 : decode cX8_laysTube 62 = .ok (.iload_n 1, 1) := by decide +kernel
theorem dX8_laysTube_63 : decode cX8_laysTube 63 = .ok (.iconst 5, 1) := by decide +kernel
theorem dX8_laysTube_64 : decode cX8_laysTube 64 = .ok (.invokestatic 164, 3) := by decide +kernel
theorem dX8_laysTube_67 : decode cX8_laysTube 67 = .ok (.iconst 0, 1) := by decide +kernel
theorem dX8_laysTube_68 : decode cX8_laysTube 68 = .ok (.iastore, 1) := by decide +kernel
theorem dX8_laysTube_69 : decode cX8_laysTube 69 = .ok (.aload_n 0, 1) := by decide +kernel
theorem dX8_laysTube_70 : decode cX8_laysTube 70 = .ok (.getfield 13, 3) := by decide +kernel
theorem dX8_laysTube_73 : decode cX8_laysTube 73 = .ok (.iload_n 1, 1) := by decide +kernel
theorem dX8_laysTube_74 : decode cX8_laysTube 74 = .ok (.bipush 6, 2) := by decide +kernel
theorem dX8_laysTube_76 : decode cX8_laysTube 76 = .ok (.invokestatic 164, 3) := by decide +kernel
theorem dX8_laysTube_79 : decode cX8_laysTube 79 = .ok (.iconst 0, 1) := by decide +kernel
theorem dX8_laysTube_80 : decode cX8_laysTube 80 = .ok (.iastore, 1) := by decide +kernel
theorem dX8_laysTube_81 : decode cX8_laysTube 81 = .ok (.return_, 1) := by decide +kernel
theorem dX8_ofLeg_0 : decode cX8_ofLeg 0 = .ok (.aload_n 0, 1) := by decide +kernel
theorem dX8_ofLeg_1 : decode cX8_ofLeg 1 = .ok (.getfield 13, 3) := by decide +kernel
theorem dX8_ofLeg_4 : decode cX8_ofLeg 4 = .ok (.bipush 12, 2) := by decide +kernel
theorem dX8_ofLeg_6 : decode cX8_ofLeg 6 = .ok (.iconst 3, 1) := by decide +kernel
theorem dX8_ofLeg_7 : decode cX8_ofLeg 7 = .ok (.iload_n 1, 1) := by decide +kernel
theorem dX8_ofLeg_8 : decode cX8_ofLeg 8 = .ok (.imul, 1) := by decide +kernel
theorem dX8_ofLeg_9 : decode cX8_ofLeg 9 = .ok (.iadd, 1) := by decide +kernel
theorem dX8_ofLeg_10 : decode cX8_ofLeg 10 = .ok (.iload_n 2, 1) := by decide +kernel
theorem dX8_ofLeg_11 : decode cX8_ofLeg 11 = .ok (.iadd, 1) := by decide +kernel
theorem dX8_ofLeg_12 : decode cX8_ofLeg 12 = .ok (.iaload, 1) := by decide +kernel
theorem dX8_ofLeg_13 : decode cX8_ofLeg 13 = .ok (.ireturn, 1) := by decide +kernel
theorem dX8_many_0 : decode cX8_many 0 = .ok (.iconst 0, 1) := by decide +kernel
theorem dX8_many_1 : decode cX8_many 1 = .ok (.istore_n 2, 1) := by decide +kernel
theorem dX8_many_2 : decode cX8_many 2 = .ok (.iconst 0, 1) := by decide +kernel
theorem dX8_many_3 : decode cX8_many 3 = .ok (.istore_n 3, 1) := by decide +kernel
theorem dX8_many_4 : decode cX8_many 4 = .ok (.iload_n 3, 1) := by decide +kernel
theorem dX8_many_5 : decode cX8_many 5 = .ok (.aload_n 0, 1) := by decide +kernel
theorem dX8_many_6 : decode cX8_many 6 = .ok (.getfield 13, 3) := by decide +kernel
theorem dX8_many_9 : decode cX8_many 9 = .ok (.iconst 2, 1) := by decide +kernel
theorem dX8_many_10 : decode cX8_many 10 = .ok (.iaload, 1) := by decide +kernel
theorem dX8_many_11 : decode cX8_many 11 = .ok (.if_icmp .ge 28, 3) := by decide +kernel
theorem dX8_many_14 : decode cX8_many 14 = .ok (.iload_n 2, 1) := by decide +kernel
theorem dX8_many_15 : decode cX8_many 15 = .ok (.aload_n 0, 1) := by decide +kernel
theorem dX8_many_16 : decode cX8_many 16 = .ok (.iload_n 3, 1) := by decide +kernel
theorem dX8_many_17 : decode cX8_many 17 = .ok (.bipush 6, 2) := by decide +kernel
theorem dX8_many_19 : decode cX8_many 19 = .ok (.invokevirtual 216, 3) := by decide +kernel
theorem dX8_many_22 : decode cX8_many 22 = .ok (.iload_n 1, 1) := by decide +kernel
theorem dX8_many_23 : decode cX8_many 23 = .ok (.if_icmp .ne 7, 3) := by decide +kernel
theorem dX8_many_26 : decode cX8_many 26 = .ok (.iconst 1, 1) := by decide +kernel
theorem dX8_many_27 : decode cX8_many 27 = .ok (.goto 4, 3) := by decide +kernel
theorem dX8_many_30 : decode cX8_many 30 = .ok (.iconst 0, 1) := by decide +kernel
theorem dX8_many_31 : decode cX8_many 31 = .ok (.iadd, 1) := by decide +kernel
theorem dX8_many_32 : decode cX8_many 32 = .ok (.istore_n 2, 1) := by decide +kernel
theorem dX8_many_33 : decode cX8_many 33 = .ok (.iinc 3 1, 3) := by decide +kernel
theorem dX8_many_36 : decode cX8_many 36 = .ok (.goto (-32), 3) := by decide +kernel
theorem dX8_many_39 : decode cX8_many 39 = .ok (.iload_n 2, 1) := by decide +kernel
theorem dX8_many_40 : decode cX8_many 40 = .ok (.ireturn, 1) := by decide +kernel
theorem dX8_isWhole_0 : decode cX8_isWhole 0 = .ok (.aload_n 0, 1) := by decide +kernel
theorem dX8_isWhole_1 : decode cX8_isWhole 1 = .ok (.iload_n 1, 1) := by decide +kernel
theorem dX8_isWhole_2 : decode cX8_isWhole 2 = .ok (.bipush 6, 2) := by decide +kernel
theorem dX8_isWhole_4 : decode cX8_isWhole 4 = .ok (.invokevirtual 216, 3) := by decide +kernel
theorem dX8_isWhole_7 : decode cX8_isWhole 7 = .ok (.ifCond .ne 7, 3) := by decide +kernel
theorem dX8_isWhole_10 : decode cX8_isWhole 10 = .ok (.iconst 1, 1) := by decide +kernel
theorem dX8_isWhole_11 : decode cX8_isWhole 11 = .ok (.goto 4, 3) := by decide +kernel
theorem dX8_isWhole_14 : decode cX8_isWhole 14 = .ok (.iconst 0, 1) := by decide +kernel
theorem dX8_isWhole_15 : decode cX8_isWhole 15 = .ok (.ireturn, 1) := by decide +kernel
theorem dX8_pullOf_0 : decode cX8_pullOf 0 = .ok (.aload_n 0, 1) := by decide +kernel
theorem dX8_pullOf_1 : decode cX8_pullOf 1 = .ok (.getfield 13, 3) := by decide +kernel
theorem dX8_pullOf_4 : decode cX8_pullOf 4 = .ok (.iconst 1, 1) := by decide +kernel
theorem dX8_pullOf_5 : decode cX8_pullOf 5 = .ok (.iaload, 1) := by decide +kernel
theorem dX8_pullOf_6 : decode cX8_pullOf 6 = .ok (.aload_n 0, 1) := by decide +kernel
theorem dX8_pullOf_7 : decode cX8_pullOf 7 = .ok (.getfield 13, 3) := by decide +kernel
theorem dX8_pullOf_10 : decode cX8_pullOf 10 = .ok (.iconst 4, 1) := by decide +kernel
theorem dX8_pullOf_11 : decode cX8_pullOf 11 = .ok (.aload_n 0, 1) := by decide +kernel
theorem dX8_pullOf_12 : decode cX8_pullOf 12 = .ok (.iload_n 1, 1) := by decide +kernel
theorem dX8_pullOf_13 : decode cX8_pullOf 13 = .ok (.iconst 1, 1) := by decide +kernel
theorem dX8_pullOf_14 : decode cX8_pullOf 14 = .ok (.invokevirtual 216, 3) := by decide +kernel
theorem dX8_pullOf_17 : decode cX8_pullOf 17 = .ok (.iadd, 1) := by decide +kernel
theorem dX8_pullOf_18 : decode cX8_pullOf 18 = .ok (.iaload, 1) := by decide +kernel
theorem dX8_pullOf_19 : decode cX8_pullOf 19 = .ok (.isub, 1) := by decide +kernel
theorem dX8_pullOf_20 : decode cX8_pullOf 20 = .ok (.sipush 1000, 3) := by decide +kernel
theorem dX8_pullOf_23 : decode cX8_pullOf 23 = .ok (.imul, 1) := by decide +kernel
theorem dX8_pullOf_24 : decode cX8_pullOf 24 = .ok (.aload_n 0, 1) := by decide +kernel
theorem dX8_pullOf_25 : decode cX8_pullOf 25 = .ok (.aload_n 0, 1) := by decide +kernel
theorem dX8_pullOf_26 : decode cX8_pullOf 26 = .ok (.iload_n 1, 1) := by decide +kernel
theorem dX8_pullOf_27 : decode cX8_pullOf 27 = .ok (.iconst 0, 1) := by decide +kernel
theorem dX8_pullOf_28 : decode cX8_pullOf 28 = .ok (.invokevirtual 216, 3) := by decide +kernel
theorem dX8_pullOf_31 : decode cX8_pullOf 31 = .ok (.iconst 0, 1) := by decide +kernel
theorem dX8_pullOf_32 : decode cX8_pullOf 32 = .ok (.invokevirtual 219, 3) := by decide +kernel
theorem dX8_pullOf_35 : decode cX8_pullOf 35 = .ok (.idiv, 1) := by decide +kernel
theorem dX8_pullOf_36 : decode cX8_pullOf 36 = .ok (.ireturn, 1) := by decide +kernel
theorem dX8_meniscusOf_0 : decode cX8_meniscusOf 0 = .ok (.aload_n 0, 1) := by decide +kernel
theorem dX8_meniscusOf_1 : decode cX8_meniscusOf 1 = .ok (.aload_n 0, 1) := by decide +kernel
theorem dX8_meniscusOf_2 : decode cX8_meniscusOf 2 = .ok (.iload_n 1, 1) := by decide +kernel
theorem dX8_meniscusOf_3 : decode cX8_meniscusOf 3 = .ok (.iconst 0, 1) := by decide +kernel
theorem dX8_meniscusOf_4 : decode cX8_meniscusOf 4 = .ok (.invokevirtual 216, 3) := by decide +kernel
theorem dX8_meniscusOf_7 : decode cX8_meniscusOf 7 = .ok (.iconst 2, 1) := by decide +kernel
theorem dX8_meniscusOf_8 : decode cX8_meniscusOf 8 = .ok (.invokevirtual 219, 3) := by decide +kernel
theorem dX8_meniscusOf_11 : decode cX8_meniscusOf 11 = .ok (.aload_n 0, 1) := by decide +kernel
theorem dX8_meniscusOf_12 : decode cX8_meniscusOf 12 = .ok (.iload_n 1, 1) := by decide +kernel
theorem dX8_meniscusOf_13 : decode cX8_meniscusOf 13 = .ok (.iconst 2, 1) := by decide +kernel
theorem dX8_meniscusOf_14 : decode cX8_meniscusOf 14 = .ok (.invokevirtual 216, 3) := by decide +kernel
theorem dX8_meniscusOf_17 : decode cX8_meniscusOf 17 = .ok (.idiv, 1) := by decide +kernel
theorem dX8_meniscusOf_18 : decode cX8_meniscusOf 18 = .ok (.ireturn, 1) := by decide +kernel
theorem dX8_runAt_0 : decode cX8_runAt 0 = .ok (.lload_n 2, 1) := by decide +kernel
theorem dX8_runAt_1 : decode cX8_runAt 1 = .ok (.aload_n 0, 1) := by decide +kernel
theorem dX8_runAt_2 : decode cX8_runAt 2 = .ok (.iload_n 1, 1) := by decide +kernel
theorem dX8_runAt_3 : decode cX8_runAt 3 = .ok (.invokevirtual 222, 3) := by decide +kernel
theorem dX8_runAt_6 : decode cX8_runAt 6 = .ok (.i2l, 1) := by decide +kernel
theorem dX8_runAt_7 : decode cX8_runAt 7 = .ok (.ladd, 1) := by decide +kernel
theorem dX8_runAt_8 : decode cX8_runAt 8 = .ok (.aload_n 0, 1) := by decide +kernel
theorem dX8_runAt_9 : decode cX8_runAt 9 = .ok (.iload_n 1, 1) := by decide +kernel
theorem dX8_runAt_10 : decode cX8_runAt 10 = .ok (.invokevirtual 225, 3) := by decide +kernel
theorem dX8_runAt_13 : decode cX8_runAt 13 = .ok (.i2l, 1) := by decide +kernel
theorem dX8_runAt_14 : decode cX8_runAt 14 = .ok (.ladd, 1) := by decide +kernel
theorem dX8_runAt_15 : decode cX8_runAt 15 = .ok (.ldc2_w 228, 3) := by decide +kernel
theorem dX8_runAt_18 : decode cX8_runAt 18 = .ok (.lmul, 1) := by decide +kernel
theorem dX8_runAt_19 : decode cX8_runAt 19 = .ok (.aload_n 0, 1) := by decide +kernel
theorem dX8_runAt_20 : decode cX8_runAt 20 = .ok (.iload_n 1, 1) := by decide +kernel
theorem dX8_runAt_21 : decode cX8_runAt 21 = .ok (.iconst 3, 1) := by decide +kernel
theorem dX8_runAt_22 : decode cX8_runAt 22 = .ok (.invokevirtual 216, 3) := by decide +kernel
theorem dX8_runAt_25 : decode cX8_runAt 25 = .ok (.i2l, 1) := by decide +kernel
theorem dX8_runAt_26 : decode cX8_runAt 26 = .ok (.ldiv, 1) := by decide +kernel
theorem dX8_runAt_27 : decode cX8_runAt 27 = .ok (.lreturn, 1) := by decide +kernel
theorem dX8_fullOf_0 : decode cX8_fullOf 0 = .ok (.bipush 100, 2) := by decide +kernel
theorem dX8_fullOf_2 : decode cX8_fullOf 2 = .ok (.aload_n 0, 1) := by decide +kernel
theorem dX8_fullOf_3 : decode cX8_fullOf 3 = .ok (.iload_n 1, 1) := by decide +kernel
theorem dX8_fullOf_4 : decode cX8_fullOf 4 = .ok (.iconst 4, 1) := by decide +kernel
theorem dX8_fullOf_5 : decode cX8_fullOf 5 = .ok (.invokevirtual 216, 3) := by decide +kernel
theorem dX8_fullOf_8 : decode cX8_fullOf 8 = .ok (.imul, 1) := by decide +kernel
theorem dX8_fullOf_9 : decode cX8_fullOf 9 = .ok (.ireturn, 1) := by decide +kernel
theorem dX8_columnAt_0 : decode cX8_columnAt 0 = .ok (.aload_n 0, 1) := by decide +kernel
theorem dX8_columnAt_1 : decode cX8_columnAt 1 = .ok (.iload_n 1, 1) := by decide +kernel
theorem dX8_columnAt_2 : decode cX8_columnAt 2 = .ok (.invokevirtual 230, 3) := by decide +kernel
theorem dX8_columnAt_5 : decode cX8_columnAt 5 = .ok (.ifCond .ne 5, 3) := by decide +kernel
theorem dX8_columnAt_8 : decode cX8_columnAt 8 = .ok (.lconst 0, 1) := by decide +kernel
theorem dX8_columnAt_9 : decode cX8_columnAt 9 = .ok (.lreturn, 1) := by decide +kernel
theorem dX8_columnAt_10 : decode cX8_columnAt 10 = .ok (.aload_n 0, 1) := by decide +kernel
theorem dX8_columnAt_11 : decode cX8_columnAt 11 = .ok (.iload_n 1, 1) := by decide +kernel
theorem dX8_columnAt_12 : decode cX8_columnAt 12 = .ok (.lload_n 2, 1) := by decide +kernel
theorem dX8_columnAt_13 : decode cX8_columnAt 13 = .ok (.invokevirtual 233, 3) := by decide +kernel
theorem dX8_columnAt_16 : decode cX8_columnAt 16 = .ok (.lstore 4, 2) := by decide +kernel
theorem dX8_columnAt_18 : decode cX8_columnAt 18 = .ok (.lload 4, 2) := by decide +kernel
theorem dX8_columnAt_20 : decode cX8_columnAt 20 = .ok (.lconst 0, 1) := by decide +kernel
theorem dX8_columnAt_21 : decode cX8_columnAt 21 = .ok (.lcmp, 1) := by decide +kernel
theorem dX8_columnAt_22 : decode cX8_columnAt 22 = .ok (.ifCond .ge 7, 3) := by decide +kernel
theorem dX8_columnAt_25 : decode cX8_columnAt 25 = .ok (.lconst 0, 1) := by decide +kernel
theorem dX8_columnAt_26 : decode cX8_columnAt 26 = .ok (.goto 26, 3) := by decide +kernel
theorem dX8_columnAt_29 : decode cX8_columnAt 29 = .ok (.lload 4, 2) := by decide +kernel
theorem dX8_columnAt_31 : decode cX8_columnAt 31 = .ok (.aload_n 0, 1) := by decide +kernel
theorem dX8_columnAt_32 : decode cX8_columnAt 32 = .ok (.iload_n 1, 1) := by decide +kernel
theorem dX8_columnAt_33 : decode cX8_columnAt 33 = .ok (.invokevirtual 237, 3) := by decide +kernel
theorem dX8_columnAt_36 : decode cX8_columnAt 36 = .ok (.i2l, 1) := by decide +kernel
theorem dX8_columnAt_37 : decode cX8_columnAt 37 = .ok (.lcmp, 1) := by decide +kernel
theorem dX8_columnAt_38 : decode cX8_columnAt 38 = .ok (.ifCond .le 12, 3) := by decide +kernel
theorem dX8_columnAt_41 : decode cX8_columnAt 41 = .ok (.aload_n 0, 1) := by decide +kernel
theorem dX8_columnAt_42 : decode cX8_columnAt 42 = .ok (.iload_n 1, 1) := by decide +kernel
theorem dX8_columnAt_43 : decode cX8_columnAt 43 = .ok (.invokevirtual 237, 3) := by decide +kernel
theorem dX8_columnAt_46 : decode cX8_columnAt 46 = .ok (.i2l, 1) := by decide +kernel
theorem dX8_columnAt_47 : decode cX8_columnAt 47 = .ok (.goto 5, 3) := by decide +kernel
theorem dX8_columnAt_50 : decode cX8_columnAt 50 = .ok (.lload 4, 2) := by decide +kernel
theorem dX8_columnAt_52 : decode cX8_columnAt 52 = .ok (.lreturn, 1) := by decide +kernel
theorem dX8_volumeFor_0 : decode cX8_volumeFor 0 = .ok (.lload_n 2, 1) := by decide +kernel
theorem dX8_volumeFor_1 : decode cX8_volumeFor 1 = .ok (.aload_n 0, 1) := by decide +kernel
theorem dX8_volumeFor_2 : decode cX8_volumeFor 2 = .ok (.iload_n 1, 1) := by decide +kernel
theorem dX8_volumeFor_3 : decode cX8_volumeFor 3 = .ok (.iconst 2, 1) := by decide +kernel
theorem dX8_volumeFor_4 : decode cX8_volumeFor 4 = .ok (.invokevirtual 216, 3) := by decide +kernel
theorem dX8_volumeFor_7 : decode cX8_volumeFor 7 = .ok (.i2l, 1) := by decide +kernel
theorem dX8_volumeFor_8 : decode cX8_volumeFor 8 = .ok (.lmul, 1) := by decide +kernel
theorem dX8_volumeFor_9 : decode cX8_volumeFor 9 = .ok (.aload_n 0, 1) := by decide +kernel
theorem dX8_volumeFor_10 : decode cX8_volumeFor 10 = .ok (.iload_n 1, 1) := by decide +kernel
theorem dX8_volumeFor_11 : decode cX8_volumeFor 11 = .ok (.iconst 2, 1) := by decide +kernel
theorem dX8_volumeFor_12 : decode cX8_volumeFor 12 = .ok (.invokevirtual 216, 3) := by decide +kernel
theorem dX8_volumeFor_15 : decode cX8_volumeFor 15 = .ok (.i2l, 1) := by decide +kernel
theorem dX8_volumeFor_16 : decode cX8_volumeFor 16 = .ok (.lmul, 1) := by decide +kernel
theorem dX8_volumeFor_17 : decode cX8_volumeFor 17 = .ok (.lreturn, 1) := by decide +kernel
theorem dX8_volumesAt_0 : decode cX8_volumesAt 0 = .ok (.lconst 0, 1) := by decide +kernel
theorem dX8_volumesAt_1 : decode cX8_volumesAt 1 = .ok (.lstore 4, 2) := by decide +kernel
theorem dX8_volumesAt_3 : decode cX8_volumesAt 3 = .ok (.iconst 0, 1) := by decide +kernel
theorem dX8_volumesAt_4 : decode cX8_volumesAt 4 = .ok (.istore 6, 2) := by decide +kernel
theorem dX8_volumesAt_6 : decode cX8_volumesAt 6 = .ok (.iload 6, 2) := by decide +kernel
theorem dX8_volumesAt_8 : decode cX8_volumesAt 8 = .ok (.aload_n 0, 1) := by decide +kernel
theorem dX8_volumesAt_9 : decode cX8_volumesAt 9 = .ok (.getfield 13, 3) := by decide +kernel
theorem dX8_volumesAt_12 : decode cX8_volumesAt 12 = .ok (.iconst 2, 1) := by decide +kernel
theorem dX8_volumesAt_13 : decode cX8_volumesAt 13 = .ok (.iaload, 1) := by decide +kernel
theorem dX8_volumesAt_14 : decode cX8_volumesAt 14 = .ok (.if_icmp .ge 42, 3) := by decide +kernel
theorem dX8_volumesAt_17 : decode cX8_volumesAt 17 = .ok (.lload 4, 2) := by decide +kernel
theorem dX8_volumesAt_19 : decode cX8_volumesAt 19 = .ok (.aload_n 0, 1) := by decide +kernel
theorem dX8_volumesAt_20 : decode cX8_volumesAt 20 = .ok (.iload 6, 2) := by decide +kernel
theorem dX8_volumesAt_22 : decode cX8_volumesAt 22 = .ok (.iconst 0, 1) := by decide +kernel
theorem dX8_volumesAt_23 : decode cX8_volumesAt 23 = .ok (.invokevirtual 216, 3) := by decide +kernel
theorem dX8_volumesAt_26 : decode cX8_volumesAt 26 = .ok (.iload_n 1, 1) := by decide +kernel
theorem dX8_volumesAt_27 : decode cX8_volumesAt 27 = .ok (.if_icmp .ne 19, 3) := by decide +kernel
theorem dX8_volumesAt_30 : decode cX8_volumesAt 30 = .ok (.aload_n 0, 1) := by decide +kernel
theorem dX8_volumesAt_31 : decode cX8_volumesAt 31 = .ok (.iload 6, 2) := by decide +kernel
theorem dX8_volumesAt_33 : decode cX8_volumesAt 33 = .ok (.aload_n 0, 1) := by decide +kernel
theorem dX8_volumesAt_34 : decode cX8_volumesAt 34 = .ok (.iload 6, 2) := by decide +kernel
theorem dX8_volumesAt_36 : decode cX8_volumesAt 36 = .ok (.lload_n 2, 1) := by decide +kernel
theorem dX8_volumesAt_37 : decode cX8_volumesAt 37 = .ok (.invokevirtual 240, 3) := by decide +kernel
theorem dX8_volumesAt_40 : decode cX8_volumesAt 40 = .ok (.invokevirtual 243, 3) := by decide +kernel
theorem dX8_volumesAt_43 : decode cX8_volumesAt 43 = .ok (.goto 4, 3) := by decide +kernel
theorem dX8_volumesAt_46 : decode cX8_volumesAt 46 = .ok (.lconst 0, 1) := by decide +kernel
theorem dX8_volumesAt_47 : decode cX8_volumesAt 47 = .ok (.ladd, 1) := by decide +kernel
theorem dX8_volumesAt_48 : decode cX8_volumesAt 48 = .ok (.lstore 4, 2) := by decide +kernel
theorem dX8_volumesAt_50 : decode cX8_volumesAt 50 = .ok (.iinc 6 1, 3) := by decide +kernel
theorem dX8_volumesAt_53 : decode cX8_volumesAt 53 = .ok (.goto (-47), 3) := by decide +kernel
theorem dX8_volumesAt_56 : decode cX8_volumesAt 56 = .ok (.lload 4, 2) := by decide +kernel
theorem dX8_volumesAt_58 : decode cX8_volumesAt 58 = .ok (.lreturn, 1) := by decide +kernel
theorem dX8_floors_0 : decode cX8_floors 0 = .ok (.lload_n 0, 1) := by decide +kernel
theorem dX8_floors_1 : decode cX8_floors 1 = .ok (.lload_n 2, 1) := by decide +kernel
theorem dX8_floors_2 : decode cX8_floors 2 = .ok (.ldiv, 1) := by decide +kernel
theorem dX8_floors_3 : decode cX8_floors 3 = .ok (.lstore 4, 2) := by decide +kernel
theorem dX8_floors_5 : decode cX8_floors 5 = .ok (.lload_n 0, 1) := by decide +kernel
theorem dX8_floors_6 : decode cX8_floors 6 = .ok (.lload_n 2, 1) := by decide +kernel
theorem dX8_floors_7 : decode cX8_floors 7 = .ok (.lrem, 1) := by decide +kernel
theorem dX8_floors_8 : decode cX8_floors 8 = .ok (.lconst 0, 1) := by decide +kernel
theorem dX8_floors_9 : decode cX8_floors 9 = .ok (.lcmp, 1) := by decide +kernel
theorem dX8_floors_10 : decode cX8_floors 10 = .ok (.ifCond .ge 10, 3) := by decide +kernel
theorem dX8_floors_13 : decode cX8_floors 13 = .ok (.lload 4, 2) := by decide +kernel
theorem dX8_floors_15 : decode cX8_floors 15 = .ok (.lconst 1, 1) := by decide +kernel
theorem dX8_floors_16 : decode cX8_floors 16 = .ok (.lsub, 1) := by decide +kernel
theorem dX8_floors_17 : decode cX8_floors 17 = .ok (.goto 5, 3) := by decide +kernel
theorem dX8_floors_20 : decode cX8_floors 20 = .ok (.lload 4, 2) := by decide +kernel
theorem dX8_floors_22 : decode cX8_floors 22 = .ok (.lreturn, 1) := by decide +kernel
theorem dX8_levelOf_0 : decode cX8_levelOf 0 = .ok (.aload_n 0, 1) := by decide +kernel
theorem dX8_levelOf_1 : decode cX8_levelOf 1 = .ok (.iload_n 1, 1) := by decide +kernel
theorem dX8_levelOf_2 : decode cX8_levelOf 2 = .ok (.iconst 1, 1) := by decide +kernel
theorem dX8_levelOf_3 : decode cX8_levelOf 3 = .ok (.invokevirtual 219, 3) := by decide +kernel
theorem dX8_levelOf_6 : decode cX8_levelOf 6 = .ok (.i2l, 1) := by decide +kernel
theorem dX8_levelOf_7 : decode cX8_levelOf 7 = .ok (.lstore_n 2, 1) := by decide +kernel
theorem dX8_levelOf_8 : decode cX8_levelOf 8 = .ok (.lconst 0, 1) := by decide +kernel
theorem dX8_levelOf_9 : decode cX8_levelOf 9 = .ok (.lstore 4, 2) := by decide +kernel
theorem dX8_levelOf_11 : decode cX8_levelOf 11 = .ok (.iconst 0, 1) := by decide +kernel
theorem dX8_levelOf_12 : decode cX8_levelOf 12 = .ok (.istore 6, 2) := by decide +kernel
theorem dX8_levelOf_14 : decode cX8_levelOf 14 = .ok (.iload 6, 2) := by decide +kernel
theorem dX8_levelOf_16 : decode cX8_levelOf 16 = .ok (.aload_n 0, 1) := by decide +kernel
theorem dX8_levelOf_17 : decode cX8_levelOf 17 = .ok (.getfield 13, 3) := by decide +kernel
theorem dX8_levelOf_20 : decode cX8_levelOf 20 = .ok (.iconst 2, 1) := by decide +kernel
theorem dX8_levelOf_21 : decode cX8_levelOf 21 = .ok (.iaload, 1) := by decide +kernel
theorem dX8_levelOf_22 : decode cX8_levelOf 22 = .ok (.if_icmp .ge 42, 3) := by decide +kernel
theorem dX8_levelOf_25 : decode cX8_levelOf 25 = .ok (.lload 4, 2) := by decide +kernel
theorem dX8_levelOf_27 : decode cX8_levelOf 27 = .ok (.aload_n 0, 1) := by decide +kernel
theorem dX8_levelOf_28 : decode cX8_levelOf 28 = .ok (.iload 6, 2) := by decide +kernel
theorem dX8_levelOf_30 : decode cX8_levelOf 30 = .ok (.iconst 0, 1) := by decide +kernel
theorem dX8_levelOf_31 : decode cX8_levelOf 31 = .ok (.invokevirtual 216, 3) := by decide +kernel
theorem dX8_levelOf_34 : decode cX8_levelOf 34 = .ok (.iload_n 1, 1) := by decide +kernel
theorem dX8_levelOf_35 : decode cX8_levelOf 35 = .ok (.if_icmp .ne 19, 3) := by decide +kernel
theorem dX8_levelOf_38 : decode cX8_levelOf 38 = .ok (.aload_n 0, 1) := by decide +kernel
theorem dX8_levelOf_39 : decode cX8_levelOf 39 = .ok (.iload 6, 2) := by decide +kernel
theorem dX8_levelOf_41 : decode cX8_levelOf 41 = .ok (.aload_n 0, 1) := by decide +kernel
theorem dX8_levelOf_42 : decode cX8_levelOf 42 = .ok (.iload 6, 2) := by decide +kernel
theorem dX8_levelOf_44 : decode cX8_levelOf 44 = .ok (.invokevirtual 237, 3) := by decide +kernel
theorem dX8_levelOf_47 : decode cX8_levelOf 47 = .ok (.i2l, 1) := by decide +kernel
theorem dX8_levelOf_48 : decode cX8_levelOf 48 = .ok (.invokevirtual 243, 3) := by decide +kernel
theorem dX8_levelOf_51 : decode cX8_levelOf 51 = .ok (.goto 4, 3) := by decide +kernel
theorem dX8_levelOf_54 : decode cX8_levelOf 54 = .ok (.lconst 0, 1) := by decide +kernel
theorem dX8_levelOf_55 : decode cX8_levelOf 55 = .ok (.ladd, 1) := by decide +kernel
theorem dX8_levelOf_56 : decode cX8_levelOf 56 = .ok (.lstore 4, 2) := by decide +kernel
theorem dX8_levelOf_58 : decode cX8_levelOf 58 = .ok (.iinc 6 1, 3) := by decide +kernel
theorem dX8_levelOf_61 : decode cX8_levelOf 61 = .ok (.goto (-47), 3) := by decide +kernel
theorem dX8_levelOf_64 : decode cX8_levelOf 64 = .ok (.aload_n 0, 1) := by decide +kernel
theorem dX8_levelOf_65 : decode cX8_levelOf 65 = .ok (.getfield 26, 3) := by decide +kernel
theorem dX8_levelOf_68 : decode cX8_levelOf 68 = .ok (.iconst 0, 1) := by decide +kernel
theorem dX8_levelOf_69 : decode cX8_levelOf 69 = .ok (.iload_n 1, 1) := by decide +kernel
theorem dX8_levelOf_70 : decode cX8_levelOf 70 = .ok (.iadd, 1) := by decide +kernel
theorem dX8_levelOf_71 : decode cX8_levelOf 71 = .ok (.laload, 1) := by decide +kernel
theorem dX8_levelOf_72 : decode cX8_levelOf 72 = .ok (.lload 4, 2) := by decide +kernel
theorem dX8_levelOf_74 : decode cX8_levelOf 74 = .ok (.lsub, 1) := by decide +kernel
theorem dX8_levelOf_75 : decode cX8_levelOf 75 = .ok (.lload_n 2, 1) := by decide +kernel
theorem dX8_levelOf_76 : decode cX8_levelOf 76 = .ok (.invokestatic 246, 3) := by decide +kernel
theorem dX8_levelOf_79 : decode cX8_levelOf 79 = .ok (.lstore 6, 2) := by decide +kernel
theorem dX8_levelOf_81 : decode cX8_levelOf 81 = .ok (.aload_n 0, 1) := by decide +kernel
theorem dX8_levelOf_82 : decode cX8_levelOf 82 = .ok (.getfield 26, 3) := by decide +kernel
theorem dX8_levelOf_85 : decode cX8_levelOf 85 = .ok (.iconst 0, 1) := by decide +kernel
theorem dX8_levelOf_86 : decode cX8_levelOf 86 = .ok (.iload_n 1, 1) := by decide +kernel
theorem dX8_levelOf_87 : decode cX8_levelOf 87 = .ok (.iadd, 1) := by decide +kernel
theorem dX8_levelOf_88 : decode cX8_levelOf 88 = .ok (.laload, 1) := by decide +kernel
theorem dX8_levelOf_89 : decode cX8_levelOf 89 = .ok (.lload_n 2, 1) := by decide +kernel
theorem dX8_levelOf_90 : decode cX8_levelOf 90 = .ok (.invokestatic 246, 3) := by decide +kernel
theorem dX8_levelOf_93 : decode cX8_levelOf 93 = .ok (.lstore 8, 2) := by decide +kernel
theorem dX8_levelOf_95 : decode cX8_levelOf 95 = .ok (.lload 6, 2) := by decide +kernel
theorem dX8_levelOf_97 : decode cX8_levelOf 97 = .ok (.lload 8, 2) := by decide +kernel
theorem dX8_levelOf_99 : decode cX8_levelOf 99 = .ok (.lcmp, 1) := by decide +kernel
theorem dX8_levelOf_100 : decode cX8_levelOf 100 = .ok (.ifCond .ge 57, 3) := by decide +kernel
theorem dX8_levelOf_103 : decode cX8_levelOf 103 = .ok (.lload 8, 2) := by decide +kernel
theorem dX8_levelOf_105 : decode cX8_levelOf 105 = .ok (.lload 8, 2) := by decide +kernel
theorem dX8_levelOf_107 : decode cX8_levelOf 107 = .ok (.lload 6, 2) := by decide +kernel
theorem dX8_levelOf_109 : decode cX8_levelOf 109 = .ok (.lsub, 1) := by decide +kernel
theorem dX8_levelOf_110 : decode cX8_levelOf 110 = .ok (.ldc2_w 250, 3) := by decide +kernel
theorem dX8_levelOf_113 : decode cX8_levelOf 113 = .ok (.ldiv, 1) := by decide +kernel
theorem dX8_levelOf_114 : decode cX8_levelOf 114 = .ok (.lsub, 1) := by decide +kernel
theorem dX8_levelOf_115 : decode cX8_levelOf 115 = .ok (.lstore 10, 2) := by decide +kernel
theorem dX8_levelOf_117 : decode cX8_levelOf 117 = .ok (.lload_n 2, 1) := by decide +kernel
theorem dX8_levelOf_118 : decode cX8_levelOf 118 = .ok (.lload 10, 2) := by decide +kernel
theorem dX8_levelOf_120 : decode cX8_levelOf 120 = .ok (.lmul, 1) := by decide +kernel
theorem dX8_levelOf_121 : decode cX8_levelOf 121 = .ok (.aload_n 0, 1) := by decide +kernel
theorem dX8_levelOf_122 : decode cX8_levelOf 122 = .ok (.iload_n 1, 1) := by decide +kernel
theorem dX8_levelOf_123 : decode cX8_levelOf 123 = .ok (.lload 10, 2) := by decide +kernel
theorem dX8_levelOf_125 : decode cX8_levelOf 125 = .ok (.invokevirtual 252, 3) := by decide +kernel
theorem dX8_levelOf_128 : decode cX8_levelOf 128 = .ok (.ladd, 1) := by decide +kernel
theorem dX8_levelOf_129 : decode cX8_levelOf 129 = .ok (.aload_n 0, 1) := by decide +kernel
theorem dX8_levelOf_130 : decode cX8_levelOf 130 = .ok (.getfield 26, 3) := by decide +kernel
theorem dX8_levelOf_133 : decode cX8_levelOf 133 = .ok (.iconst 0, 1) := by decide +kernel
theorem dX8_levelOf_134 : decode cX8_levelOf 134 = .ok (.iload_n 1, 1) := by decide +kernel
theorem dX8_levelOf_135 : decode cX8_levelOf 135 = .ok (.iadd, 1) := by decide +kernel
theorem dX8_levelOf_136 : decode cX8_levelOf 136 = .ok (.laload, 1) := by decide +kernel
theorem dX8_levelOf_137 : decode cX8_levelOf 137 = .ok (.lcmp, 1) := by decide +kernel
theorem dX8_levelOf_138 : decode cX8_levelOf 138 = .ok (.ifCond .gt 10, 3) := by decide +kernel
theorem dX8_levelOf_141 : decode cX8_levelOf 141 = .ok (.lload 10, 2) := by decide +kernel
theorem dX8_levelOf_143 : decode cX8_levelOf 143 = .ok (.lstore 6, 2) := by decide +kernel
theorem dX8_levelOf_145 : decode cX8_levelOf 145 = .ok (.goto 9, 3) := by decide +kernel
theorem dX8_levelOf_148 : decode cX8_levelOf 148 = .ok (.lload 10, 2) := by decide +kernel
theorem dX8_levelOf_150 : decode cX8_levelOf 150 = .ok (.lconst 1, 1) := by decide +kernel
theorem dX8_levelOf_151 : decode cX8_levelOf 151 = .ok (.lsub, 1) := by decide +kernel
theorem dX8_levelOf_152 : decode cX8_levelOf 152 = .ok (.lstore 8, 2) := by decide +kernel
theorem dX8_levelOf_154 : decode cX8_levelOf 154 = .ok (.goto (-59), 3) := by decide +kernel
theorem dX8_levelOf_157 : decode cX8_levelOf 157 = .ok (.lload 6, 2) := by decide +kernel
theorem dX8_levelOf_159 : decode cX8_levelOf 159 = .ok (.lreturn, 1) := by decide +kernel
theorem dX8_columnOf_0 : decode cX8_columnOf 0 = .ok (.aload_n 0, 1) := by decide +kernel
theorem dX8_columnOf_1 : decode cX8_columnOf 1 = .ok (.iload_n 1, 1) := by decide +kernel
theorem dX8_columnOf_2 : decode cX8_columnOf 2 = .ok (.aload_n 0, 1) := by decide +kernel
theorem dX8_columnOf_3 : decode cX8_columnOf 3 = .ok (.aload_n 0, 1) := by decide +kernel
theorem dX8_columnOf_4 : decode cX8_columnOf 4 = .ok (.iload_n 1, 1) := by decide +kernel
theorem dX8_columnOf_5 : decode cX8_columnOf 5 = .ok (.iconst 0, 1) := by decide +kernel
theorem dX8_columnOf_6 : decode cX8_columnOf 6 = .ok (.invokevirtual 216, 3) := by decide +kernel
theorem dX8_columnOf_9 : decode cX8_columnOf 9 = .ok (.invokevirtual 255, 3) := by decide +kernel
theorem dX8_columnOf_12 : decode cX8_columnOf 12 = .ok (.invokevirtual 240, 3) := by decide +kernel
theorem dX8_columnOf_15 : decode cX8_columnOf 15 = .ok (.l2i, 1) := by decide +kernel
theorem dX8_columnOf_16 : decode cX8_columnOf 16 = .ok (.ireturn, 1) := by decide +kernel
theorem dX8_readingOf_0 : decode cX8_readingOf 0 = .ok (.aload_n 0, 1) := by decide +kernel
theorem dX8_readingOf_1 : decode cX8_readingOf 1 = .ok (.iload_n 1, 1) := by decide +kernel
theorem dX8_readingOf_2 : decode cX8_readingOf 2 = .ok (.invokevirtual 259, 3) := by decide +kernel
theorem dX8_readingOf_5 : decode cX8_readingOf 5 = .ok (.bipush 10, 2) := by decide +kernel
theorem dX8_readingOf_7 : decode cX8_readingOf 7 = .ok (.idiv, 1) := by decide +kernel
theorem dX8_readingOf_8 : decode cX8_readingOf 8 = .ok (.aload_n 0, 1) := by decide +kernel
theorem dX8_readingOf_9 : decode cX8_readingOf 9 = .ok (.iload_n 1, 1) := by decide +kernel
theorem dX8_readingOf_10 : decode cX8_readingOf 10 = .ok (.iconst 5, 1) := by decide +kernel
theorem dX8_readingOf_11 : decode cX8_readingOf 11 = .ok (.invokevirtual 216, 3) := by decide +kernel
theorem dX8_readingOf_14 : decode cX8_readingOf 14 = .ok (.iadd, 1) := by decide +kernel
theorem dX8_readingOf_15 : decode cX8_readingOf 15 = .ok (.ireturn, 1) := by decide +kernel
theorem dX8_breaks_0 : decode cX8_breaks 0 = .ok (.aload_n 0, 1) := by decide +kernel
theorem dX8_breaks_1 : decode cX8_breaks 1 = .ok (.iload_n 1, 1) := by decide +kernel
theorem dX8_breaks_2 : decode cX8_breaks 2 = .ok (.invokevirtual 255, 3) := by decide +kernel
theorem dX8_breaks_5 : decode cX8_breaks 5 = .ok (.lstore_n 2, 1) := by decide +kernel
theorem dX8_breaks_6 : decode cX8_breaks 6 = .ok (.iconst 0, 1) := by decide +kernel
theorem dX8_breaks_7 : decode cX8_breaks 7 = .ok (.istore 4, 2) := by decide +kernel
theorem dX8_breaks_9 : decode cX8_breaks 9 = .ok (.iconst 0, 1) := by decide +kernel
theorem dX8_breaks_10 : decode cX8_breaks 10 = .ok (.istore 5, 2) := by decide +kernel
theorem dX8_breaks_12 : decode cX8_breaks 12 = .ok (.iload 5, 2) := by decide +kernel
theorem dX8_breaks_14 : decode cX8_breaks 14 = .ok (.aload_n 0, 1) := by decide +kernel
theorem dX8_breaks_15 : decode cX8_breaks 15 = .ok (.getfield 13, 3) := by decide +kernel
theorem dX8_breaks_18 : decode cX8_breaks 18 = .ok (.iconst 2, 1) := by decide +kernel
theorem dX8_breaks_19 : decode cX8_breaks 19 = .ok (.iaload, 1) := by decide +kernel
theorem dX8_breaks_20 : decode cX8_breaks 20 = .ok (.if_icmp .ge 145, 3) := by decide +kernel
theorem dX8_breaks_23 : decode cX8_breaks 23 = .ok (.aload_n 0, 1) := by decide +kernel
theorem dX8_breaks_24 : decode cX8_breaks 24 = .ok (.iload 5, 2) := by decide +kernel
theorem dX8_breaks_26 : decode cX8_breaks 26 = .ok (.iconst 0, 1) := by decide +kernel
theorem dX8_breaks_27 : decode cX8_breaks 27 = .ok (.invokevirtual 216, 3) := by decide +kernel
theorem dX8_breaks_30 : decode cX8_breaks 30 = .ok (.iload_n 1, 1) := by decide +kernel
theorem dX8_breaks_31 : decode cX8_breaks 31 = .ok (.if_icmp .ne 128, 3) := by decide +kernel
theorem dX8_breaks_34 : decode cX8_breaks 34 = .ok (.aload_n 0, 1) := by decide +kernel
theorem dX8_breaks_35 : decode cX8_breaks 35 = .ok (.iload 5, 2) := by decide +kernel
theorem dX8_breaks_37 : decode cX8_breaks 37 = .ok (.invokevirtual 230, 3) := by decide +kernel
theorem dX8_breaks_40 : decode cX8_breaks 40 = .ok (.ifCond .ne 6, 3) := by decide +kernel
theorem dX8_breaks_43 : decode cX8_breaks 43 = .ok (.goto 116, 3) := by decide +kernel
theorem dX8_breaks_46 : decode cX8_breaks 46 = .ok (.aload_n 0, 1) := by decide +kernel
theorem dX8_breaks_47 : decode cX8_breaks 47 = .ok (.iload 5, 2) := by decide +kernel
theorem dX8_breaks_49 : decode cX8_breaks 49 = .ok (.lload_n 2, 1) := by decide +kernel
theorem dX8_breaks_50 : decode cX8_breaks 50 = .ok (.invokevirtual 233, 3) := by decide +kernel
theorem dX8_breaks_53 : decode cX8_breaks 53 = .ok (.lstore 6, 2) := by decide +kernel
theorem dX8_breaks_55 : decode cX8_breaks 55 = .ok (.lload 6, 2) := by decide +kernel
theorem dX8_breaks_57 : decode cX8_breaks 57 = .ok (.lconst 0, 1) := by decide +kernel
theorem dX8_breaks_58 : decode cX8_breaks 58 = .ok (.aload_n 0, 1) := by decide +kernel
theorem dX8_breaks_59 : decode cX8_breaks 59 = .ok (.iload 5, 2) := by decide +kernel
theorem dX8_breaks_61 : decode cX8_breaks 61 = .ok (.invokevirtual 237, 3) := by decide +kernel
theorem dX8_breaks_64 : decode cX8_breaks 64 = .ok (.i2l, 1) := by decide +kernel
theorem dX8_breaks_65 : decode cX8_breaks 65 = .ok (.invokestatic 142, 3) := by decide +kernel
theorem dX8_breaks_68 : decode cX8_breaks 68 = .ok (.ifCond .eq 6, 3) := by decide +kernel
theorem dX8_breaks_71 : decode cX8_breaks 71 = .ok (.goto 88, 3) := by decide +kernel
theorem dX8_breaks_74 : decode cX8_breaks 74 = .ok (.iinc 4 1, 3) := by decide +kernel
theorem dX8_breaks_77 : decode cX8_breaks 77 = .ok (.aload_n 0, 1) := by decide +kernel
theorem dX8_breaks_78 : decode cX8_breaks 78 = .ok (.getfield 13, 3) := by decide +kernel
theorem dX8_breaks_81 : decode cX8_breaks 81 = .ok (.iload 5, 2) := by decide +kernel
theorem dX8_breaks_83 : decode cX8_breaks 83 = .ok (.bipush 6, 2) := by decide +kernel
theorem dX8_breaks_85 : decode cX8_breaks 85 = .ok (.invokestatic 164, 3) := by decide +kernel
theorem dX8_breaks_88 : decode cX8_breaks 88 = .ok (.lload 6, 2) := by decide +kernel
theorem dX8_breaks_90 : decode cX8_breaks 90 = .ok (.lconst 0, 1) := by decide +kernel
theorem dX8_breaks_91 : decode cX8_breaks 91 = .ok (.lcmp, 1) := by decide +kernel
theorem dX8_breaks_92 : decode cX8_breaks 92 = .ok (.ifCond .ge 7, 3) := by decide +kernel
theorem dX8_breaks_95 : decode cX8_breaks 95 = .ok (.iconst 1, 1) := by decide +kernel
theorem dX8_breaks_96 : decode cX8_breaks 96 = .ok (.goto 4, 3) := by decide +kernel
theorem dX8_breaks_99 : decode cX8_breaks 99 = .ok (.iconst 2, 1) := by decide +kernel
theorem dX8_breaks_100 : decode cX8_breaks 100 = .ok (.iastore, 1) := by decide +kernel
theorem dX8_breaks_101 : decode cX8_breaks 101 = .ok (.lload 6, 2) := by decide +kernel
theorem dX8_breaks_103 : decode cX8_breaks 103 = .ok (.lconst 0, 1) := by decide +kernel
theorem dX8_breaks_104 : decode cX8_breaks 104 = .ok (.lcmp, 1) := by decide +kernel
theorem dX8_breaks_105 : decode cX8_breaks 105 = .ok (.ifCond .ge 6, 3) := by decide +kernel
theorem dX8_breaks_108 : decode cX8_breaks 108 = .ok (.goto 51, 3) := by decide +kernel
theorem dX8_breaks_111 : decode cX8_breaks 111 = .ok (.aload_n 0, 1) := by decide +kernel
theorem dX8_breaks_112 : decode cX8_breaks 112 = .ok (.getfield 26, 3) := by decide +kernel
theorem dX8_breaks_115 : decode cX8_breaks 115 = .ok (.iconst 0, 1) := by decide +kernel
theorem dX8_breaks_116 : decode cX8_breaks 116 = .ok (.iload_n 1, 1) := by decide +kernel
theorem dX8_breaks_117 : decode cX8_breaks 117 = .ok (.iadd, 1) := by decide +kernel
theorem dX8_breaks_118 : decode cX8_breaks 118 = .ok (.dup2, 1) := by decide +kernel
theorem dX8_breaks_119 : decode cX8_breaks 119 = .ok (.laload, 1) := by decide +kernel
theorem dX8_breaks_120 : decode cX8_breaks 120 = .ok (.aload_n 0, 1) := by decide +kernel
theorem dX8_breaks_121 : decode cX8_breaks 121 = .ok (.iload 5, 2) := by decide +kernel
theorem dX8_breaks_123 : decode cX8_breaks 123 = .ok (.aload_n 0, 1) := by decide +kernel
theorem dX8_breaks_124 : decode cX8_breaks 124 = .ok (.iload 5, 2) := by decide +kernel
theorem dX8_breaks_126 : decode cX8_breaks 126 = .ok (.invokevirtual 237, 3) := by decide +kernel
theorem dX8_breaks_129 : decode cX8_breaks 129 = .ok (.i2l, 1) := by decide +kernel
theorem dX8_breaks_130 : decode cX8_breaks 130 = .ok (.invokevirtual 243, 3) := by decide +kernel
theorem dX8_breaks_133 : decode cX8_breaks 133 = .ok (.lsub, 1) := by decide +kernel
theorem dX8_breaks_134 : decode cX8_breaks 134 = .ok (.lastore, 1) := by decide +kernel
theorem dX8_breaks_135 : decode cX8_breaks 135 = .ok (.aload_n 0, 1) := by decide +kernel
theorem dX8_breaks_136 : decode cX8_breaks 136 = .ok (.getfield 26, 3) := by decide +kernel
theorem dX8_breaks_139 : decode cX8_breaks 139 = .ok (.iconst 2, 1) := by decide +kernel
theorem dX8_breaks_140 : decode cX8_breaks 140 = .ok (.iload_n 1, 1) := by decide +kernel
theorem dX8_breaks_141 : decode cX8_breaks 141 = .ok (.iadd, 1) := by decide +kernel
theorem dX8_breaks_142 : decode cX8_breaks 142 = .ok (.dup2, 1) := by decide +kernel
theorem dX8_breaks_143 : decode cX8_breaks 143 = .ok (.laload, 1) := by decide +kernel
theorem dX8_breaks_144 : decode cX8_breaks 144 = .ok (.aload_n 0, 1) := by decide +kernel
theorem dX8_breaks_145 : decode cX8_breaks 145 = .ok (.iload 5, 2) := by decide +kernel
theorem dX8_breaks_147 : decode cX8_breaks 147 = .ok (.aload_n 0, 1) := by decide +kernel
theorem dX8_breaks_148 : decode cX8_breaks 148 = .ok (.iload 5, 2) := by decide +kernel
theorem dX8_breaks_150 : decode cX8_breaks 150 = .ok (.invokevirtual 237, 3) := by decide +kernel
theorem dX8_breaks_153 : decode cX8_breaks 153 = .ok (.i2l, 1) := by decide +kernel
theorem dX8_breaks_154 : decode cX8_breaks 154 = .ok (.invokevirtual 243, 3) := by decide +kernel
theorem dX8_breaks_157 : decode cX8_breaks 157 = .ok (.ladd, 1) := by decide +kernel
theorem dX8_breaks_158 : decode cX8_breaks 158 = .ok (.lastore, 1) := by decide +kernel
theorem dX8_breaks_159 : decode cX8_breaks 159 = .ok (.iinc 5 1, 3) := by decide +kernel
theorem dX8_breaks_162 : decode cX8_breaks 162 = .ok (.goto (-150), 3) := by decide +kernel
theorem dX8_breaks_165 : decode cX8_breaks 165 = .ok (.iload 4, 2) := by decide +kernel
theorem dX8_breaks_167 : decode cX8_breaks 167 = .ok (.ireturn, 1) := by decide +kernel
theorem dX8_settles_0 : decode cX8_settles 0 = .ok (.iconst 0, 1) := by decide +kernel
theorem dX8_settles_1 : decode cX8_settles 1 = .ok (.istore_n 1, 1) := by decide +kernel
theorem dX8_settles_2 : decode cX8_settles 2 = .ok (.iconst 0, 1) := by decide +kernel
theorem dX8_settles_3 : decode cX8_settles 3 = .ok (.istore_n 2, 1) := by decide +kernel
theorem dX8_settles_4 : decode cX8_settles 4 = .ok (.iload_n 2, 1) := by decide +kernel
theorem dX8_settles_5 : decode cX8_settles 5 = .ok (.iconst 2, 1) := by decide +kernel
theorem dX8_settles_6 : decode cX8_settles 6 = .ok (.if_icmp .ge 32, 3) := by decide +kernel
theorem dX8_settles_9 : decode cX8_settles 9 = .ok (.aload_n 0, 1) := by decide +kernel
theorem dX8_settles_10 : decode cX8_settles 10 = .ok (.iload_n 2, 1) := by decide +kernel
theorem dX8_settles_11 : decode cX8_settles 11 = .ok (.invokevirtual 262, 3) := by decide +kernel
theorem dX8_settles_14 : decode cX8_settles 14 = .ok (.istore_n 3, 1) := by decide +kernel
theorem dX8_settles_15 : decode cX8_settles 15 = .ok (.iload_n 3, 1) := by decide +kernel
theorem dX8_settles_16 : decode cX8_settles 16 = .ok (.ifCond .le 16, 3) := by decide +kernel
theorem dX8_settles_19 : decode cX8_settles 19 = .ok (.iload_n 1, 1) := by decide +kernel
theorem dX8_settles_20 : decode cX8_settles 20 = .ok (.iload_n 3, 1) := by decide +kernel
theorem dX8_settles_21 : decode cX8_settles 21 = .ok (.iadd, 1) := by decide +kernel
theorem dX8_settles_22 : decode cX8_settles 22 = .ok (.istore_n 1, 1) := by decide +kernel
theorem dX8_settles_23 : decode cX8_settles 23 = .ok (.aload_n 0, 1) := by decide +kernel
theorem dX8_settles_24 : decode cX8_settles 24 = .ok (.iload_n 2, 1) := by decide +kernel
theorem dX8_settles_25 : decode cX8_settles 25 = .ok (.invokevirtual 262, 3) := by decide +kernel
theorem dX8_settles_28 : decode cX8_settles 28 = .ok (.istore_n 3, 1) := by decide +kernel
theorem dX8_settles_29 : decode cX8_settles 29 = .ok (.goto (-14), 3) := by decide +kernel
theorem dX8_settles_32 : decode cX8_settles 32 = .ok (.iinc 2 1, 3) := by decide +kernel
theorem dX8_settles_35 : decode cX8_settles 35 = .ok (.goto (-31), 3) := by decide +kernel
theorem dX8_settles_38 : decode cX8_settles 38 = .ok (.iload_n 1, 1) := by decide +kernel
theorem dX8_settles_39 : decode cX8_settles 39 = .ok (.ireturn, 1) := by decide +kernel
theorem dX8_upright_0 : decode cX8_upright 0 = .ok (.aload_n 0, 1) := by decide +kernel
theorem dX8_upright_1 : decode cX8_upright 1 = .ok (.iload_n 1, 1) := by decide +kernel
theorem dX8_upright_2 : decode cX8_upright 2 = .ok (.invokevirtual 259, 3) := by decide +kernel
theorem dX8_upright_5 : decode cX8_upright 5 = .ok (.i2l, 1) := by decide +kernel
theorem dX8_upright_6 : decode cX8_upright 6 = .ok (.aload_n 0, 1) := by decide +kernel
theorem dX8_upright_7 : decode cX8_upright 7 = .ok (.iload_n 1, 1) := by decide +kernel
theorem dX8_upright_8 : decode cX8_upright 8 = .ok (.iconst 3, 1) := by decide +kernel
theorem dX8_upright_9 : decode cX8_upright 9 = .ok (.invokevirtual 216, 3) := by decide +kernel
theorem dX8_upright_12 : decode cX8_upright 12 = .ok (.i2l, 1) := by decide +kernel
theorem dX8_upright_13 : decode cX8_upright 13 = .ok (.lmul, 1) := by decide +kernel
theorem dX8_upright_14 : decode cX8_upright 14 = .ok (.ldc2_w 228, 3) := by decide +kernel
theorem dX8_upright_17 : decode cX8_upright 17 = .ok (.ldiv, 1) := by decide +kernel
theorem dX8_upright_18 : decode cX8_upright 18 = .ok (.lreturn, 1) := by decide +kernel
theorem dX8_toldBy_0 : decode cX8_toldBy 0 = .ok (.aload_n 0, 1) := by decide +kernel
theorem dX8_toldBy_1 : decode cX8_toldBy 1 = .ok (.iload_n 1, 1) := by decide +kernel
theorem dX8_toldBy_2 : decode cX8_toldBy 2 = .ok (.iconst 0, 1) := by decide +kernel
theorem dX8_toldBy_3 : decode cX8_toldBy 3 = .ok (.invokevirtual 216, 3) := by decide +kernel
theorem dX8_toldBy_6 : decode cX8_toldBy 6 = .ok (.istore_n 2, 1) := by decide +kernel
theorem dX8_toldBy_7 : decode cX8_toldBy 7 = .ok (.aload_n 0, 1) := by decide +kernel
theorem dX8_toldBy_8 : decode cX8_toldBy 8 = .ok (.iload_n 1, 1) := by decide +kernel
theorem dX8_toldBy_9 : decode cX8_toldBy 9 = .ok (.invokevirtual 265, 3) := by decide +kernel
theorem dX8_toldBy_12 : decode cX8_toldBy 12 = .ok (.aload_n 0, 1) := by decide +kernel
theorem dX8_toldBy_13 : decode cX8_toldBy 13 = .ok (.iload_n 2, 1) := by decide +kernel
theorem dX8_toldBy_14 : decode cX8_toldBy 14 = .ok (.invokevirtual 255, 3) := by decide +kernel
theorem dX8_toldBy_17 : decode cX8_toldBy 17 = .ok (.lsub, 1) := by decide +kernel
theorem dX8_toldBy_18 : decode cX8_toldBy 18 = .ok (.aload_n 0, 1) := by decide +kernel
theorem dX8_toldBy_19 : decode cX8_toldBy 19 = .ok (.iload_n 1, 1) := by decide +kernel
theorem dX8_toldBy_20 : decode cX8_toldBy 20 = .ok (.invokevirtual 225, 3) := by decide +kernel
theorem dX8_toldBy_23 : decode cX8_toldBy 23 = .ok (.i2l, 1) := by decide +kernel
theorem dX8_toldBy_24 : decode cX8_toldBy 24 = .ok (.lsub, 1) := by decide +kernel
theorem dX8_toldBy_25 : decode cX8_toldBy 25 = .ok (.lstore_n 3, 1) := by decide +kernel
theorem dX8_toldBy_26 : decode cX8_toldBy 26 = .ok (.aload_n 0, 1) := by decide +kernel
theorem dX8_toldBy_27 : decode cX8_toldBy 27 = .ok (.getfield 13, 3) := by decide +kernel
theorem dX8_toldBy_30 : decode cX8_toldBy 30 = .ok (.iconst 1, 1) := by decide +kernel
theorem dX8_toldBy_31 : decode cX8_toldBy 31 = .ok (.iaload, 1) := by decide +kernel
theorem dX8_toldBy_32 : decode cX8_toldBy 32 = .ok (.i2l, 1) := by decide +kernel
theorem dX8_toldBy_33 : decode cX8_toldBy 33 = .ok (.lload_n 3, 1) := by decide +kernel
theorem dX8_toldBy_34 : decode cX8_toldBy 34 = .ok (.aload_n 0, 1) := by decide +kernel
theorem dX8_toldBy_35 : decode cX8_toldBy 35 = .ok (.iload_n 2, 1) := by decide +kernel
theorem dX8_toldBy_36 : decode cX8_toldBy 36 = .ok (.iconst 0, 1) := by decide +kernel
theorem dX8_toldBy_37 : decode cX8_toldBy 37 = .ok (.invokevirtual 219, 3) := by decide +kernel
theorem dX8_toldBy_40 : decode cX8_toldBy 40 = .ok (.i2l, 1) := by decide +kernel
theorem dX8_toldBy_41 : decode cX8_toldBy 41 = .ok (.lmul, 1) := by decide +kernel
theorem dX8_toldBy_42 : decode cX8_toldBy 42 = .ok (.ldc2_w 228, 3) := by decide +kernel
theorem dX8_toldBy_45 : decode cX8_toldBy 45 = .ok (.ldiv, 1) := by decide +kernel
theorem dX8_toldBy_46 : decode cX8_toldBy 46 = .ok (.lsub, 1) := by decide +kernel
theorem dX8_toldBy_47 : decode cX8_toldBy 47 = .ok (.l2i, 1) := by decide +kernel
theorem dX8_toldBy_48 : decode cX8_toldBy 48 = .ok (.ireturn, 1) := by decide +kernel
theorem dX8_differenceOf_0 : decode cX8_differenceOf 0 = .ok (.aload_n 0, 1) := by decide +kernel
theorem dX8_differenceOf_1 : decode cX8_differenceOf 1 = .ok (.iload_n 1, 1) := by decide +kernel
theorem dX8_differenceOf_2 : decode cX8_differenceOf 2 = .ok (.iconst 0, 1) := by decide +kernel
theorem dX8_differenceOf_3 : decode cX8_differenceOf 3 = .ok (.invokevirtual 216, 3) := by decide +kernel
theorem dX8_differenceOf_6 : decode cX8_differenceOf 6 = .ok (.aload_n 0, 1) := by decide +kernel
theorem dX8_differenceOf_7 : decode cX8_differenceOf 7 = .ok (.iload_n 2, 1) := by decide +kernel
theorem dX8_differenceOf_8 : decode cX8_differenceOf 8 = .ok (.iconst 0, 1) := by decide +kernel
theorem dX8_differenceOf_9 : decode cX8_differenceOf 9 = .ok (.invokevirtual 216, 3) := by decide +kernel
theorem dX8_differenceOf_12 : decode cX8_differenceOf 12 = .ok (.if_icmp .eq 15, 3) := by decide +kernel
theorem dX8_differenceOf_15 : decode cX8_differenceOf 15 = .ok (.aload_n 0, 1) := by decide +kernel
theorem dX8_differenceOf_16 : decode cX8_differenceOf 16 = .ok (.iload_n 1, 1) := by decide +kernel
theorem dX8_differenceOf_17 : decode cX8_differenceOf 17 = .ok (.invokevirtual 268, 3) := by decide +kernel
theorem dX8_differenceOf_20 : decode cX8_differenceOf 20 = .ok (.aload_n 0, 1) := by decide +kernel
theorem dX8_differenceOf_21 : decode cX8_differenceOf 21 = .ok (.iload_n 2, 1) := by decide +kernel
theorem dX8_differenceOf_22 : decode cX8_differenceOf 22 = .ok (.invokevirtual 268, 3) := by decide +kernel
theorem dX8_differenceOf_25 : decode cX8_differenceOf 25 = .ok (.isub, 1) := by decide +kernel
theorem dX8_differenceOf_26 : decode cX8_differenceOf 26 = .ok (.ireturn, 1) := by decide +kernel
theorem dX8_differenceOf_27 : decode cX8_differenceOf 27 = .ok (.aload_n 0, 1) := by decide +kernel
theorem dX8_differenceOf_28 : decode cX8_differenceOf 28 = .ok (.iload_n 2, 1) := by decide +kernel
theorem dX8_differenceOf_29 : decode cX8_differenceOf 29 = .ok (.invokevirtual 265, 3) := by decide +kernel
theorem dX8_differenceOf_32 : decode cX8_differenceOf 32 = .ok (.aload_n 0, 1) := by decide +kernel
theorem dX8_differenceOf_33 : decode cX8_differenceOf 33 = .ok (.iload_n 1, 1) := by decide +kernel
theorem dX8_differenceOf_34 : decode cX8_differenceOf 34 = .ok (.invokevirtual 265, 3) := by decide +kernel
theorem dX8_differenceOf_37 : decode cX8_differenceOf 37 = .ok (.lsub, 1) := by decide +kernel
theorem dX8_differenceOf_38 : decode cX8_differenceOf 38 = .ok (.aload_n 0, 1) := by decide +kernel
theorem dX8_differenceOf_39 : decode cX8_differenceOf 39 = .ok (.iload_n 2, 1) := by decide +kernel
theorem dX8_differenceOf_40 : decode cX8_differenceOf 40 = .ok (.invokevirtual 225, 3) := by decide +kernel
theorem dX8_differenceOf_43 : decode cX8_differenceOf 43 = .ok (.i2l, 1) := by decide +kernel
theorem dX8_differenceOf_44 : decode cX8_differenceOf 44 = .ok (.lsub, 1) := by decide +kernel
theorem dX8_differenceOf_45 : decode cX8_differenceOf 45 = .ok (.aload_n 0, 1) := by decide +kernel
theorem dX8_differenceOf_46 : decode cX8_differenceOf 46 = .ok (.iload_n 1, 1) := by decide +kernel
theorem dX8_differenceOf_47 : decode cX8_differenceOf 47 = .ok (.invokevirtual 225, 3) := by decide +kernel
theorem dX8_differenceOf_50 : decode cX8_differenceOf 50 = .ok (.i2l, 1) := by decide +kernel
theorem dX8_differenceOf_51 : decode cX8_differenceOf 51 = .ok (.ladd, 1) := by decide +kernel
theorem dX8_differenceOf_52 : decode cX8_differenceOf 52 = .ok (.lstore_n 3, 1) := by decide +kernel
theorem dX8_differenceOf_53 : decode cX8_differenceOf 53 = .ok (.lload_n 3, 1) := by decide +kernel
theorem dX8_differenceOf_54 : decode cX8_differenceOf 54 = .ok (.aload_n 0, 1) := by decide +kernel
theorem dX8_differenceOf_55 : decode cX8_differenceOf 55 = .ok (.aload_n 0, 1) := by decide +kernel
theorem dX8_differenceOf_56 : decode cX8_differenceOf 56 = .ok (.iload_n 1, 1) := by decide +kernel
theorem dX8_differenceOf_57 : decode cX8_differenceOf 57 = .ok (.iconst 0, 1) := by decide +kernel
theorem dX8_differenceOf_58 : decode cX8_differenceOf 58 = .ok (.invokevirtual 216, 3) := by decide +kernel
theorem dX8_differenceOf_61 : decode cX8_differenceOf 61 = .ok (.iconst 0, 1) := by decide +kernel
theorem dX8_differenceOf_62 : decode cX8_differenceOf 62 = .ok (.invokevirtual 219, 3) := by decide +kernel
theorem dX8_differenceOf_65 : decode cX8_differenceOf 65 = .ok (.i2l, 1) := by decide +kernel
theorem dX8_differenceOf_66 : decode cX8_differenceOf 66 = .ok (.lmul, 1) := by decide +kernel
theorem dX8_differenceOf_67 : decode cX8_differenceOf 67 = .ok (.ldc2_w 228, 3) := by decide +kernel
theorem dX8_differenceOf_70 : decode cX8_differenceOf 70 = .ok (.ldiv, 1) := by decide +kernel
theorem dX8_differenceOf_71 : decode cX8_differenceOf 71 = .ok (.l2i, 1) := by decide +kernel
theorem dX8_differenceOf_72 : decode cX8_differenceOf 72 = .ok (.ireturn, 1) := by decide +kernel
theorem dX8_inLeg_0 : decode cX8_inLeg 0 = .ok (.iconst 0, 1) := by decide +kernel
theorem dX8_inLeg_1 : decode cX8_inLeg 1 = .ok (.istore_n 2, 1) := by decide +kernel
theorem dX8_inLeg_2 : decode cX8_inLeg 2 = .ok (.iconst 0, 1) := by decide +kernel
theorem dX8_inLeg_3 : decode cX8_inLeg 3 = .ok (.istore_n 3, 1) := by decide +kernel
theorem dX8_inLeg_4 : decode cX8_inLeg 4 = .ok (.iload_n 3, 1) := by decide +kernel
theorem dX8_inLeg_5 : decode cX8_inLeg 5 = .ok (.aload_n 0, 1) := by decide +kernel
theorem dX8_inLeg_6 : decode cX8_inLeg 6 = .ok (.getfield 13, 3) := by decide +kernel
theorem dX8_inLeg_9 : decode cX8_inLeg 9 = .ok (.iconst 2, 1) := by decide +kernel
theorem dX8_inLeg_10 : decode cX8_inLeg 10 = .ok (.iaload, 1) := by decide +kernel
theorem dX8_inLeg_11 : decode cX8_inLeg 11 = .ok (.if_icmp .ge 27, 3) := by decide +kernel
theorem dX8_inLeg_14 : decode cX8_inLeg 14 = .ok (.iload_n 2, 1) := by decide +kernel
theorem dX8_inLeg_15 : decode cX8_inLeg 15 = .ok (.aload_n 0, 1) := by decide +kernel
theorem dX8_inLeg_16 : decode cX8_inLeg 16 = .ok (.iload_n 3, 1) := by decide +kernel
theorem dX8_inLeg_17 : decode cX8_inLeg 17 = .ok (.iconst 0, 1) := by decide +kernel
theorem dX8_inLeg_18 : decode cX8_inLeg 18 = .ok (.invokevirtual 216, 3) := by decide +kernel
theorem dX8_inLeg_21 : decode cX8_inLeg 21 = .ok (.iload_n 1, 1) := by decide +kernel
theorem dX8_inLeg_22 : decode cX8_inLeg 22 = .ok (.if_icmp .ne 7, 3) := by decide +kernel
theorem dX8_inLeg_25 : decode cX8_inLeg 25 = .ok (.iconst 1, 1) := by decide +kernel
theorem dX8_inLeg_26 : decode cX8_inLeg 26 = .ok (.goto 4, 3) := by decide +kernel
theorem dX8_inLeg_29 : decode cX8_inLeg 29 = .ok (.iconst 0, 1) := by decide +kernel
theorem dX8_inLeg_30 : decode cX8_inLeg 30 = .ok (.iadd, 1) := by decide +kernel
theorem dX8_inLeg_31 : decode cX8_inLeg 31 = .ok (.istore_n 2, 1) := by decide +kernel
theorem dX8_inLeg_32 : decode cX8_inLeg 32 = .ok (.iinc 3 1, 3) := by decide +kernel
theorem dX8_inLeg_35 : decode cX8_inLeg 35 = .ok (.goto (-31), 3) := by decide +kernel
theorem dX8_inLeg_38 : decode cX8_inLeg 38 = .ok (.iload_n 2, 1) := by decide +kernel
theorem dX8_inLeg_39 : decode cX8_inLeg 39 = .ok (.ireturn, 1) := by decide +kernel
theorem dX8_size_0 : decode cX8_size 0 = .ok (.aload_n 0, 1) := by decide +kernel
theorem dX8_size_1 : decode cX8_size 1 = .ok (.iconst 0, 1) := by decide +kernel
theorem dX8_size_2 : decode cX8_size 2 = .ok (.putfield 1, 3) := by decide +kernel
theorem dX8_size_5 : decode cX8_size 5 = .ok (.aload_n 0, 1) := by decide +kernel
theorem dX8_size_6 : decode cX8_size 6 = .ok (.iload_n 1, 1) := by decide +kernel
theorem dX8_size_7 : decode cX8_size 7 = .ok (.i2l, 1) := by decide +kernel
theorem dX8_size_8 : decode cX8_size 8 = .ok (.lconst 0, 1) := by decide +kernel
theorem dX8_size_9 : decode cX8_size 9 = .ok (.ldc2_w 271, 3) := by decide +kernel
theorem dX8_size_12 : decode cX8_size 12 = .ok (.invokestatic 142, 3) := by decide +kernel
theorem dX8_size_15 : decode cX8_size 15 = .ok (.iconst 1, 1) := by decide +kernel
theorem dX8_size_16 : decode cX8_size 16 = .ok (.invokevirtual 187, 3) := by decide +kernel
theorem dX8_size_19 : decode cX8_size 19 = .ok (.ifCond .eq 5, 3) := by decide +kernel
theorem dX8_size_22 : decode cX8_size 22 = .ok (.iconst 0, 1) := by decide +kernel
theorem dX8_size_23 : decode cX8_size 23 = .ok (.ireturn, 1) := by decide +kernel
theorem dX8_size_24 : decode cX8_size 24 = .ok (.iload_n 1, 1) := by decide +kernel
theorem dX8_size_25 : decode cX8_size 25 = .ok (.tableswitch 78 0 5 #[39, 46, 53, 60, 66, 72], 39) := by decide +kernel
theorem dX8_size_64 : decode cX8_size 64 = .ok (.aload_n 0, 1) := by decide +kernel
theorem dX8_size_65 : decode cX8_size 65 = .ok (.getfield 13, 3) := by decide +kernel
theorem dX8_size_68 : decode cX8_size 68 = .ok (.iconst 0, 1) := by decide +kernel
theorem dX8_size_69 : decode cX8_size 69 = .ok (.iaload, 1) := by decide +kernel
theorem dX8_size_70 : decode cX8_size 70 = .ok (.ireturn, 1) := by decide +kernel
theorem dX8_size_71 : decode cX8_size 71 = .ok (.aload_n 0, 1) := by decide +kernel
theorem dX8_size_72 : decode cX8_size 72 = .ok (.getfield 13, 3) := by decide +kernel
theorem dX8_size_75 : decode cX8_size 75 = .ok (.iconst 1, 1) := by decide +kernel
theorem dX8_size_76 : decode cX8_size 76 = .ok (.iaload, 1) := by decide +kernel
theorem dX8_size_77 : decode cX8_size 77 = .ok (.ireturn, 1) := by decide +kernel
theorem dX8_size_78 : decode cX8_size 78 = .ok (.aload_n 0, 1) := by decide +kernel
theorem dX8_size_79 : decode cX8_size 79 = .ok (.getfield 13, 3) := by decide +kernel
theorem dX8_size_82 : decode cX8_size 82 = .ok (.iconst 2, 1) := by decide +kernel
theorem dX8_size_83 : decode cX8_size 83 = .ok (.iaload, 1) := by decide +kernel
theorem dX8_size_84 : decode cX8_size 84 = .ok (.ireturn, 1) := by decide +kernel
theorem dX8_size_85 : decode cX8_size 85 = .ok (.aload_n 0, 1) := by decide +kernel
theorem dX8_size_86 : decode cX8_size 86 = .ok (.iconst 0, 1) := by decide +kernel
theorem dX8_size_87 : decode cX8_size 87 = .ok (.invokevirtual 213, 3) := by decide +kernel
theorem dX8_size_90 : decode cX8_size 90 = .ok (.ireturn, 1) := by decide +kernel
theorem dX8_size_91 : decode cX8_size 91 = .ok (.aload_n 0, 1) := by decide +kernel
theorem dX8_size_92 : decode cX8_size 92 = .ok (.iconst 1, 1) := by decide +kernel
theorem dX8_size_93 : decode cX8_size 93 = .ok (.invokevirtual 213, 3) := by decide +kernel
theorem dX8_size_96 : decode cX8_size 96 = .ok (.ireturn, 1) := by decide +kernel
theorem dX8_size_97 : decode cX8_size 97 = .ok (.aload_n 0, 1) := by decide +kernel
theorem dX8_size_98 : decode cX8_size 98 = .ok (.iconst 2, 1) := by decide +kernel
theorem dX8_size_99 : decode cX8_size 99 = .ok (.invokevirtual 213, 3) := by decide +kernel
theorem dX8_size_102 : decode cX8_size 102 = .ok (.ireturn, 1) := by decide +kernel
theorem dX8_size_103 : decode cX8_size 103 = .ok (.aload_n 0, 1) := by decide +kernel
theorem dX8_size_104 : decode cX8_size 104 = .ok (.iload_n 1, 1) := by decide +kernel
theorem dX8_size_105 : decode cX8_size 105 = .ok (.bipush 6, 2) := by decide +kernel
theorem dX8_size_107 : decode cX8_size 107 = .ok (.isub, 1) := by decide +kernel
theorem dX8_size_108 : decode cX8_size 108 = .ok (.invokevirtual 273, 3) := by decide +kernel
theorem dX8_size_111 : decode cX8_size 111 = .ok (.ireturn, 1) := by decide +kernel
theorem dX8_isPoint_0 : decode cX8_isPoint 0 = .ok (.iload_n 1, 1) := by decide +kernel
theorem dX8_isPoint_1 : decode cX8_isPoint 1 = .ok (.i2l, 1) := by decide +kernel
theorem dX8_isPoint_2 : decode cX8_isPoint 2 = .ok (.lconst 0, 1) := by decide +kernel
theorem dX8_isPoint_3 : decode cX8_isPoint 3 = .ok (.aload_n 0, 1) := by decide +kernel
theorem dX8_isPoint_4 : decode cX8_isPoint 4 = .ok (.getfield 13, 3) := by decide +kernel
theorem dX8_isPoint_7 : decode cX8_isPoint 7 = .ok (.iconst 0, 1) := by decide +kernel
theorem dX8_isPoint_8 : decode cX8_isPoint 8 = .ok (.iaload, 1) := by decide +kernel
theorem dX8_isPoint_9 : decode cX8_isPoint 9 = .ok (.iconst 1, 1) := by decide +kernel
theorem dX8_isPoint_10 : decode cX8_isPoint 10 = .ok (.isub, 1) := by decide +kernel
theorem dX8_isPoint_11 : decode cX8_isPoint 11 = .ok (.i2l, 1) := by decide +kernel
theorem dX8_isPoint_12 : decode cX8_isPoint 12 = .ok (.invokestatic 142, 3) := by decide +kernel
theorem dX8_isPoint_15 : decode cX8_isPoint 15 = .ok (.ireturn, 1) := by decide +kernel
theorem dX8_isLeg_0 : decode cX8_isLeg 0 = .ok (.iload_n 0, 1) := by decide +kernel
theorem dX8_isLeg_1 : decode cX8_isLeg 1 = .ok (.i2l, 1) := by decide +kernel
theorem dX8_isLeg_2 : decode cX8_isLeg 2 = .ok (.lconst 0, 1) := by decide +kernel
theorem dX8_isLeg_3 : decode cX8_isLeg 3 = .ok (.lconst 1, 1) := by decide +kernel
theorem dX8_isLeg_4 : decode cX8_isLeg 4 = .ok (.invokestatic 142, 3) := by decide +kernel
theorem dX8_isLeg_7 : decode cX8_isLeg 7 = .ok (.ireturn, 1) := by decide +kernel
theorem dX8_isTube_0 : decode cX8_isTube 0 = .ok (.iload_n 1, 1) := by decide +kernel
theorem dX8_isTube_1 : decode cX8_isTube 1 = .ok (.i2l, 1) := by decide +kernel
theorem dX8_isTube_2 : decode cX8_isTube 2 = .ok (.lconst 0, 1) := by decide +kernel
theorem dX8_isTube_3 : decode cX8_isTube 3 = .ok (.aload_n 0, 1) := by decide +kernel
theorem dX8_isTube_4 : decode cX8_isTube 4 = .ok (.getfield 13, 3) := by decide +kernel
theorem dX8_isTube_7 : decode cX8_isTube 7 = .ok (.iconst 2, 1) := by decide +kernel
theorem dX8_isTube_8 : decode cX8_isTube 8 = .ok (.iaload, 1) := by decide +kernel
theorem dX8_isTube_9 : decode cX8_isTube 9 = .ok (.iconst 1, 1) := by decide +kernel
theorem dX8_isTube_10 : decode cX8_isTube 10 = .ok (.isub, 1) := by decide +kernel
theorem dX8_isTube_11 : decode cX8_isTube 11 = .ok (.i2l, 1) := by decide +kernel
theorem dX8_isTube_12 : decode cX8_isTube 12 = .ok (.invokestatic 142, 3) := by decide +kernel
theorem dX8_isTube_15 : decode cX8_isTube 15 = .ok (.ireturn, 1) := by decide +kernel
theorem dX8_pressure_0 : decode cX8_pressure 0 = .ok (.aload_n 0, 1) := by decide +kernel
theorem dX8_pressure_1 : decode cX8_pressure 1 = .ok (.iconst 0, 1) := by decide +kernel
theorem dX8_pressure_2 : decode cX8_pressure 2 = .ok (.putfield 1, 3) := by decide +kernel
theorem dX8_pressure_5 : decode cX8_pressure 5 = .ok (.aload_n 0, 1) := by decide +kernel
theorem dX8_pressure_6 : decode cX8_pressure 6 = .ok (.aload_n 0, 1) := by decide +kernel
theorem dX8_pressure_7 : decode cX8_pressure 7 = .ok (.iload_n 1, 1) := by decide +kernel
theorem dX8_pressure_8 : decode cX8_pressure 8 = .ok (.invokevirtual 276, 3) := by decide +kernel
theorem dX8_pressure_11 : decode cX8_pressure 11 = .ok (.iconst 1, 1) := by decide +kernel
theorem dX8_pressure_12 : decode cX8_pressure 12 = .ok (.invokevirtual 187, 3) := by decide +kernel
theorem dX8_pressure_15 : decode cX8_pressure 15 = .ok (.ifCond .eq 7, 3) := by decide +kernel
theorem dX8_pressure_18 : decode cX8_pressure 18 = .ok (.iconst 0, 1) := by decide +kernel
theorem dX8_pressure_19 : decode cX8_pressure 19 = .ok (.goto 11, 3) := by decide +kernel
theorem dX8_pressure_22 : decode cX8_pressure 22 = .ok (.aload_n 0, 1) := by decide +kernel
theorem dX8_pressure_23 : decode cX8_pressure 23 = .ok (.getfield 13, 3) := by decide +kernel
theorem dX8_pressure_26 : decode cX8_pressure 26 = .ok (.iconst 4, 1) := by decide +kernel
theorem dX8_pressure_27 : decode cX8_pressure 27 = .ok (.iload_n 1, 1) := by decide +kernel
theorem dX8_pressure_28 : decode cX8_pressure 28 = .ok (.iadd, 1) := by decide +kernel
theorem dX8_pressure_29 : decode cX8_pressure 29 = .ok (.iaload, 1) := by decide +kernel
theorem dX8_pressure_30 : decode cX8_pressure 30 = .ok (.ireturn, 1) := by decide +kernel
theorem dX8_leg_0 : decode cX8_leg 0 = .ok (.aload_n 0, 1) := by decide +kernel
theorem dX8_leg_1 : decode cX8_leg 1 = .ok (.iconst 0, 1) := by decide +kernel
theorem dX8_leg_2 : decode cX8_leg 2 = .ok (.putfield 1, 3) := by decide +kernel
theorem dX8_leg_5 : decode cX8_leg 5 = .ok (.aload_n 0, 1) := by decide +kernel
theorem dX8_leg_6 : decode cX8_leg 6 = .ok (.iload_n 1, 1) := by decide +kernel
theorem dX8_leg_7 : decode cX8_leg 7 = .ok (.invokestatic 279, 3) := by decide +kernel
theorem dX8_leg_10 : decode cX8_leg 10 = .ok (.ifCond .eq 19, 3) := by decide +kernel
theorem dX8_leg_13 : decode cX8_leg 13 = .ok (.iload_n 2, 1) := by decide +kernel
theorem dX8_leg_14 : decode cX8_leg 14 = .ok (.i2l, 1) := by decide +kernel
theorem dX8_leg_15 : decode cX8_leg 15 = .ok (.lconst 0, 1) := by decide +kernel
theorem dX8_leg_16 : decode cX8_leg 16 = .ok (.ldc2_w 282, 3) := by decide +kernel
theorem dX8_leg_19 : decode cX8_leg 19 = .ok (.invokestatic 142, 3) := by decide +kernel
theorem dX8_leg_22 : decode cX8_leg 22 = .ok (.ifCond .eq 7, 3) := by decide +kernel
theorem dX8_leg_25 : decode cX8_leg 25 = .ok (.iconst 1, 1) := by decide +kernel
theorem dX8_leg_26 : decode cX8_leg 26 = .ok (.goto 4, 3) := by decide +kernel
theorem dX8_leg_29 : decode cX8_leg 29 = .ok (.iconst 0, 1) := by decide +kernel
theorem dX8_leg_30 : decode cX8_leg 30 = .ok (.iconst 1, 1) := by decide +kernel
theorem dX8_leg_31 : decode cX8_leg 31 = .ok (.invokevirtual 187, 3) := by decide +kernel
theorem dX8_leg_34 : decode cX8_leg 34 = .ok (.ifCond .eq 5, 3) := by decide +kernel
theorem dX8_leg_37 : decode cX8_leg 37 = .ok (.iconst 0, 1) := by decide +kernel
theorem dX8_leg_38 : decode cX8_leg 38 = .ok (.ireturn, 1) := by decide +kernel
theorem dX8_leg_39 : decode cX8_leg 39 = .ok (.iload_n 2, 1) := by decide +kernel
theorem dX8_leg_40 : decode cX8_leg 40 = .ok (.iconst 3, 1) := by decide +kernel
theorem dX8_leg_41 : decode cX8_leg 41 = .ok (.if_icmp .ne 12, 3) := by decide +kernel
theorem dX8_leg_44 : decode cX8_leg 44 = .ok (.aload_n 0, 1) := by decide +kernel
theorem dX8_leg_45 : decode cX8_leg 45 = .ok (.iload_n 1, 1) := by decide +kernel
theorem dX8_leg_46 : decode cX8_leg 46 = .ok (.invokevirtual 255, 3) := by decide +kernel
theorem dX8_leg_49 : decode cX8_leg 49 = .ok (.l2i, 1) := by decide +kernel
theorem dX8_leg_50 : decode cX8_leg 50 = .ok (.goto 9, 3) := by decide +kernel
theorem dX8_leg_53 : decode cX8_leg 53 = .ok (.aload_n 0, 1) := by decide +kernel
theorem dX8_leg_54 : decode cX8_leg 54 = .ok (.iload_n 1, 1) := by decide +kernel
theorem dX8_leg_55 : decode cX8_leg 55 = .ok (.iload_n 2, 1) := by decide +kernel
theorem dX8_leg_56 : decode cX8_leg 56 = .ok (.invokevirtual 219, 3) := by decide +kernel
theorem dX8_leg_59 : decode cX8_leg 59 = .ok (.ireturn, 1) := by decide +kernel
theorem dX8_leftOf_0 : decode cX8_leftOf 0 = .ok (.aload_n 0, 1) := by decide +kernel
theorem dX8_leftOf_1 : decode cX8_leftOf 1 = .ok (.iload_n 1, 1) := by decide +kernel
theorem dX8_leftOf_2 : decode cX8_leftOf 2 = .ok (.invokevirtual 255, 3) := by decide +kernel
theorem dX8_leftOf_5 : decode cX8_leftOf 5 = .ok (.lstore_n 2, 1) := by decide +kernel
theorem dX8_leftOf_6 : decode cX8_leftOf 6 = .ok (.aload_n 0, 1) := by decide +kernel
theorem dX8_leftOf_7 : decode cX8_leftOf 7 = .ok (.getfield 26, 3) := by decide +kernel
theorem dX8_leftOf_10 : decode cX8_leftOf 10 = .ok (.iconst 0, 1) := by decide +kernel
theorem dX8_leftOf_11 : decode cX8_leftOf 11 = .ok (.iload_n 1, 1) := by decide +kernel
theorem dX8_leftOf_12 : decode cX8_leftOf 12 = .ok (.iadd, 1) := by decide +kernel
theorem dX8_leftOf_13 : decode cX8_leftOf 13 = .ok (.laload, 1) := by decide +kernel
theorem dX8_leftOf_14 : decode cX8_leftOf 14 = .ok (.aload_n 0, 1) := by decide +kernel
theorem dX8_leftOf_15 : decode cX8_leftOf 15 = .ok (.iload_n 1, 1) := by decide +kernel
theorem dX8_leftOf_16 : decode cX8_leftOf 16 = .ok (.iconst 1, 1) := by decide +kernel
theorem dX8_leftOf_17 : decode cX8_leftOf 17 = .ok (.invokevirtual 219, 3) := by decide +kernel
theorem dX8_leftOf_20 : decode cX8_leftOf 20 = .ok (.i2l, 1) := by decide +kernel
theorem dX8_leftOf_21 : decode cX8_leftOf 21 = .ok (.lload_n 2, 1) := by decide +kernel
theorem dX8_leftOf_22 : decode cX8_leftOf 22 = .ok (.lmul, 1) := by decide +kernel
theorem dX8_leftOf_23 : decode cX8_leftOf 23 = .ok (.lsub, 1) := by decide +kernel
theorem dX8_leftOf_24 : decode cX8_leftOf 24 = .ok (.aload_n 0, 1) := by decide +kernel
theorem dX8_leftOf_25 : decode cX8_leftOf 25 = .ok (.iload_n 1, 1) := by decide +kernel
theorem dX8_leftOf_26 : decode cX8_leftOf 26 = .ok (.lload_n 2, 1) := by decide +kernel
theorem dX8_leftOf_27 : decode cX8_leftOf 27 = .ok (.invokevirtual 252, 3) := by decide +kernel
theorem dX8_leftOf_30 : decode cX8_leftOf 30 = .ok (.lsub, 1) := by decide +kernel
theorem dX8_leftOf_31 : decode cX8_leftOf 31 = .ok (.lreturn, 1) := by decide +kernel
theorem dX8_account_0 : decode cX8_account 0 = .ok (.aload_n 0, 1) := by decide +kernel
theorem dX8_account_1 : decode cX8_account 1 = .ok (.iconst 0, 1) := by decide +kernel
theorem dX8_account_2 : decode cX8_account 2 = .ok (.putfield 1, 3) := by decide +kernel
theorem dX8_account_5 : decode cX8_account 5 = .ok (.aload_n 0, 1) := by decide +kernel
theorem dX8_account_6 : decode cX8_account 6 = .ok (.iload_n 1, 1) := by decide +kernel
theorem dX8_account_7 : decode cX8_account 7 = .ok (.invokestatic 279, 3) := by decide +kernel
theorem dX8_account_10 : decode cX8_account 10 = .ok (.ifCond .eq 19, 3) := by decide +kernel
theorem dX8_account_13 : decode cX8_account 13 = .ok (.iload_n 2, 1) := by decide +kernel
theorem dX8_account_14 : decode cX8_account 14 = .ok (.i2l, 1) := by decide +kernel
theorem dX8_account_15 : decode cX8_account 15 = .ok (.lconst 0, 1) := by decide +kernel
theorem dX8_account_16 : decode cX8_account 16 = .ok (.ldc2_w 284, 3) := by decide +kernel
theorem dX8_account_19 : decode cX8_account 19 = .ok (.invokestatic 142, 3) := by decide +kernel
theorem dX8_account_22 : decode cX8_account 22 = .ok (.ifCond .eq 7, 3) := by decide +kernel
theorem dX8_account_25 : decode cX8_account 25 = .ok (.iconst 1, 1) := by decide +kernel
theorem dX8_account_26 : decode cX8_account 26 = .ok (.goto 4, 3) := by decide +kernel
theorem dX8_account_29 : decode cX8_account 29 = .ok (.iconst 0, 1) := by decide +kernel
theorem dX8_account_30 : decode cX8_account 30 = .ok (.iconst 1, 1) := by decide +kernel
theorem dX8_account_31 : decode cX8_account 31 = .ok (.invokevirtual 187, 3) := by decide +kernel
theorem dX8_account_34 : decode cX8_account 34 = .ok (.ifCond .eq 5, 3) := by decide +kernel
theorem dX8_account_37 : decode cX8_account 37 = .ok (.lconst 0, 1) := by decide +kernel
theorem dX8_account_38 : decode cX8_account 38 = .ok (.lreturn, 1) := by decide +kernel
theorem dX8_account_39 : decode cX8_account 39 = .ok (.iload_n 2, 1) := by decide +kernel
theorem dX8_account_40 : decode cX8_account 40 = .ok (.tableswitch 70 0 3 #[32, 41, 52, 61], 32) := by decide +kernel
theorem dX8_account_72 : decode cX8_account 72 = .ok (.aload_n 0, 1) := by decide +kernel
theorem dX8_account_73 : decode cX8_account 73 = .ok (.getfield 26, 3) := by decide +kernel
theorem dX8_account_76 : decode cX8_account 76 = .ok (.iconst 0, 1) := by decide +kernel
theorem dX8_account_77 : decode cX8_account 77 = .ok (.iload_n 1, 1) := by decide +kernel
theorem dX8_account_78 : decode cX8_account 78 = .ok (.iadd, 1) := by decide +kernel
theorem dX8_account_79 : decode cX8_account 79 = .ok (.laload, 1) := by decide +kernel
theorem dX8_account_80 : decode cX8_account 80 = .ok (.lreturn, 1) := by decide +kernel
theorem dX8_account_81 : decode cX8_account 81 = .ok (.aload_n 0, 1) := by decide +kernel
theorem dX8_account_82 : decode cX8_account 82 = .ok (.iload_n 1, 1) := by decide +kernel
theorem dX8_account_83 : decode cX8_account 83 = .ok (.aload_n 0, 1) := by decide +kernel
theorem dX8_account_84 : decode cX8_account 84 = .ok (.iload_n 1, 1) := by decide +kernel
theorem dX8_account_85 : decode cX8_account 85 = .ok (.invokevirtual 255, 3) := by decide +kernel
theorem dX8_account_88 : decode cX8_account 88 = .ok (.invokevirtual 252, 3) := by decide +kernel
theorem dX8_account_91 : decode cX8_account 91 = .ok (.lreturn, 1) := by decide +kernel
theorem dX8_account_92 : decode cX8_account 92 = .ok (.aload_n 0, 1) := by decide +kernel
theorem dX8_account_93 : decode cX8_account 93 = .ok (.getfield 26, 3) := by decide +kernel
theorem dX8_account_96 : decode cX8_account 96 = .ok (.iconst 2, 1) := by decide +kernel
theorem dX8_account_97 : decode cX8_account 97 = .ok (.iload_n 1, 1) := by decide +kernel
theorem dX8_account_98 : decode cX8_account 98 = .ok (.iadd, 1) := by decide +kernel
theorem dX8_account_99 : decode cX8_account 99 = .ok (.laload, 1) := by decide +kernel
theorem dX8_account_100 : decode cX8_account 100 = .ok (.lreturn, 1) := by decide +kernel
theorem dX8_account_101 : decode cX8_account 101 = .ok (.aload_n 0, 1) := by decide +kernel
theorem dX8_account_102 : decode cX8_account 102 = .ok (.getfield 26, 3) := by decide +kernel
theorem dX8_account_105 : decode cX8_account 105 = .ok (.iconst 4, 1) := by decide +kernel
theorem dX8_account_106 : decode cX8_account 106 = .ok (.iload_n 1, 1) := by decide +kernel
theorem dX8_account_107 : decode cX8_account 107 = .ok (.iadd, 1) := by decide +kernel
theorem dX8_account_108 : decode cX8_account 108 = .ok (.laload, 1) := by decide +kernel
theorem dX8_account_109 : decode cX8_account 109 = .ok (.lreturn, 1) := by decide +kernel
theorem dX8_account_110 : decode cX8_account 110 = .ok (.aload_n 0, 1) := by decide +kernel
theorem dX8_account_111 : decode cX8_account 111 = .ok (.iload_n 1, 1) := by decide +kernel
theorem dX8_account_112 : decode cX8_account 112 = .ok (.invokevirtual 286, 3) := by decide +kernel
theorem dX8_account_115 : decode cX8_account 115 = .ok (.lreturn, 1) := by decide +kernel
theorem dX8_tube_0 : decode cX8_tube 0 = .ok (.aload_n 0, 1) := by decide +kernel
theorem dX8_tube_1 : decode cX8_tube 1 = .ok (.iconst 0, 1) := by decide +kernel
theorem dX8_tube_2 : decode cX8_tube 2 = .ok (.putfield 1, 3) := by decide +kernel
theorem dX8_tube_5 : decode cX8_tube 5 = .ok (.aload_n 0, 1) := by decide +kernel
theorem dX8_tube_6 : decode cX8_tube 6 = .ok (.aload_n 0, 1) := by decide +kernel
theorem dX8_tube_7 : decode cX8_tube 7 = .ok (.iload_n 1, 1) := by decide +kernel
theorem dX8_tube_8 : decode cX8_tube 8 = .ok (.invokevirtual 289, 3) := by decide +kernel
theorem dX8_tube_11 : decode cX8_tube 11 = .ok (.ifCond .eq 19, 3) := by decide +kernel
theorem dX8_tube_14 : decode cX8_tube 14 = .ok (.iload_n 2, 1) := by decide +kernel
theorem dX8_tube_15 : decode cX8_tube 15 = .ok (.i2l, 1) := by decide +kernel
theorem dX8_tube_16 : decode cX8_tube 16 = .ok (.lconst 0, 1) := by decide +kernel
theorem dX8_tube_17 : decode cX8_tube 17 = .ok (.ldc2_w 292, 3) := by decide +kernel
theorem dX8_tube_20 : decode cX8_tube 20 = .ok (.invokestatic 142, 3) := by decide +kernel
theorem dX8_tube_23 : decode cX8_tube 23 = .ok (.ifCond .eq 7, 3) := by decide +kernel
theorem dX8_tube_26 : decode cX8_tube 26 = .ok (.iconst 1, 1) := by decide +kernel
theorem dX8_tube_27 : decode cX8_tube 27 = .ok (.goto 4, 3) := by decide +kernel
theorem dX8_tube_30 : decode cX8_tube 30 = .ok (.iconst 0, 1) := by decide +kernel
theorem dX8_tube_31 : decode cX8_tube 31 = .ok (.iconst 1, 1) := by decide +kernel
theorem dX8_tube_32 : decode cX8_tube 32 = .ok (.invokevirtual 187, 3) := by decide +kernel
theorem dX8_tube_35 : decode cX8_tube 35 = .ok (.ifCond .eq 5, 3) := by decide +kernel
theorem dX8_tube_38 : decode cX8_tube 38 = .ok (.iconst 0, 1) := by decide +kernel
theorem dX8_tube_39 : decode cX8_tube 39 = .ok (.ireturn, 1) := by decide +kernel
theorem dX8_tube_40 : decode cX8_tube 40 = .ok (.iload_n 2, 1) := by decide +kernel
theorem dX8_tube_41 : decode cX8_tube 41 = .ok (.tableswitch 55 7 10 #[31, 37, 43, 49], 31) := by decide +kernel
theorem dX8_tube_72 : decode cX8_tube 72 = .ok (.aload_n 0, 1) := by decide +kernel
theorem dX8_tube_73 : decode cX8_tube 73 = .ok (.iload_n 1, 1) := by decide +kernel
theorem dX8_tube_74 : decode cX8_tube 74 = .ok (.invokevirtual 259, 3) := by decide +kernel
theorem dX8_tube_77 : decode cX8_tube 77 = .ok (.ireturn, 1) := by decide +kernel
theorem dX8_tube_78 : decode cX8_tube 78 = .ok (.aload_n 0, 1) := by decide +kernel
theorem dX8_tube_79 : decode cX8_tube 79 = .ok (.iload_n 1, 1) := by decide +kernel
theorem dX8_tube_80 : decode cX8_tube 80 = .ok (.invokevirtual 294, 3) := by decide +kernel
theorem dX8_tube_83 : decode cX8_tube 83 = .ok (.ireturn, 1) := by decide +kernel
theorem dX8_tube_84 : decode cX8_tube 84 = .ok (.aload_n 0, 1) := by decide +kernel
theorem dX8_tube_85 : decode cX8_tube 85 = .ok (.iload_n 1, 1) := by decide +kernel
theorem dX8_tube_86 : decode cX8_tube 86 = .ok (.invokevirtual 222, 3) := by decide +kernel
theorem dX8_tube_89 : decode cX8_tube 89 = .ok (.ireturn, 1) := by decide +kernel
theorem dX8_tube_90 : decode cX8_tube 90 = .ok (.aload_n 0, 1) := by decide +kernel
theorem dX8_tube_91 : decode cX8_tube 91 = .ok (.iload_n 1, 1) := by decide +kernel
theorem dX8_tube_92 : decode cX8_tube 92 = .ok (.invokevirtual 225, 3) := by decide +kernel
theorem dX8_tube_95 : decode cX8_tube 95 = .ok (.ireturn, 1) := by decide +kernel
theorem dX8_tube_96 : decode cX8_tube 96 = .ok (.aload_n 0, 1) := by decide +kernel
theorem dX8_tube_97 : decode cX8_tube 97 = .ok (.iload_n 1, 1) := by decide +kernel
theorem dX8_tube_98 : decode cX8_tube 98 = .ok (.iload_n 2, 1) := by decide +kernel
theorem dX8_tube_99 : decode cX8_tube 99 = .ok (.invokevirtual 216, 3) := by decide +kernel
theorem dX8_tube_102 : decode cX8_tube 102 = .ok (.ireturn, 1) := by decide +kernel
theorem dX8_told_0 : decode cX8_told 0 = .ok (.aload_n 0, 1) := by decide +kernel
theorem dX8_told_1 : decode cX8_told 1 = .ok (.iconst 0, 1) := by decide +kernel
theorem dX8_told_2 : decode cX8_told 2 = .ok (.putfield 1, 3) := by decide +kernel
theorem dX8_told_5 : decode cX8_told 5 = .ok (.aload_n 0, 1) := by decide +kernel
theorem dX8_told_6 : decode cX8_told 6 = .ok (.aload_n 0, 1) := by decide +kernel
theorem dX8_told_7 : decode cX8_told 7 = .ok (.iload_n 1, 1) := by decide +kernel
theorem dX8_told_8 : decode cX8_told 8 = .ok (.invokevirtual 289, 3) := by decide +kernel
theorem dX8_told_11 : decode cX8_told 11 = .ok (.iconst 1, 1) := by decide +kernel
theorem dX8_told_12 : decode cX8_told 12 = .ok (.invokevirtual 187, 3) := by decide +kernel
theorem dX8_told_15 : decode cX8_told 15 = .ok (.ifCond .eq 5, 3) := by decide +kernel
theorem dX8_told_18 : decode cX8_told 18 = .ok (.iconst 0, 1) := by decide +kernel
theorem dX8_told_19 : decode cX8_told 19 = .ok (.ireturn, 1) := by decide +kernel
theorem dX8_told_20 : decode cX8_told 20 = .ok (.aload_n 0, 1) := by decide +kernel
theorem dX8_told_21 : decode cX8_told 21 = .ok (.iload_n 1, 1) := by decide +kernel
theorem dX8_told_22 : decode cX8_told 22 = .ok (.invokevirtual 230, 3) := by decide +kernel
theorem dX8_told_25 : decode cX8_told 25 = .ok (.ifCond .eq 11, 3) := by decide +kernel
theorem dX8_told_28 : decode cX8_told 28 = .ok (.aload_n 0, 1) := by decide +kernel
theorem dX8_told_29 : decode cX8_told 29 = .ok (.iload_n 1, 1) := by decide +kernel
theorem dX8_told_30 : decode cX8_told 30 = .ok (.invokevirtual 268, 3) := by decide +kernel
theorem dX8_told_33 : decode cX8_told 33 = .ok (.goto 6, 3) := by decide +kernel
theorem dX8_told_36 : decode cX8_told 36 = .ok (.ldc_w 297, 3) := by decide +kernel
theorem dX8_told_39 : decode cX8_told 39 = .ok (.ireturn, 1) := by decide +kernel
theorem dX8_offOf_0 : decode cX8_offOf 0 = .ok (.aload_n 0, 1) := by decide +kernel
theorem dX8_offOf_1 : decode cX8_offOf 1 = .ok (.iload_n 1, 1) := by decide +kernel
theorem dX8_offOf_2 : decode cX8_offOf 2 = .ok (.invokevirtual 268, 3) := by decide +kernel
theorem dX8_offOf_5 : decode cX8_offOf 5 = .ok (.aload_n 0, 1) := by decide +kernel
theorem dX8_offOf_6 : decode cX8_offOf 6 = .ok (.getfield 13, 3) := by decide +kernel
theorem dX8_offOf_9 : decode cX8_offOf 9 = .ok (.iconst 4, 1) := by decide +kernel
theorem dX8_offOf_10 : decode cX8_offOf 10 = .ok (.aload_n 0, 1) := by decide +kernel
theorem dX8_offOf_11 : decode cX8_offOf 11 = .ok (.iload_n 1, 1) := by decide +kernel
theorem dX8_offOf_12 : decode cX8_offOf 12 = .ok (.iconst 1, 1) := by decide +kernel
theorem dX8_offOf_13 : decode cX8_offOf 13 = .ok (.invokevirtual 216, 3) := by decide +kernel
theorem dX8_offOf_16 : decode cX8_offOf 16 = .ok (.iadd, 1) := by decide +kernel
theorem dX8_offOf_17 : decode cX8_offOf 17 = .ok (.iaload, 1) := by decide +kernel
theorem dX8_offOf_18 : decode cX8_offOf 18 = .ok (.isub, 1) := by decide +kernel
theorem dX8_offOf_19 : decode cX8_offOf 19 = .ok (.ireturn, 1) := by decide +kernel
theorem dX8_off_0 : decode cX8_off 0 = .ok (.aload_n 0, 1) := by decide +kernel
theorem dX8_off_1 : decode cX8_off 1 = .ok (.iconst 0, 1) := by decide +kernel
theorem dX8_off_2 : decode cX8_off 2 = .ok (.putfield 1, 3) := by decide +kernel
theorem dX8_off_5 : decode cX8_off 5 = .ok (.aload_n 0, 1) := by decide +kernel
theorem dX8_off_6 : decode cX8_off 6 = .ok (.aload_n 0, 1) := by decide +kernel
theorem dX8_off_7 : decode cX8_off 7 = .ok (.iload_n 1, 1) := by decide +kernel
theorem dX8_off_8 : decode cX8_off 8 = .ok (.invokevirtual 289, 3) := by decide +kernel
theorem dX8_off_11 : decode cX8_off 11 = .ok (.iconst 1, 1) := by decide +kernel
theorem dX8_off_12 : decode cX8_off 12 = .ok (.invokevirtual 187, 3) := by decide +kernel
theorem dX8_off_15 : decode cX8_off 15 = .ok (.ifCond .eq 5, 3) := by decide +kernel
theorem dX8_off_18 : decode cX8_off 18 = .ok (.iconst 0, 1) := by decide +kernel
theorem dX8_off_19 : decode cX8_off 19 = .ok (.ireturn, 1) := by decide +kernel
theorem dX8_off_20 : decode cX8_off 20 = .ok (.aload_n 0, 1) := by decide +kernel
theorem dX8_off_21 : decode cX8_off 21 = .ok (.iload_n 1, 1) := by decide +kernel
theorem dX8_off_22 : decode cX8_off 22 = .ok (.invokevirtual 230, 3) := by decide +kernel
theorem dX8_off_25 : decode cX8_off 25 = .ok (.ifCond .eq 11, 3) := by decide +kernel
theorem dX8_off_28 : decode cX8_off 28 = .ok (.aload_n 0, 1) := by decide +kernel
theorem dX8_off_29 : decode cX8_off 29 = .ok (.iload_n 1, 1) := by decide +kernel
theorem dX8_off_30 : decode cX8_off 30 = .ok (.invokevirtual 298, 3) := by decide +kernel
theorem dX8_off_33 : decode cX8_off 33 = .ok (.goto 6, 3) := by decide +kernel
theorem dX8_off_36 : decode cX8_off 36 = .ok (.ldc_w 297, 3) := by decide +kernel
theorem dX8_off_39 : decode cX8_off 39 = .ok (.ireturn, 1) := by decide +kernel
theorem dX8_difference_0 : decode cX8_difference 0 = .ok (.aload_n 0, 1) := by decide +kernel
theorem dX8_difference_1 : decode cX8_difference 1 = .ok (.iconst 0, 1) := by decide +kernel
theorem dX8_difference_2 : decode cX8_difference 2 = .ok (.putfield 1, 3) := by decide +kernel
theorem dX8_difference_5 : decode cX8_difference 5 = .ok (.aload_n 0, 1) := by decide +kernel
theorem dX8_difference_6 : decode cX8_difference 6 = .ok (.aload_n 0, 1) := by decide +kernel
theorem dX8_difference_7 : decode cX8_difference 7 = .ok (.iload_n 1, 1) := by decide +kernel
theorem dX8_difference_8 : decode cX8_difference 8 = .ok (.invokevirtual 289, 3) := by decide +kernel
theorem dX8_difference_11 : decode cX8_difference 11 = .ok (.ifCond .eq 15, 3) := by decide +kernel
theorem dX8_difference_14 : decode cX8_difference 14 = .ok (.aload_n 0, 1) := by decide +kernel
theorem dX8_difference_15 : decode cX8_difference 15 = .ok (.iload_n 2, 1) := by decide +kernel
theorem dX8_difference_16 : decode cX8_difference 16 = .ok (.invokevirtual 289, 3) := by decide +kernel
theorem dX8_difference_19 : decode cX8_difference 19 = .ok (.ifCond .eq 7, 3) := by decide +kernel
theorem dX8_difference_22 : decode cX8_difference 22 = .ok (.iconst 1, 1) := by decide +kernel
theorem dX8_difference_23 : decode cX8_difference 23 = .ok (.goto 4, 3) := by decide +kernel
theorem dX8_difference_26 : decode cX8_difference 26 = .ok (.iconst 0, 1) := by decide +kernel
theorem dX8_difference_27 : decode cX8_difference 27 = .ok (.iconst 1, 1) := by decide +kernel
theorem dX8_difference_28 : decode cX8_difference 28 = .ok (.invokevirtual 187, 3) := by decide +kernel
theorem dX8_difference_31 : decode cX8_difference 31 = .ok (.ifCond .eq 5, 3) := by decide +kernel
theorem dX8_difference_34 : decode cX8_difference 34 = .ok (.iconst 0, 1) := by decide +kernel
theorem dX8_difference_35 : decode cX8_difference 35 = .ok (.ireturn, 1) := by decide +kernel
theorem dX8_difference_36 : decode cX8_difference 36 = .ok (.aload_n 0, 1) := by decide +kernel
theorem dX8_difference_37 : decode cX8_difference 37 = .ok (.iload_n 1, 1) := by decide +kernel
theorem dX8_difference_38 : decode cX8_difference 38 = .ok (.invokevirtual 230, 3) := by decide +kernel
theorem dX8_difference_41 : decode cX8_difference 41 = .ok (.ifCond .eq 20, 3) := by decide +kernel
theorem dX8_difference_44 : decode cX8_difference 44 = .ok (.aload_n 0, 1) := by decide +kernel
theorem dX8_difference_45 : decode cX8_difference 45 = .ok (.iload_n 2, 1) := by decide +kernel
theorem dX8_difference_46 : decode cX8_difference 46 = .ok (.invokevirtual 230, 3) := by decide +kernel
theorem dX8_difference_49 : decode cX8_difference 49 = .ok (.ifCond .eq 12, 3) := by decide +kernel
theorem dX8_difference_52 : decode cX8_difference 52 = .ok (.aload_n 0, 1) := by decide +kernel
theorem dX8_difference_53 : decode cX8_difference 53 = .ok (.iload_n 1, 1) := by decide +kernel
theorem dX8_difference_54 : decode cX8_difference 54 = .ok (.iload_n 2, 1) := by decide +kernel
theorem dX8_difference_55 : decode cX8_difference 55 = .ok (.invokevirtual 301, 3) := by decide +kernel
theorem dX8_difference_58 : decode cX8_difference 58 = .ok (.goto 6, 3) := by decide +kernel
theorem dX8_difference_61 : decode cX8_difference 61 = .ok (.ldc_w 297, 3) := by decide +kernel
theorem dX8_difference_64 : decode cX8_difference 64 = .ok (.ireturn, 1) := by decide +kernel
theorem dX8_nextWhole_0 : decode cX8_nextWhole 0 = .ok (.iload_n 1, 1) := by decide +kernel
theorem dX8_nextWhole_1 : decode cX8_nextWhole 1 = .ok (.istore_n 2, 1) := by decide +kernel
theorem dX8_nextWhole_2 : decode cX8_nextWhole 2 = .ok (.iload_n 2, 1) := by decide +kernel
theorem dX8_nextWhole_3 : decode cX8_nextWhole 3 = .ok (.aload_n 0, 1) := by decide +kernel
theorem dX8_nextWhole_4 : decode cX8_nextWhole 4 = .ok (.getfield 13, 3) := by decide +kernel
theorem dX8_nextWhole_7 : decode cX8_nextWhole 7 = .ok (.iconst 2, 1) := by decide +kernel
theorem dX8_nextWhole_8 : decode cX8_nextWhole 8 = .ok (.iaload, 1) := by decide +kernel
theorem dX8_nextWhole_9 : decode cX8_nextWhole 9 = .ok (.if_icmp .ge 19, 3) := by decide +kernel
theorem dX8_nextWhole_12 : decode cX8_nextWhole 12 = .ok (.aload_n 0, 1) := by decide +kernel
theorem dX8_nextWhole_13 : decode cX8_nextWhole 13 = .ok (.iload_n 2, 1) := by decide +kernel
theorem dX8_nextWhole_14 : decode cX8_nextWhole 14 = .ok (.invokevirtual 230, 3) := by decide +kernel
theorem dX8_nextWhole_17 : decode cX8_nextWhole 17 = .ok (.ifCond .eq 5, 3) := by decide +kernel
theorem dX8_nextWhole_20 : decode cX8_nextWhole 20 = .ok (.iload_n 2, 1) := by decide +kernel
theorem dX8_nextWhole_21 : decode cX8_nextWhole 21 = .ok (.ireturn, 1) := by decide +kernel
theorem dX8_nextWhole_22 : decode cX8_nextWhole 22 = .ok (.iinc 2 1, 3) := by decide +kernel
theorem dX8_nextWhole_25 : decode cX8_nextWhole 25 = .ok (.goto (-23), 3) := by decide +kernel
theorem dX8_nextWhole_28 : decode cX8_nextWhole 28 = .ok (.iconst (-1), 1) := by decide +kernel
theorem dX8_nextWhole_29 : decode cX8_nextWhole 29 = .ok (.ireturn, 1) := by decide +kernel
theorem dX8_ring_0 : decode cX8_ring 0 = .ok (.aload_n 0, 1) := by decide +kernel
theorem dX8_ring_1 : decode cX8_ring 1 = .ok (.iconst 0, 1) := by decide +kernel
theorem dX8_ring_2 : decode cX8_ring 2 = .ok (.putfield 1, 3) := by decide +kernel
theorem dX8_ring_5 : decode cX8_ring 5 = .ok (.aload_n 0, 1) := by decide +kernel
theorem dX8_ring_6 : decode cX8_ring 6 = .ok (.iconst 0, 1) := by decide +kernel
theorem dX8_ring_7 : decode cX8_ring 7 = .ok (.invokevirtual 213, 3) := by decide +kernel
theorem dX8_ring_10 : decode cX8_ring 10 = .ok (.iconst 2, 1) := by decide +kernel
theorem dX8_ring_11 : decode cX8_ring 11 = .ok (.if_icmp .ge 5, 3) := by decide +kernel
theorem dX8_ring_14 : decode cX8_ring 14 = .ok (.iconst 0, 1) := by decide +kernel
theorem dX8_ring_15 : decode cX8_ring 15 = .ok (.ireturn, 1) := by decide +kernel
theorem dX8_ring_16 : decode cX8_ring 16 = .ok (.aload_n 0, 1) := by decide +kernel
theorem dX8_ring_17 : decode cX8_ring 17 = .ok (.iconst 0, 1) := by decide +kernel
theorem dX8_ring_18 : decode cX8_ring 18 = .ok (.invokevirtual 304, 3) := by decide +kernel
theorem dX8_ring_21 : decode cX8_ring 21 = .ok (.istore_n 1, 1) := by decide +kernel
theorem dX8_ring_22 : decode cX8_ring 22 = .ok (.iconst 0, 1) := by decide +kernel
theorem dX8_ring_23 : decode cX8_ring 23 = .ok (.istore_n 2, 1) := by decide +kernel
theorem dX8_ring_24 : decode cX8_ring 24 = .ok (.iload_n 1, 1) := by decide +kernel
theorem dX8_ring_25 : decode cX8_ring 25 = .ok (.istore_n 3, 1) := by decide +kernel
theorem dX8_ring_26 : decode cX8_ring 26 = .ok (.aload_n 0, 1) := by decide +kernel
theorem dX8_ring_27 : decode cX8_ring 27 = .ok (.iload_n 3, 1) := by decide +kernel
theorem dX8_ring_28 : decode cX8_ring 28 = .ok (.iconst 1, 1) := by decide +kernel
theorem dX8_ring_29 : decode cX8_ring 29 = .ok (.iadd, 1) := by decide +kernel
theorem dX8_ring_30 : decode cX8_ring 30 = .ok (.invokevirtual 304, 3) := by decide +kernel
theorem dX8_ring_33 : decode cX8_ring 33 = .ok (.istore 4, 2) := by decide +kernel
theorem dX8_ring_35 : decode cX8_ring 35 = .ok (.iload_n 2, 1) := by decide +kernel
theorem dX8_ring_36 : decode cX8_ring 36 = .ok (.aload_n 0, 1) := by decide +kernel
theorem dX8_ring_37 : decode cX8_ring 37 = .ok (.iload_n 3, 1) := by decide +kernel
theorem dX8_ring_38 : decode cX8_ring 38 = .ok (.iload 4, 2) := by decide +kernel
theorem dX8_ring_40 : decode cX8_ring 40 = .ok (.iconst (-1), 1) := by decide +kernel
theorem dX8_ring_41 : decode cX8_ring 41 = .ok (.if_icmp .ne 7, 3) := by decide +kernel
theorem dX8_ring_44 : decode cX8_ring 44 = .ok (.iload_n 1, 1) := by decide +kernel
theorem dX8_ring_45 : decode cX8_ring 45 = .ok (.goto 5, 3) := by decide +kernel
theorem dX8_ring_48 : decode cX8_ring 48 = .ok (.iload 4, 2) := by decide +kernel
theorem dX8_ring_50 : decode cX8_ring 50 = .ok (.invokevirtual 301, 3) := by decide +kernel
theorem dX8_ring_53 : decode cX8_ring 53 = .ok (.iadd, 1) := by decide +kernel
theorem dX8_ring_54 : decode cX8_ring 54 = .ok (.istore_n 2, 1) := by decide +kernel
theorem dX8_ring_55 : decode cX8_ring 55 = .ok (.iload 4, 2) := by decide +kernel
theorem dX8_ring_57 : decode cX8_ring 57 = .ok (.istore_n 3, 1) := by decide +kernel
theorem dX8_ring_58 : decode cX8_ring 58 = .ok (.iload_n 3, 1) := by decide +kernel
theorem dX8_ring_59 : decode cX8_ring 59 = .ok (.iconst (-1), 1) := by decide +kernel
theorem dX8_ring_60 : decode cX8_ring 60 = .ok (.if_icmp .ne (-34), 3) := by decide +kernel
theorem dX8_ring_63 : decode cX8_ring 63 = .ok (.iload_n 2, 1) := by decide +kernel
theorem dX8_ring_64 : decode cX8_ring 64 = .ok (.ireturn, 1) := by decide +kernel
theorem dX8_room_0 : decode cX8_room 0 = .ok (.aload_n 0, 1) := by decide +kernel
theorem dX8_room_1 : decode cX8_room 1 = .ok (.iconst 0, 1) := by decide +kernel
theorem dX8_room_2 : decode cX8_room 2 = .ok (.putfield 1, 3) := by decide +kernel
theorem dX8_room_5 : decode cX8_room 5 = .ok (.aload_n 0, 1) := by decide +kernel
theorem dX8_room_6 : decode cX8_room 6 = .ok (.aload_n 0, 1) := by decide +kernel
theorem dX8_room_7 : decode cX8_room 7 = .ok (.iload_n 1, 1) := by decide +kernel
theorem dX8_room_8 : decode cX8_room 8 = .ok (.invokevirtual 289, 3) := by decide +kernel
theorem dX8_room_11 : decode cX8_room 11 = .ok (.iconst 1, 1) := by decide +kernel
theorem dX8_room_12 : decode cX8_room 12 = .ok (.invokevirtual 187, 3) := by decide +kernel
theorem dX8_room_15 : decode cX8_room 15 = .ok (.ifCond .eq 5, 3) := by decide +kernel
theorem dX8_room_18 : decode cX8_room 18 = .ok (.iconst 0, 1) := by decide +kernel
theorem dX8_room_19 : decode cX8_room 19 = .ok (.ireturn, 1) := by decide +kernel
theorem dX8_room_20 : decode cX8_room 20 = .ok (.aload_n 0, 1) := by decide +kernel
theorem dX8_room_21 : decode cX8_room 21 = .ok (.iload_n 1, 1) := by decide +kernel
theorem dX8_room_22 : decode cX8_room 22 = .ok (.invokevirtual 230, 3) := by decide +kernel
theorem dX8_room_25 : decode cX8_room 25 = .ok (.ifCond .eq 17, 3) := by decide +kernel
theorem dX8_room_28 : decode cX8_room 28 = .ok (.aload_n 0, 1) := by decide +kernel
theorem dX8_room_29 : decode cX8_room 29 = .ok (.iload_n 1, 1) := by decide +kernel
theorem dX8_room_30 : decode cX8_room 30 = .ok (.invokevirtual 237, 3) := by decide +kernel
theorem dX8_room_33 : decode cX8_room 33 = .ok (.aload_n 0, 1) := by decide +kernel
theorem dX8_room_34 : decode cX8_room 34 = .ok (.iload_n 1, 1) := by decide +kernel
theorem dX8_room_35 : decode cX8_room 35 = .ok (.invokevirtual 259, 3) := by decide +kernel
theorem dX8_room_38 : decode cX8_room 38 = .ok (.isub, 1) := by decide +kernel
theorem dX8_room_39 : decode cX8_room 39 = .ok (.goto 4, 3) := by decide +kernel
theorem dX8_room_42 : decode cX8_room 42 = .ok (.iconst (-1), 1) := by decide +kernel
theorem dX8_room_43 : decode cX8_room 43 = .ok (.ireturn, 1) := by decide +kernel
theorem dX8_longest_0 : decode cX8_longest 0 = .ok (.aload_n 0, 1) := by decide +kernel
theorem dX8_longest_1 : decode cX8_longest 1 = .ok (.iconst 0, 1) := by decide +kernel
theorem dX8_longest_2 : decode cX8_longest 2 = .ok (.putfield 1, 3) := by decide +kernel
theorem dX8_longest_5 : decode cX8_longest 5 = .ok (.iconst (-1), 1) := by decide +kernel
theorem dX8_longest_6 : decode cX8_longest 6 = .ok (.istore_n 1, 1) := by decide +kernel
theorem dX8_longest_7 : decode cX8_longest 7 = .ok (.iconst 0, 1) := by decide +kernel
theorem dX8_longest_8 : decode cX8_longest 8 = .ok (.istore_n 2, 1) := by decide +kernel
theorem dX8_longest_9 : decode cX8_longest 9 = .ok (.iload_n 2, 1) := by decide +kernel
theorem dX8_longest_10 : decode cX8_longest 10 = .ok (.aload_n 0, 1) := by decide +kernel
theorem dX8_longest_11 : decode cX8_longest 11 = .ok (.getfield 13, 3) := by decide +kernel
theorem dX8_longest_14 : decode cX8_longest 14 = .ok (.iconst 2, 1) := by decide +kernel
theorem dX8_longest_15 : decode cX8_longest 15 = .ok (.iaload, 1) := by decide +kernel
theorem dX8_longest_16 : decode cX8_longest 16 = .ok (.if_icmp .ge 37, 3) := by decide +kernel
theorem dX8_longest_19 : decode cX8_longest 19 = .ok (.aload_n 0, 1) := by decide +kernel
theorem dX8_longest_20 : decode cX8_longest 20 = .ok (.iload_n 2, 1) := by decide +kernel
theorem dX8_longest_21 : decode cX8_longest 21 = .ok (.invokevirtual 230, 3) := by decide +kernel
theorem dX8_longest_24 : decode cX8_longest 24 = .ok (.ifCond .eq 23, 3) := by decide +kernel
theorem dX8_longest_27 : decode cX8_longest 27 = .ok (.iload_n 1, 1) := by decide +kernel
theorem dX8_longest_28 : decode cX8_longest 28 = .ok (.iconst (-1), 1) := by decide +kernel
theorem dX8_longest_29 : decode cX8_longest 29 = .ok (.if_icmp .eq 16, 3) := by decide +kernel
theorem dX8_longest_32 : decode cX8_longest 32 = .ok (.aload_n 0, 1) := by decide +kernel
theorem dX8_longest_33 : decode cX8_longest 33 = .ok (.iload_n 2, 1) := by decide +kernel
theorem dX8_longest_34 : decode cX8_longest 34 = .ok (.invokevirtual 259, 3) := by decide +kernel
theorem dX8_longest_37 : decode cX8_longest 37 = .ok (.aload_n 0, 1) := by decide +kernel
theorem dX8_longest_38 : decode cX8_longest 38 = .ok (.iload_n 1, 1) := by decide +kernel
theorem dX8_longest_39 : decode cX8_longest 39 = .ok (.invokevirtual 259, 3) := by decide +kernel
theorem dX8_longest_42 : decode cX8_longest 42 = .ok (.if_icmp .le 5, 3) := by decide +kernel
theorem dX8_longest_45 : decode cX8_longest 45 = .ok (.iload_n 2, 1) := by decide +kernel
theorem dX8_longest_46 : decode cX8_longest 46 = .ok (.istore_n 1, 1) := by decide +kernel
theorem dX8_longest_47 : decode cX8_longest 47 = .ok (.iinc 2 1, 3) := by decide +kernel
theorem dX8_longest_50 : decode cX8_longest 50 = .ok (.goto (-41), 3) := by decide +kernel
theorem dX8_longest_53 : decode cX8_longest 53 = .ok (.iload_n 1, 1) := by decide +kernel
theorem dX8_longest_54 : decode cX8_longest 54 = .ok (.ireturn, 1) := by decide +kernel
theorem dX8_worst_0 : decode cX8_worst 0 = .ok (.aload_n 0, 1) := by decide +kernel
theorem dX8_worst_1 : decode cX8_worst 1 = .ok (.iconst 0, 1) := by decide +kernel
theorem dX8_worst_2 : decode cX8_worst 2 = .ok (.putfield 1, 3) := by decide +kernel
theorem dX8_worst_5 : decode cX8_worst 5 = .ok (.iconst (-1), 1) := by decide +kernel
theorem dX8_worst_6 : decode cX8_worst 6 = .ok (.istore_n 1, 1) := by decide +kernel
theorem dX8_worst_7 : decode cX8_worst 7 = .ok (.iconst 0, 1) := by decide +kernel
theorem dX8_worst_8 : decode cX8_worst 8 = .ok (.istore_n 2, 1) := by decide +kernel
theorem dX8_worst_9 : decode cX8_worst 9 = .ok (.iload_n 2, 1) := by decide +kernel
theorem dX8_worst_10 : decode cX8_worst 10 = .ok (.aload_n 0, 1) := by decide +kernel
theorem dX8_worst_11 : decode cX8_worst 11 = .ok (.getfield 13, 3) := by decide +kernel
theorem dX8_worst_14 : decode cX8_worst 14 = .ok (.iconst 2, 1) := by decide +kernel
theorem dX8_worst_15 : decode cX8_worst 15 = .ok (.iaload, 1) := by decide +kernel
theorem dX8_worst_16 : decode cX8_worst 16 = .ok (.if_icmp .ge 43, 3) := by decide +kernel
theorem dX8_worst_19 : decode cX8_worst 19 = .ok (.aload_n 0, 1) := by decide +kernel
theorem dX8_worst_20 : decode cX8_worst 20 = .ok (.iload_n 2, 1) := by decide +kernel
theorem dX8_worst_21 : decode cX8_worst 21 = .ok (.invokevirtual 230, 3) := by decide +kernel
theorem dX8_worst_24 : decode cX8_worst 24 = .ok (.ifCond .eq 29, 3) := by decide +kernel
theorem dX8_worst_27 : decode cX8_worst 27 = .ok (.iload_n 1, 1) := by decide +kernel
theorem dX8_worst_28 : decode cX8_worst 28 = .ok (.iconst (-1), 1) := by decide +kernel
theorem dX8_worst_29 : decode cX8_worst 29 = .ok (.if_icmp .eq 22, 3) := by decide +kernel
theorem dX8_worst_32 : decode cX8_worst 32 = .ok (.aload_n 0, 1) := by decide +kernel
theorem dX8_worst_33 : decode cX8_worst 33 = .ok (.iload_n 2, 1) := by decide +kernel
theorem dX8_worst_34 : decode cX8_worst 34 = .ok (.invokevirtual 298, 3) := by decide +kernel
theorem dX8_worst_37 : decode cX8_worst 37 = .ok (.invokestatic 307, 3) := by decide +kernel
theorem dX8_worst_40 : decode cX8_worst 40 = .ok (.aload_n 0, 1) := by decide +kernel
theorem dX8_worst_41 : decode cX8_worst 41 = .ok (.iload_n 1, 1) := by decide +kernel
theorem dX8_worst_42 : decode cX8_worst 42 = .ok (.invokevirtual 298, 3) := by decide +kernel
theorem dX8_worst_45 : decode cX8_worst 45 = .ok (.invokestatic 307, 3) := by decide +kernel
theorem dX8_worst_48 : decode cX8_worst 48 = .ok (.if_icmp .le 5, 3) := by decide +kernel
theorem dX8_worst_51 : decode cX8_worst 51 = .ok (.iload_n 2, 1) := by decide +kernel
theorem dX8_worst_52 : decode cX8_worst 52 = .ok (.istore_n 1, 1) := by decide +kernel
theorem dX8_worst_53 : decode cX8_worst 53 = .ok (.iinc 2 1, 3) := by decide +kernel
theorem dX8_worst_56 : decode cX8_worst 56 = .ok (.goto (-47), 3) := by decide +kernel
theorem dX8_worst_59 : decode cX8_worst 59 = .ok (.iload_n 1, 1) := by decide +kernel
theorem dX8_worst_60 : decode cX8_worst 60 = .ok (.ireturn, 1) := by decide +kernel
theorem dX8_isPressure_0 : decode cX8_isPressure 0 = .ok (.iload_n 0, 1) := by decide +kernel
theorem dX8_isPressure_1 : decode cX8_isPressure 1 = .ok (.i2l, 1) := by decide +kernel
theorem dX8_isPressure_2 : decode cX8_isPressure 2 = .ok (.lconst 0, 1) := by decide +kernel
theorem dX8_isPressure_3 : decode cX8_isPressure 3 = .ok (.ldc2_w 310, 3) := by decide +kernel
theorem dX8_isPressure_6 : decode cX8_isPressure 6 = .ok (.invokestatic 142, 3) := by decide +kernel
theorem dX8_isPressure_9 : decode cX8_isPressure 9 = .ok (.ireturn, 1) := by decide +kernel
theorem dX8_agree_0 : decode cX8_agree 0 = .ok (.aload_n 0, 1) := by decide +kernel
theorem dX8_agree_1 : decode cX8_agree 1 = .ok (.iconst 0, 1) := by decide +kernel
theorem dX8_agree_2 : decode cX8_agree 2 = .ok (.putfield 1, 3) := by decide +kernel
theorem dX8_agree_5 : decode cX8_agree 5 = .ok (.aload_n 0, 1) := by decide +kernel
theorem dX8_agree_6 : decode cX8_agree 6 = .ok (.aload_n 0, 1) := by decide +kernel
theorem dX8_agree_7 : decode cX8_agree 7 = .ok (.iload_n 1, 1) := by decide +kernel
theorem dX8_agree_8 : decode cX8_agree 8 = .ok (.invokevirtual 276, 3) := by decide +kernel
theorem dX8_agree_11 : decode cX8_agree 11 = .ok (.iconst 1, 1) := by decide +kernel
theorem dX8_agree_12 : decode cX8_agree 12 = .ok (.invokevirtual 187, 3) := by decide +kernel
theorem dX8_agree_15 : decode cX8_agree 15 = .ok (.ifCond .ne 15, 3) := by decide +kernel
theorem dX8_agree_18 : decode cX8_agree 18 = .ok (.aload_n 0, 1) := by decide +kernel
theorem dX8_agree_19 : decode cX8_agree 19 = .ok (.iload_n 2, 1) := by decide +kernel
theorem dX8_agree_20 : decode cX8_agree 20 = .ok (.invokestatic 312, 3) := by decide +kernel
theorem dX8_agree_23 : decode cX8_agree 23 = .ok (.iconst 2, 1) := by decide +kernel
theorem dX8_agree_24 : decode cX8_agree 24 = .ok (.invokevirtual 187, 3) := by decide +kernel
theorem dX8_agree_27 : decode cX8_agree 27 = .ok (.ifCond .eq 5, 3) := by decide +kernel
theorem dX8_agree_30 : decode cX8_agree 30 = .ok (.iconst 0, 1) := by decide +kernel
theorem dX8_agree_31 : decode cX8_agree 31 = .ok (.ireturn, 1) := by decide +kernel
theorem dX8_agree_32 : decode cX8_agree 32 = .ok (.iconst 0, 1) := by decide +kernel
theorem dX8_agree_33 : decode cX8_agree 33 = .ok (.istore_n 3, 1) := by decide +kernel
theorem dX8_agree_34 : decode cX8_agree 34 = .ok (.iload_n 3, 1) := by decide +kernel
theorem dX8_agree_35 : decode cX8_agree 35 = .ok (.aload_n 0, 1) := by decide +kernel
theorem dX8_agree_36 : decode cX8_agree 36 = .ok (.getfield 13, 3) := by decide +kernel
theorem dX8_agree_39 : decode cX8_agree 39 = .ok (.iconst 2, 1) := by decide +kernel
theorem dX8_agree_40 : decode cX8_agree 40 = .ok (.iaload, 1) := by decide +kernel
theorem dX8_agree_41 : decode cX8_agree 41 = .ok (.if_icmp .ge 86, 3) := by decide +kernel
theorem dX8_agree_44 : decode cX8_agree 44 = .ok (.aload_n 0, 1) := by decide +kernel
theorem dX8_agree_45 : decode cX8_agree 45 = .ok (.iload_n 3, 1) := by decide +kernel
theorem dX8_agree_46 : decode cX8_agree 46 = .ok (.iconst 1, 1) := by decide +kernel
theorem dX8_agree_47 : decode cX8_agree 47 = .ok (.invokevirtual 216, 3) := by decide +kernel
theorem dX8_agree_50 : decode cX8_agree 50 = .ok (.iload_n 1, 1) := by decide +kernel
theorem dX8_agree_51 : decode cX8_agree 51 = .ok (.if_icmp .ne 70, 3) := by decide +kernel
theorem dX8_agree_54 : decode cX8_agree 54 = .ok (.aload_n 0, 1) := by decide +kernel
theorem dX8_agree_55 : decode cX8_agree 55 = .ok (.iload_n 3, 1) := by decide +kernel
theorem dX8_agree_56 : decode cX8_agree 56 = .ok (.invokevirtual 230, 3) := by decide +kernel
theorem dX8_agree_59 : decode cX8_agree 59 = .ok (.ifCond .ne 6, 3) := by decide +kernel
theorem dX8_agree_62 : decode cX8_agree 62 = .ok (.goto 59, 3) := by decide +kernel
theorem dX8_agree_65 : decode cX8_agree 65 = .ok (.iconst 0, 1) := by decide +kernel
theorem dX8_agree_66 : decode cX8_agree 66 = .ok (.istore 4, 2) := by decide +kernel
theorem dX8_agree_68 : decode cX8_agree 68 = .ok (.iload 4, 2) := by decide +kernel
theorem dX8_agree_70 : decode cX8_agree 70 = .ok (.iload_n 3, 1) := by decide +kernel
theorem dX8_agree_71 : decode cX8_agree 71 = .ok (.if_icmp .ge 50, 3) := by decide +kernel
theorem dX8_agree_74 : decode cX8_agree 74 = .ok (.aload_n 0, 1) := by decide +kernel
theorem dX8_agree_75 : decode cX8_agree 75 = .ok (.iload 4, 2) := by decide +kernel
theorem dX8_agree_77 : decode cX8_agree 77 = .ok (.iconst 1, 1) := by decide +kernel
theorem dX8_agree_78 : decode cX8_agree 78 = .ok (.invokevirtual 216, 3) := by decide +kernel
theorem dX8_agree_81 : decode cX8_agree 81 = .ok (.iload_n 1, 1) := by decide +kernel
theorem dX8_agree_82 : decode cX8_agree 82 = .ok (.if_icmp .ne 33, 3) := by decide +kernel
theorem dX8_agree_85 : decode cX8_agree 85 = .ok (.aload_n 0, 1) := by decide +kernel
theorem dX8_agree_86 : decode cX8_agree 86 = .ok (.iload 4, 2) := by decide +kernel
theorem dX8_agree_88 : decode cX8_agree 88 = .ok (.invokevirtual 230, 3) := by decide +kernel
theorem dX8_agree_91 : decode cX8_agree 91 = .ok (.ifCond .eq 24, 3) := by decide +kernel
theorem dX8_agree_94 : decode cX8_agree 94 = .ok (.aload_n 0, 1) := by decide +kernel
theorem dX8_agree_95 : decode cX8_agree 95 = .ok (.iload_n 3, 1) := by decide +kernel
theorem dX8_agree_96 : decode cX8_agree 96 = .ok (.invokevirtual 268, 3) := by decide +kernel
theorem dX8_agree_99 : decode cX8_agree 99 = .ok (.aload_n 0, 1) := by decide +kernel
theorem dX8_agree_100 : decode cX8_agree 100 = .ok (.iload 4, 2) := by decide +kernel
theorem dX8_agree_102 : decode cX8_agree 102 = .ok (.invokevirtual 268, 3) := by decide +kernel
theorem dX8_agree_105 : decode cX8_agree 105 = .ok (.isub, 1) := by decide +kernel
theorem dX8_agree_106 : decode cX8_agree 106 = .ok (.invokestatic 307, 3) := by decide +kernel
theorem dX8_agree_109 : decode cX8_agree 109 = .ok (.iload_n 2, 1) := by decide +kernel
theorem dX8_agree_110 : decode cX8_agree 110 = .ok (.if_icmp .le 5, 3) := by decide +kernel
theorem dX8_agree_113 : decode cX8_agree 113 = .ok (.iconst 0, 1) := by decide +kernel
theorem dX8_agree_114 : decode cX8_agree 114 = .ok (.ireturn, 1) := by decide +kernel
theorem dX8_agree_115 : decode cX8_agree 115 = .ok (.iinc 4 1, 3) := by decide +kernel
theorem dX8_agree_118 : decode cX8_agree 118 = .ok (.goto (-50), 3) := by decide +kernel
theorem dX8_agree_121 : decode cX8_agree 121 = .ok (.iinc 3 1, 3) := by decide +kernel
theorem dX8_agree_124 : decode cX8_agree 124 = .ok (.goto (-90), 3) := by decide +kernel
theorem dX8_agree_127 : decode cX8_agree 127 = .ok (.iconst 1, 1) := by decide +kernel
theorem dX8_agree_128 : decode cX8_agree 128 = .ok (.ireturn, 1) := by decide +kernel
theorem dX8_brokenAside_0 : decode cX8_brokenAside 0 = .ok (.iconst 0, 1) := by decide +kernel
theorem dX8_brokenAside_1 : decode cX8_brokenAside 1 = .ok (.istore_n 1, 1) := by decide +kernel
theorem dX8_brokenAside_2 : decode cX8_brokenAside 2 = .ok (.iconst 0, 1) := by decide +kernel
theorem dX8_brokenAside_3 : decode cX8_brokenAside 3 = .ok (.istore_n 2, 1) := by decide +kernel
theorem dX8_brokenAside_4 : decode cX8_brokenAside 4 = .ok (.iload_n 2, 1) := by decide +kernel
theorem dX8_brokenAside_5 : decode cX8_brokenAside 5 = .ok (.aload_n 0, 1) := by decide +kernel
theorem dX8_brokenAside_6 : decode cX8_brokenAside 6 = .ok (.getfield 13, 3) := by decide +kernel
theorem dX8_brokenAside_9 : decode cX8_brokenAside 9 = .ok (.iconst 2, 1) := by decide +kernel
theorem dX8_brokenAside_10 : decode cX8_brokenAside 10 = .ok (.iaload, 1) := by decide +kernel
theorem dX8_brokenAside_11 : decode cX8_brokenAside 11 = .ok (.if_icmp .ge 41, 3) := by decide +kernel
theorem dX8_brokenAside_14 : decode cX8_brokenAside 14 = .ok (.iload_n 1, 1) := by decide +kernel
theorem dX8_brokenAside_15 : decode cX8_brokenAside 15 = .ok (.aload_n 0, 1) := by decide +kernel
theorem dX8_brokenAside_16 : decode cX8_brokenAside 16 = .ok (.iload_n 2, 1) := by decide +kernel
theorem dX8_brokenAside_17 : decode cX8_brokenAside 17 = .ok (.invokevirtual 230, 3) := by decide +kernel
theorem dX8_brokenAside_20 : decode cX8_brokenAside 20 = .ok (.ifCond .ne 17, 3) := by decide +kernel
theorem dX8_brokenAside_23 : decode cX8_brokenAside 23 = .ok (.aload_n 0, 1) := by decide +kernel
theorem dX8_brokenAside_24 : decode cX8_brokenAside 24 = .ok (.getfield 20, 3) := by decide +kernel
theorem dX8_brokenAside_27 : decode cX8_brokenAside 27 = .ok (.iload_n 2, 1) := by decide +kernel
theorem dX8_brokenAside_28 : decode cX8_brokenAside 28 = .ok (.bipush 6, 2) := by decide +kernel
theorem dX8_brokenAside_30 : decode cX8_brokenAside 30 = .ok (.invokestatic 164, 3) := by decide +kernel
theorem dX8_brokenAside_33 : decode cX8_brokenAside 33 = .ok (.iaload, 1) := by decide +kernel
theorem dX8_brokenAside_34 : decode cX8_brokenAside 34 = .ok (.ifCond .eq 7, 3) := by decide +kernel
theorem dX8_brokenAside_37 : decode cX8_brokenAside 37 = .ok (.iconst 0, 1) := by decide +kernel
theorem dX8_brokenAside_38 : decode cX8_brokenAside 38 = .ok (.goto 6, 3) := by decide +kernel
theorem dX8_brokenAside_41 : decode cX8_brokenAside 41 = .ok (.iconst 1, 1) := by decide +kernel
theorem dX8_brokenAside_42 : decode cX8_brokenAside 42 = .ok (.iload_n 2, 1) := by decide +kernel
theorem dX8_brokenAside_43 : decode cX8_brokenAside 43 = .ok (.ishl, 1) := by decide +kernel
theorem dX8_brokenAside_44 : decode cX8_brokenAside 44 = .ok (.ior, 1) := by decide +kernel
theorem dX8_brokenAside_45 : decode cX8_brokenAside 45 = .ok (.istore_n 1, 1) := by decide +kernel
theorem dX8_brokenAside_46 : decode cX8_brokenAside 46 = .ok (.iinc 2 1, 3) := by decide +kernel
theorem dX8_brokenAside_49 : decode cX8_brokenAside 49 = .ok (.goto (-45), 3) := by decide +kernel
theorem dX8_brokenAside_52 : decode cX8_brokenAside 52 = .ok (.iload_n 1, 1) := by decide +kernel
theorem dX8_brokenAside_53 : decode cX8_brokenAside 53 = .ok (.ireturn, 1) := by decide +kernel
theorem dX8_wouldBreak_0 : decode cX8_wouldBreak 0 = .ok (.aload_n 0, 1) := by decide +kernel
theorem dX8_wouldBreak_1 : decode cX8_wouldBreak 1 = .ok (.iconst 0, 1) := by decide +kernel
theorem dX8_wouldBreak_2 : decode cX8_wouldBreak 2 = .ok (.putfield 1, 3) := by decide +kernel
theorem dX8_wouldBreak_5 : decode cX8_wouldBreak 5 = .ok (.aload_n 0, 1) := by decide +kernel
theorem dX8_wouldBreak_6 : decode cX8_wouldBreak 6 = .ok (.aload_n 0, 1) := by decide +kernel
theorem dX8_wouldBreak_7 : decode cX8_wouldBreak 7 = .ok (.iload_n 1, 1) := by decide +kernel
theorem dX8_wouldBreak_8 : decode cX8_wouldBreak 8 = .ok (.invokevirtual 276, 3) := by decide +kernel
theorem dX8_wouldBreak_11 : decode cX8_wouldBreak 11 = .ok (.iconst 1, 1) := by decide +kernel
theorem dX8_wouldBreak_12 : decode cX8_wouldBreak 12 = .ok (.invokevirtual 187, 3) := by decide +kernel
theorem dX8_wouldBreak_15 : decode cX8_wouldBreak 15 = .ok (.ifCond .ne 15, 3) := by decide +kernel
theorem dX8_wouldBreak_18 : decode cX8_wouldBreak 18 = .ok (.aload_n 0, 1) := by decide +kernel
theorem dX8_wouldBreak_19 : decode cX8_wouldBreak 19 = .ok (.iload_n 2, 1) := by decide +kernel
theorem dX8_wouldBreak_20 : decode cX8_wouldBreak 20 = .ok (.invokestatic 312, 3) := by decide +kernel
theorem dX8_wouldBreak_23 : decode cX8_wouldBreak 23 = .ok (.iconst 2, 1) := by decide +kernel
theorem dX8_wouldBreak_24 : decode cX8_wouldBreak 24 = .ok (.invokevirtual 187, 3) := by decide +kernel
theorem dX8_wouldBreak_27 : decode cX8_wouldBreak 27 = .ok (.ifCond .eq 5, 3) := by decide +kernel
theorem dX8_wouldBreak_30 : decode cX8_wouldBreak 30 = .ok (.iconst 0, 1) := by decide +kernel
theorem dX8_wouldBreak_31 : decode cX8_wouldBreak 31 = .ok (.ireturn, 1) := by decide +kernel
theorem dX8_wouldBreak_32 : decode cX8_wouldBreak 32 = .ok (.aload_n 0, 1) := by decide +kernel
theorem dX8_wouldBreak_33 : decode cX8_wouldBreak 33 = .ok (.invokevirtual 191, 3) := by decide +kernel
theorem dX8_wouldBreak_36 : decode cX8_wouldBreak 36 = .ok (.aload_n 0, 1) := by decide +kernel
theorem dX8_wouldBreak_37 : decode cX8_wouldBreak 37 = .ok (.getfield 13, 3) := by decide +kernel
theorem dX8_wouldBreak_40 : decode cX8_wouldBreak 40 = .ok (.iconst 4, 1) := by decide +kernel
theorem dX8_wouldBreak_41 : decode cX8_wouldBreak 41 = .ok (.iload_n 1, 1) := by decide +kernel
theorem dX8_wouldBreak_42 : decode cX8_wouldBreak 42 = .ok (.iadd, 1) := by decide +kernel
theorem dX8_wouldBreak_43 : decode cX8_wouldBreak 43 = .ok (.iload_n 2, 1) := by decide +kernel
theorem dX8_wouldBreak_44 : decode cX8_wouldBreak 44 = .ok (.iastore, 1) := by decide +kernel
theorem dX8_wouldBreak_45 : decode cX8_wouldBreak 45 = .ok (.aload_n 0, 1) := by decide +kernel
theorem dX8_wouldBreak_46 : decode cX8_wouldBreak 46 = .ok (.invokevirtual 203, 3) := by decide +kernel
theorem dX8_wouldBreak_49 : decode cX8_wouldBreak 49 = .ok (.istore_n 3, 1) := by decide +kernel
theorem dX8_wouldBreak_50 : decode cX8_wouldBreak 50 = .ok (.aload_n 0, 1) := by decide +kernel
theorem dX8_wouldBreak_51 : decode cX8_wouldBreak 51 = .ok (.invokevirtual 315, 3) := by decide +kernel
theorem dX8_wouldBreak_54 : decode cX8_wouldBreak 54 = .ok (.istore 4, 2) := by decide +kernel
theorem dX8_wouldBreak_56 : decode cX8_wouldBreak 56 = .ok (.aload_n 0, 1) := by decide +kernel
theorem dX8_wouldBreak_57 : decode cX8_wouldBreak 57 = .ok (.invokevirtual 200, 3) := by decide +kernel
theorem dX8_wouldBreak_60 : decode cX8_wouldBreak 60 = .ok (.iload 4, 2) := by decide +kernel
theorem dX8_wouldBreak_62 : decode cX8_wouldBreak 62 = .ok (.ireturn, 1) := by decide +kernel
theorem dX8_readingWith_0 : decode cX8_readingWith 0 = .ok (.aload_n 0, 1) := by decide +kernel
theorem dX8_readingWith_1 : decode cX8_readingWith 1 = .ok (.iconst 0, 1) := by decide +kernel
theorem dX8_readingWith_2 : decode cX8_readingWith 2 = .ok (.putfield 1, 3) := by decide +kernel
theorem dX8_readingWith_5 : decode cX8_readingWith 5 = .ok (.aload_n 0, 1) := by decide +kernel
theorem dX8_readingWith_6 : decode cX8_readingWith 6 = .ok (.aload_n 0, 1) := by decide +kernel
theorem dX8_readingWith_7 : decode cX8_readingWith 7 = .ok (.iload_n 1, 1) := by decide +kernel
theorem dX8_readingWith_8 : decode cX8_readingWith 8 = .ok (.invokevirtual 289, 3) := by decide +kernel
theorem dX8_readingWith_11 : decode cX8_readingWith 11 = .ok (.ifCond .eq 15, 3) := by decide +kernel
theorem dX8_readingWith_14 : decode cX8_readingWith 14 = .ok (.aload_n 0, 1) := by decide +kernel
theorem dX8_readingWith_15 : decode cX8_readingWith 15 = .ok (.iload_n 2, 1) := by decide +kernel
theorem dX8_readingWith_16 : decode cX8_readingWith 16 = .ok (.invokevirtual 276, 3) := by decide +kernel
theorem dX8_readingWith_19 : decode cX8_readingWith 19 = .ok (.ifCond .eq 7, 3) := by decide +kernel
theorem dX8_readingWith_22 : decode cX8_readingWith 22 = .ok (.iconst 1, 1) := by decide +kernel
theorem dX8_readingWith_23 : decode cX8_readingWith 23 = .ok (.goto 4, 3) := by decide +kernel
theorem dX8_readingWith_26 : decode cX8_readingWith 26 = .ok (.iconst 0, 1) := by decide +kernel
theorem dX8_readingWith_27 : decode cX8_readingWith 27 = .ok (.iconst 1, 1) := by decide +kernel
theorem dX8_readingWith_28 : decode cX8_readingWith 28 = .ok (.invokevirtual 187, 3) := by decide +kernel
theorem dX8_readingWith_31 : decode cX8_readingWith 31 = .ok (.ifCond .ne 15, 3) := by decide +kernel
theorem dX8_readingWith_34 : decode cX8_readingWith 34 = .ok (.aload_n 0, 1) := by decide +kernel
theorem dX8_readingWith_35 : decode cX8_readingWith 35 = .ok (.iload_n 3, 1) := by decide +kernel
theorem dX8_readingWith_36 : decode cX8_readingWith 36 = .ok (.invokestatic 312, 3) := by decide +kernel
theorem dX8_readingWith_39 : decode cX8_readingWith 39 = .ok (.iconst 2, 1) := by decide +kernel
theorem dX8_readingWith_40 : decode cX8_readingWith 40 = .ok (.invokevirtual 187, 3) := by decide +kernel
theorem dX8_readingWith_43 : decode cX8_readingWith 43 = .ok (.ifCond .eq 5, 3) := by decide +kernel
theorem dX8_readingWith_46 : decode cX8_readingWith 46 = .ok (.iconst 0, 1) := by decide +kernel
theorem dX8_readingWith_47 : decode cX8_readingWith 47 = .ok (.ireturn, 1) := by decide +kernel
theorem dX8_readingWith_48 : decode cX8_readingWith 48 = .ok (.aload_n 0, 1) := by decide +kernel
theorem dX8_readingWith_49 : decode cX8_readingWith 49 = .ok (.invokevirtual 191, 3) := by decide +kernel
theorem dX8_readingWith_52 : decode cX8_readingWith 52 = .ok (.aload_n 0, 1) := by decide +kernel
theorem dX8_readingWith_53 : decode cX8_readingWith 53 = .ok (.getfield 13, 3) := by decide +kernel
theorem dX8_readingWith_56 : decode cX8_readingWith 56 = .ok (.iconst 4, 1) := by decide +kernel
theorem dX8_readingWith_57 : decode cX8_readingWith 57 = .ok (.iload_n 2, 1) := by decide +kernel
theorem dX8_readingWith_58 : decode cX8_readingWith 58 = .ok (.iadd, 1) := by decide +kernel
theorem dX8_readingWith_59 : decode cX8_readingWith 59 = .ok (.iload_n 3, 1) := by decide +kernel
theorem dX8_readingWith_60 : decode cX8_readingWith 60 = .ok (.iastore, 1) := by decide +kernel
theorem dX8_readingWith_61 : decode cX8_readingWith 61 = .ok (.aload_n 0, 1) := by decide +kernel
theorem dX8_readingWith_62 : decode cX8_readingWith 62 = .ok (.invokevirtual 203, 3) := by decide +kernel
theorem dX8_readingWith_65 : decode cX8_readingWith 65 = .ok (.istore 4, 2) := by decide +kernel
theorem dX8_readingWith_67 : decode cX8_readingWith 67 = .ok (.aload_n 0, 1) := by decide +kernel
theorem dX8_readingWith_68 : decode cX8_readingWith 68 = .ok (.iload_n 1, 1) := by decide +kernel
theorem dX8_readingWith_69 : decode cX8_readingWith 69 = .ok (.invokevirtual 294, 3) := by decide +kernel
theorem dX8_readingWith_72 : decode cX8_readingWith 72 = .ok (.istore 5, 2) := by decide +kernel
theorem dX8_readingWith_74 : decode cX8_readingWith 74 = .ok (.aload_n 0, 1) := by decide +kernel
theorem dX8_readingWith_75 : decode cX8_readingWith 75 = .ok (.invokevirtual 200, 3) := by decide +kernel
theorem dX8_readingWith_78 : decode cX8_readingWith 78 = .ok (.iload 5, 2) := by decide +kernel
theorem dX8_readingWith_80 : decode cX8_readingWith 80 = .ok (.ireturn, 1) := by decide +kernel
theorem dX8_held_0 : decode cX8_held 0 = .ok (.iload_n 0, 1) := by decide +kernel
theorem dX8_held_1 : decode cX8_held 1 = .ok (.ifCond .ge 7, 3) := by decide +kernel
theorem dX8_held_4 : decode cX8_held 4 = .ok (.iconst 0, 1) := by decide +kernel
theorem dX8_held_5 : decode cX8_held 5 = .ok (.goto 15, 3) := by decide +kernel
theorem dX8_held_8 : decode cX8_held 8 = .ok (.iload_n 0, 1) := by decide +kernel
theorem dX8_held_9 : decode cX8_held 9 = .ok (.ldc 150, 2) := by decide +kernel
theorem dX8_held_11 : decode cX8_held 11 = .ok (.if_icmp .le 8, 3) := by decide +kernel
theorem dX8_held_14 : decode cX8_held 14 = .ok (.ldc 150, 2) := by decide +kernel
theorem dX8_held_16 : decode cX8_held 16 = .ok (.goto 4, 3) := by decide +kernel
theorem dX8_held_19 : decode cX8_held 19 = .ok (.iload_n 0, 1) := by decide +kernel
theorem dX8_held_20 : decode cX8_held 20 = .ok (.ireturn, 1) := by decide +kernel
theorem dX8_breaksIn_0 : decode cX8_breaksIn 0 = .ok (.aload_n 0, 1) := by decide +kernel
theorem dX8_breaksIn_1 : decode cX8_breaksIn 1 = .ok (.iconst 0, 1) := by decide +kernel
theorem dX8_breaksIn_2 : decode cX8_breaksIn 2 = .ok (.putfield 1, 3) := by decide +kernel
theorem dX8_breaksIn_5 : decode cX8_breaksIn 5 = .ok (.aload_n 0, 1) := by decide +kernel
theorem dX8_breaksIn_6 : decode cX8_breaksIn 6 = .ok (.aload_n 0, 1) := by decide +kernel
theorem dX8_breaksIn_7 : decode cX8_breaksIn 7 = .ok (.iload_n 1, 1) := by decide +kernel
theorem dX8_breaksIn_8 : decode cX8_breaksIn 8 = .ok (.invokevirtual 276, 3) := by decide +kernel
theorem dX8_breaksIn_11 : decode cX8_breaksIn 11 = .ok (.iconst 1, 1) := by decide +kernel
theorem dX8_breaksIn_12 : decode cX8_breaksIn 12 = .ok (.invokevirtual 187, 3) := by decide +kernel
theorem dX8_breaksIn_15 : decode cX8_breaksIn 15 = .ok (.ifCond .ne 22, 3) := by decide +kernel
theorem dX8_breaksIn_18 : decode cX8_breaksIn 18 = .ok (.aload_n 0, 1) := by decide +kernel
theorem dX8_breaksIn_19 : decode cX8_breaksIn 19 = .ok (.iload_n 2, 1) := by decide +kernel
theorem dX8_breaksIn_20 : decode cX8_breaksIn 20 = .ok (.i2l, 1) := by decide +kernel
theorem dX8_breaksIn_21 : decode cX8_breaksIn 21 = .ok (.ldc2_w 318, 3) := by decide +kernel
theorem dX8_breaksIn_24 : decode cX8_breaksIn 24 = .ok (.ldc2_w 320, 3) := by decide +kernel
theorem dX8_breaksIn_27 : decode cX8_breaksIn 27 = .ok (.invokestatic 142, 3) := by decide +kernel
theorem dX8_breaksIn_30 : decode cX8_breaksIn 30 = .ok (.iconst 2, 1) := by decide +kernel
theorem dX8_breaksIn_31 : decode cX8_breaksIn 31 = .ok (.invokevirtual 187, 3) := by decide +kernel
theorem dX8_breaksIn_34 : decode cX8_breaksIn 34 = .ok (.ifCond .eq 5, 3) := by decide +kernel
theorem dX8_breaksIn_37 : decode cX8_breaksIn 37 = .ok (.iconst 0, 1) := by decide +kernel
theorem dX8_breaksIn_38 : decode cX8_breaksIn 38 = .ok (.ireturn, 1) := by decide +kernel
theorem dX8_breaksIn_39 : decode cX8_breaksIn 39 = .ok (.aload_n 0, 1) := by decide +kernel
theorem dX8_breaksIn_40 : decode cX8_breaksIn 40 = .ok (.invokevirtual 191, 3) := by decide +kernel
theorem dX8_breaksIn_43 : decode cX8_breaksIn 43 = .ok (.iconst 0, 1) := by decide +kernel
theorem dX8_breaksIn_44 : decode cX8_breaksIn 44 = .ok (.istore_n 3, 1) := by decide +kernel
theorem dX8_breaksIn_45 : decode cX8_breaksIn 45 = .ok (.iconst 0, 1) := by decide +kernel
theorem dX8_breaksIn_46 : decode cX8_breaksIn 46 = .ok (.istore 4, 2) := by decide +kernel
theorem dX8_breaksIn_48 : decode cX8_breaksIn 48 = .ok (.iload_n 3, 1) := by decide +kernel
theorem dX8_breaksIn_49 : decode cX8_breaksIn 49 = .ok (.bipush 60, 2) := by decide +kernel
theorem dX8_breaksIn_51 : decode cX8_breaksIn 51 = .ok (.if_icmp .ge 41, 3) := by decide +kernel
theorem dX8_breaksIn_54 : decode cX8_breaksIn 54 = .ok (.iload 4, 2) := by decide +kernel
theorem dX8_breaksIn_56 : decode cX8_breaksIn 56 = .ok (.ifCond .ne 36, 3) := by decide +kernel
theorem dX8_breaksIn_59 : decode cX8_breaksIn 59 = .ok (.aload_n 0, 1) := by decide +kernel
theorem dX8_breaksIn_60 : decode cX8_breaksIn 60 = .ok (.getfield 13, 3) := by decide +kernel
theorem dX8_breaksIn_63 : decode cX8_breaksIn 63 = .ok (.iconst 4, 1) := by decide +kernel
theorem dX8_breaksIn_64 : decode cX8_breaksIn 64 = .ok (.iload_n 1, 1) := by decide +kernel
theorem dX8_breaksIn_65 : decode cX8_breaksIn 65 = .ok (.iadd, 1) := by decide +kernel
theorem dX8_breaksIn_66 : decode cX8_breaksIn 66 = .ok (.aload_n 0, 1) := by decide +kernel
theorem dX8_breaksIn_67 : decode cX8_breaksIn 67 = .ok (.getfield 13, 3) := by decide +kernel
theorem dX8_breaksIn_70 : decode cX8_breaksIn 70 = .ok (.iconst 4, 1) := by decide +kernel
theorem dX8_breaksIn_71 : decode cX8_breaksIn 71 = .ok (.iload_n 1, 1) := by decide +kernel
theorem dX8_breaksIn_72 : decode cX8_breaksIn 72 = .ok (.iadd, 1) := by decide +kernel
theorem dX8_breaksIn_73 : decode cX8_breaksIn 73 = .ok (.iaload, 1) := by decide +kernel
theorem dX8_breaksIn_74 : decode cX8_breaksIn 74 = .ok (.iload_n 2, 1) := by decide +kernel
theorem dX8_breaksIn_75 : decode cX8_breaksIn 75 = .ok (.iadd, 1) := by decide +kernel
theorem dX8_breaksIn_76 : decode cX8_breaksIn 76 = .ok (.invokestatic 322, 3) := by decide +kernel
theorem dX8_breaksIn_79 : decode cX8_breaksIn 79 = .ok (.iastore, 1) := by decide +kernel
theorem dX8_breaksIn_80 : decode cX8_breaksIn 80 = .ok (.aload_n 0, 1) := by decide +kernel
theorem dX8_breaksIn_81 : decode cX8_breaksIn 81 = .ok (.invokevirtual 203, 3) := by decide +kernel
theorem dX8_breaksIn_84 : decode cX8_breaksIn 84 = .ok (.istore 4, 2) := by decide +kernel
theorem dX8_breaksIn_86 : decode cX8_breaksIn 86 = .ok (.iinc 3 1, 3) := by decide +kernel
theorem dX8_breaksIn_89 : decode cX8_breaksIn 89 = .ok (.goto (-41), 3) := by decide +kernel
theorem dX8_breaksIn_92 : decode cX8_breaksIn 92 = .ok (.aload_n 0, 1) := by decide +kernel
theorem dX8_breaksIn_93 : decode cX8_breaksIn 93 = .ok (.invokevirtual 200, 3) := by decide +kernel
theorem dX8_breaksIn_96 : decode cX8_breaksIn 96 = .ok (.iload 4, 2) := by decide +kernel
theorem dX8_breaksIn_98 : decode cX8_breaksIn 98 = .ok (.ifCond .le 7, 3) := by decide +kernel
theorem dX8_breaksIn_101 : decode cX8_breaksIn 101 = .ok (.iload_n 3, 1) := by decide +kernel
theorem dX8_breaksIn_102 : decode cX8_breaksIn 102 = .ok (.goto 4, 3) := by decide +kernel
theorem dX8_breaksIn_105 : decode cX8_breaksIn 105 = .ok (.iconst (-1), 1) := by decide +kernel
theorem dX8_breaksIn_106 : decode cX8_breaksIn 106 = .ok (.ireturn, 1) := by decide +kernel
theorem dX8_bestSlant_0 : decode cX8_bestSlant 0 = .ok (.aload_n 0, 1) := by decide +kernel
theorem dX8_bestSlant_1 : decode cX8_bestSlant 1 = .ok (.iconst 0, 1) := by decide +kernel
theorem dX8_bestSlant_2 : decode cX8_bestSlant 2 = .ok (.putfield 1, 3) := by decide +kernel
theorem dX8_bestSlant_5 : decode cX8_bestSlant 5 = .ok (.aload_n 0, 1) := by decide +kernel
theorem dX8_bestSlant_6 : decode cX8_bestSlant 6 = .ok (.aload_n 0, 1) := by decide +kernel
theorem dX8_bestSlant_7 : decode cX8_bestSlant 7 = .ok (.iload_n 1, 1) := by decide +kernel
theorem dX8_bestSlant_8 : decode cX8_bestSlant 8 = .ok (.invokevirtual 289, 3) := by decide +kernel
theorem dX8_bestSlant_11 : decode cX8_bestSlant 11 = .ok (.iconst 1, 1) := by decide +kernel
theorem dX8_bestSlant_12 : decode cX8_bestSlant 12 = .ok (.invokevirtual 187, 3) := by decide +kernel
theorem dX8_bestSlant_15 : decode cX8_bestSlant 15 = .ok (.ifCond .eq 5, 3) := by decide +kernel
theorem dX8_bestSlant_18 : decode cX8_bestSlant 18 = .ok (.iconst 0, 1) := by decide +kernel
theorem dX8_bestSlant_19 : decode cX8_bestSlant 19 = .ok (.ireturn, 1) := by decide +kernel
theorem dX8_bestSlant_20 : decode cX8_bestSlant 20 = .ok (.iconst (-1), 1) := by decide +kernel
theorem dX8_bestSlant_21 : decode cX8_bestSlant 21 = .ok (.istore_n 2, 1) := by decide +kernel
theorem dX8_bestSlant_22 : decode cX8_bestSlant 22 = .ok (.iconst (-1), 1) := by decide +kernel
theorem dX8_bestSlant_23 : decode cX8_bestSlant 23 = .ok (.istore_n 3, 1) := by decide +kernel
theorem dX8_bestSlant_24 : decode cX8_bestSlant 24 = .ok (.bipush 50, 2) := by decide +kernel
theorem dX8_bestSlant_26 : decode cX8_bestSlant 26 = .ok (.istore 4, 2) := by decide +kernel
theorem dX8_bestSlant_28 : decode cX8_bestSlant 28 = .ok (.iload 4, 2) := by decide +kernel
theorem dX8_bestSlant_30 : decode cX8_bestSlant 30 = .ok (.sipush 1000, 3) := by decide +kernel
theorem dX8_bestSlant_33 : decode cX8_bestSlant 33 = .ok (.if_icmp .gt 76, 3) := by decide +kernel
theorem dX8_bestSlant_36 : decode cX8_bestSlant 36 = .ok (.aload_n 0, 1) := by decide +kernel
theorem dX8_bestSlant_37 : decode cX8_bestSlant 37 = .ok (.iload_n 1, 1) := by decide +kernel
theorem dX8_bestSlant_38 : decode cX8_bestSlant 38 = .ok (.invokevirtual 230, 3) := by decide +kernel
theorem dX8_bestSlant_41 : decode cX8_bestSlant 41 = .ok (.ifCond .eq 68, 3) := by decide +kernel
theorem dX8_bestSlant_44 : decode cX8_bestSlant 44 = .ok (.aload_n 0, 1) := by decide +kernel
theorem dX8_bestSlant_45 : decode cX8_bestSlant 45 = .ok (.invokevirtual 191, 3) := by decide +kernel
theorem dX8_bestSlant_48 : decode cX8_bestSlant 48 = .ok (.aload_n 0, 1) := by decide +kernel
theorem dX8_bestSlant_49 : decode cX8_bestSlant 49 = .ok (.getfield 13, 3) := by decide +kernel
theorem dX8_bestSlant_52 : decode cX8_bestSlant 52 = .ok (.iload_n 1, 1) := by decide +kernel
theorem dX8_bestSlant_53 : decode cX8_bestSlant 53 = .ok (.iconst 3, 1) := by decide +kernel
theorem dX8_bestSlant_54 : decode cX8_bestSlant 54 = .ok (.invokestatic 164, 3) := by decide +kernel
theorem dX8_bestSlant_57 : decode cX8_bestSlant 57 = .ok (.iload 4, 2) := by decide +kernel
theorem dX8_bestSlant_59 : decode cX8_bestSlant 59 = .ok (.iastore, 1) := by decide +kernel
theorem dX8_bestSlant_60 : decode cX8_bestSlant 60 = .ok (.aload_n 0, 1) := by decide +kernel
theorem dX8_bestSlant_61 : decode cX8_bestSlant 61 = .ok (.invokevirtual 203, 3) := by decide +kernel
theorem dX8_bestSlant_64 : decode cX8_bestSlant 64 = .ok (.ifCond .le 7, 3) := by decide +kernel
theorem dX8_bestSlant_67 : decode cX8_bestSlant 67 = .ok (.iconst (-1), 1) := by decide +kernel
theorem dX8_bestSlant_68 : decode cX8_bestSlant 68 = .ok (.goto 8, 3) := by decide +kernel
theorem dX8_bestSlant_71 : decode cX8_bestSlant 71 = .ok (.aload_n 0, 1) := by decide +kernel
theorem dX8_bestSlant_72 : decode cX8_bestSlant 72 = .ok (.iload_n 1, 1) := by decide +kernel
theorem dX8_bestSlant_73 : decode cX8_bestSlant 73 = .ok (.invokevirtual 259, 3) := by decide +kernel
theorem dX8_bestSlant_76 : decode cX8_bestSlant 76 = .ok (.istore 5, 2) := by decide +kernel
theorem dX8_bestSlant_78 : decode cX8_bestSlant 78 = .ok (.aload_n 0, 1) := by decide +kernel
theorem dX8_bestSlant_79 : decode cX8_bestSlant 79 = .ok (.invokevirtual 200, 3) := by decide +kernel
theorem dX8_bestSlant_82 : decode cX8_bestSlant 82 = .ok (.iload 5, 2) := by decide +kernel
theorem dX8_bestSlant_84 : decode cX8_bestSlant 84 = .ok (.iconst (-1), 1) := by decide +kernel
theorem dX8_bestSlant_85 : decode cX8_bestSlant 85 = .ok (.if_icmp .eq 18, 3) := by decide +kernel
theorem dX8_bestSlant_88 : decode cX8_bestSlant 88 = .ok (.iload 5, 2) := by decide +kernel
theorem dX8_bestSlant_90 : decode cX8_bestSlant 90 = .ok (.iload_n 3, 1) := by decide +kernel
theorem dX8_bestSlant_91 : decode cX8_bestSlant 91 = .ok (.if_icmp .ge 6, 3) := by decide +kernel
theorem dX8_bestSlant_94 : decode cX8_bestSlant 94 = .ok (.goto 9, 3) := by decide +kernel
theorem dX8_bestSlant_97 : decode cX8_bestSlant 97 = .ok (.iload 4, 2) := by decide +kernel
theorem dX8_bestSlant_99 : decode cX8_bestSlant 99 = .ok (.istore_n 2, 1) := by decide +kernel
theorem dX8_bestSlant_100 : decode cX8_bestSlant 100 = .ok (.iload 5, 2) := by decide +kernel
theorem dX8_bestSlant_102 : decode cX8_bestSlant 102 = .ok (.istore_n 3, 1) := by decide +kernel
theorem dX8_bestSlant_103 : decode cX8_bestSlant 103 = .ok (.iinc 4 50, 3) := by decide +kernel
theorem dX8_bestSlant_106 : decode cX8_bestSlant 106 = .ok (.goto (-78), 3) := by decide +kernel
theorem dX8_bestSlant_109 : decode cX8_bestSlant 109 = .ok (.iload_n 2, 1) := by decide +kernel
theorem dX8_bestSlant_110 : decode cX8_bestSlant 110 = .ok (.ireturn, 1) := by decide +kernel
theorem dX8_lostWith_0 : decode cX8_lostWith 0 = .ok (.aload_n 0, 1) := by decide +kernel
theorem dX8_lostWith_1 : decode cX8_lostWith 1 = .ok (.iconst 0, 1) := by decide +kernel
theorem dX8_lostWith_2 : decode cX8_lostWith 2 = .ok (.putfield 1, 3) := by decide +kernel
theorem dX8_lostWith_5 : decode cX8_lostWith 5 = .ok (.aload_n 0, 1) := by decide +kernel
theorem dX8_lostWith_6 : decode cX8_lostWith 6 = .ok (.iload_n 1, 1) := by decide +kernel
theorem dX8_lostWith_7 : decode cX8_lostWith 7 = .ok (.invokestatic 312, 3) := by decide +kernel
theorem dX8_lostWith_10 : decode cX8_lostWith 10 = .ok (.iconst 1, 1) := by decide +kernel
theorem dX8_lostWith_11 : decode cX8_lostWith 11 = .ok (.invokevirtual 187, 3) := by decide +kernel
theorem dX8_lostWith_14 : decode cX8_lostWith 14 = .ok (.ifCond .eq 5, 3) := by decide +kernel
theorem dX8_lostWith_17 : decode cX8_lostWith 17 = .ok (.iconst 0, 1) := by decide +kernel
theorem dX8_lostWith_18 : decode cX8_lostWith 18 = .ok (.ireturn, 1) := by decide +kernel
theorem dX8_lostWith_19 : decode cX8_lostWith 19 = .ok (.aload_n 0, 1) := by decide +kernel
theorem dX8_lostWith_20 : decode cX8_lostWith 20 = .ok (.invokevirtual 191, 3) := by decide +kernel
theorem dX8_lostWith_23 : decode cX8_lostWith 23 = .ok (.aload_n 0, 1) := by decide +kernel
theorem dX8_lostWith_24 : decode cX8_lostWith 24 = .ok (.getfield 13, 3) := by decide +kernel
theorem dX8_lostWith_27 : decode cX8_lostWith 27 = .ok (.iconst 1, 1) := by decide +kernel
theorem dX8_lostWith_28 : decode cX8_lostWith 28 = .ok (.iload_n 1, 1) := by decide +kernel
theorem dX8_lostWith_29 : decode cX8_lostWith 29 = .ok (.iastore, 1) := by decide +kernel
theorem dX8_lostWith_30 : decode cX8_lostWith 30 = .ok (.aload_n 0, 1) := by decide +kernel
theorem dX8_lostWith_31 : decode cX8_lostWith 31 = .ok (.invokevirtual 203, 3) := by decide +kernel
theorem dX8_lostWith_34 : decode cX8_lostWith 34 = .ok (.istore_n 2, 1) := by decide +kernel
theorem dX8_lostWith_35 : decode cX8_lostWith 35 = .ok (.aload_n 0, 1) := by decide +kernel
theorem dX8_lostWith_36 : decode cX8_lostWith 36 = .ok (.invokevirtual 200, 3) := by decide +kernel
theorem dX8_lostWith_39 : decode cX8_lostWith 39 = .ok (.iload_n 2, 1) := by decide +kernel
theorem dX8_lostWith_40 : decode cX8_lostWith 40 = .ok (.ireturn, 1) := by decide +kernel
theorem dX8_meanReading_0 : decode cX8_meanReading 0 = .ok (.aload_n 0, 1) := by decide +kernel
theorem dX8_meanReading_1 : decode cX8_meanReading 1 = .ok (.iconst 0, 1) := by decide +kernel
theorem dX8_meanReading_2 : decode cX8_meanReading 2 = .ok (.putfield 1, 3) := by decide +kernel
theorem dX8_meanReading_5 : decode cX8_meanReading 5 = .ok (.lconst 0, 1) := by decide +kernel
theorem dX8_meanReading_6 : decode cX8_meanReading 6 = .ok (.lstore_n 1, 1) := by decide +kernel
theorem dX8_meanReading_7 : decode cX8_meanReading 7 = .ok (.iconst 0, 1) := by decide +kernel
theorem dX8_meanReading_8 : decode cX8_meanReading 8 = .ok (.istore_n 3, 1) := by decide +kernel
theorem dX8_meanReading_9 : decode cX8_meanReading 9 = .ok (.iload_n 3, 1) := by decide +kernel
theorem dX8_meanReading_10 : decode cX8_meanReading 10 = .ok (.aload_n 0, 1) := by decide +kernel
theorem dX8_meanReading_11 : decode cX8_meanReading 11 = .ok (.getfield 13, 3) := by decide +kernel
theorem dX8_meanReading_14 : decode cX8_meanReading 14 = .ok (.iconst 2, 1) := by decide +kernel
theorem dX8_meanReading_15 : decode cX8_meanReading 15 = .ok (.iaload, 1) := by decide +kernel
theorem dX8_meanReading_16 : decode cX8_meanReading 16 = .ok (.if_icmp .ge 30, 3) := by decide +kernel
theorem dX8_meanReading_19 : decode cX8_meanReading 19 = .ok (.lload_n 1, 1) := by decide +kernel
theorem dX8_meanReading_20 : decode cX8_meanReading 20 = .ok (.aload_n 0, 1) := by decide +kernel
theorem dX8_meanReading_21 : decode cX8_meanReading 21 = .ok (.iload_n 3, 1) := by decide +kernel
theorem dX8_meanReading_22 : decode cX8_meanReading 22 = .ok (.invokevirtual 230, 3) := by decide +kernel
theorem dX8_meanReading_25 : decode cX8_meanReading 25 = .ok (.ifCond .eq 12, 3) := by decide +kernel
theorem dX8_meanReading_28 : decode cX8_meanReading 28 = .ok (.aload_n 0, 1) := by decide +kernel
theorem dX8_meanReading_29 : decode cX8_meanReading 29 = .ok (.iload_n 3, 1) := by decide +kernel
theorem dX8_meanReading_30 : decode cX8_meanReading 30 = .ok (.invokevirtual 294, 3) := by decide +kernel
theorem dX8_meanReading_33 : decode cX8_meanReading 33 = .ok (.i2l, 1) := by decide +kernel
theorem dX8_meanReading_34 : decode cX8_meanReading 34 = .ok (.goto 4, 3) := by decide +kernel
theorem dX8_meanReading_37 : decode cX8_meanReading 37 = .ok (.lconst 0, 1) := by decide +kernel
theorem dX8_meanReading_38 : decode cX8_meanReading 38 = .ok (.ladd, 1) := by decide +kernel
theorem dX8_meanReading_39 : decode cX8_meanReading 39 = .ok (.lstore_n 1, 1) := by decide +kernel
theorem dX8_meanReading_40 : decode cX8_meanReading 40 = .ok (.iinc 3 1, 3) := by decide +kernel
theorem dX8_meanReading_43 : decode cX8_meanReading 43 = .ok (.goto (-34), 3) := by decide +kernel
theorem dX8_meanReading_46 : decode cX8_meanReading 46 = .ok (.aload_n 0, 1) := by decide +kernel
theorem dX8_meanReading_47 : decode cX8_meanReading 47 = .ok (.iconst 0, 1) := by decide +kernel
theorem dX8_meanReading_48 : decode cX8_meanReading 48 = .ok (.invokevirtual 213, 3) := by decide +kernel
theorem dX8_meanReading_51 : decode cX8_meanReading 51 = .ok (.istore_n 3, 1) := by decide +kernel
theorem dX8_meanReading_52 : decode cX8_meanReading 52 = .ok (.iload_n 3, 1) := by decide +kernel
theorem dX8_meanReading_53 : decode cX8_meanReading 53 = .ok (.ifCond .ne 7, 3) := by decide +kernel
theorem dX8_meanReading_56 : decode cX8_meanReading 56 = .ok (.dconst 0, 1) := by decide +kernel
theorem dX8_meanReading_57 : decode cX8_meanReading 57 = .ok (.goto 8, 3) := by decide +kernel
theorem dX8_meanReading_60 : decode cX8_meanReading 60 = .ok (.lload_n 1, 1) := by decide +kernel
theorem dX8_meanReading_61 : decode cX8_meanReading 61 = .ok (.l2d, 1) := by decide +kernel
theorem dX8_meanReading_62 : decode cX8_meanReading 62 = .ok (.iload_n 3, 1) := by decide +kernel
theorem dX8_meanReading_63 : decode cX8_meanReading 63 = .ok (.i2d, 1) := by decide +kernel
theorem dX8_meanReading_64 : decode cX8_meanReading 64 = .ok (.ddiv, 1) := by decide +kernel
theorem dX8_meanReading_65 : decode cX8_meanReading 65 = .ok (.dreturn, 1) := by decide +kernel
theorem dX8_wholeShare_0 : decode cX8_wholeShare 0 = .ok (.aload_n 0, 1) := by decide +kernel
theorem dX8_wholeShare_1 : decode cX8_wholeShare 1 = .ok (.iconst 0, 1) := by decide +kernel
theorem dX8_wholeShare_2 : decode cX8_wholeShare 2 = .ok (.putfield 1, 3) := by decide +kernel
theorem dX8_wholeShare_5 : decode cX8_wholeShare 5 = .ok (.aload_n 0, 1) := by decide +kernel
theorem dX8_wholeShare_6 : decode cX8_wholeShare 6 = .ok (.getfield 13, 3) := by decide +kernel
theorem dX8_wholeShare_9 : decode cX8_wholeShare 9 = .ok (.iconst 2, 1) := by decide +kernel
theorem dX8_wholeShare_10 : decode cX8_wholeShare 10 = .ok (.iaload, 1) := by decide +kernel
theorem dX8_wholeShare_11 : decode cX8_wholeShare 11 = .ok (.ifCond .ne 7, 3) := by decide +kernel
theorem dX8_wholeShare_14 : decode cX8_wholeShare 14 = .ok (.fconst 0, 1) := by decide +kernel
theorem dX8_wholeShare_15 : decode cX8_wholeShare 15 = .ok (.goto 17, 3) := by decide +kernel
theorem dX8_wholeShare_18 : decode cX8_wholeShare 18 = .ok (.aload_n 0, 1) := by decide +kernel
theorem dX8_wholeShare_19 : decode cX8_wholeShare 19 = .ok (.iconst 0, 1) := by decide +kernel
theorem dX8_wholeShare_20 : decode cX8_wholeShare 20 = .ok (.invokevirtual 213, 3) := by decide +kernel
theorem dX8_wholeShare_23 : decode cX8_wholeShare 23 = .ok (.i2f, 1) := by decide +kernel
theorem dX8_wholeShare_24 : decode cX8_wholeShare 24 = .ok (.aload_n 0, 1) := by decide +kernel
theorem dX8_wholeShare_25 : decode cX8_wholeShare 25 = .ok (.getfield 13, 3) := by decide +kernel
theorem dX8_wholeShare_28 : decode cX8_wholeShare 28 = .ok (.iconst 2, 1) := by decide +kernel
theorem dX8_wholeShare_29 : decode cX8_wholeShare 29 = .ok (.iaload, 1) := by decide +kernel
theorem dX8_wholeShare_30 : decode cX8_wholeShare 30 = .ok (.i2f, 1) := by decide +kernel
theorem dX8_wholeShare_31 : decode cX8_wholeShare 31 = .ok (.fdiv, 1) := by decide +kernel
theorem dX8_wholeShare_32 : decode cX8_wholeShare 32 = .ok (.freturn, 1) := by decide +kernel
theorem dX8_keeps_0 : decode cX8_keeps 0 = .ok (.aload_n 0, 1) := by decide +kernel
theorem dX8_keeps_1 : decode cX8_keeps 1 = .ok (.getfield 206, 3) := by decide +kernel
theorem dX8_keeps_4 : decode cX8_keeps 4 = .ok (.bipush 10, 2) := by decide +kernel
theorem dX8_keeps_6 : decode cX8_keeps 6 = .ok (.if_icmp .ne 71, 3) := by decide +kernel
theorem dX8_keeps_9 : decode cX8_keeps 9 = .ok (.aload_n 0, 1) := by decide +kernel
theorem dX8_keeps_10 : decode cX8_keeps 10 = .ok (.dup, 1) := by decide +kernel
theorem dX8_keeps_11 : decode cX8_keeps 11 = .ok (.getfield 206, 3) := by decide +kernel
theorem dX8_keeps_14 : decode cX8_keeps 14 = .ok (.iconst 1, 1) := by decide +kernel
theorem dX8_keeps_15 : decode cX8_keeps 15 = .ok (.isub, 1) := by decide +kernel
theorem dX8_keeps_16 : decode cX8_keeps 16 = .ok (.putfield 206, 3) := by decide +kernel
theorem dX8_keeps_19 : decode cX8_keeps 19 = .ok (.iconst 0, 1) := by decide +kernel
theorem dX8_keeps_20 : decode cX8_keeps 20 = .ok (.istore_n 1, 1) := by decide +kernel
theorem dX8_keeps_21 : decode cX8_keeps 21 = .ok (.iload_n 1, 1) := by decide +kernel
theorem dX8_keeps_22 : decode cX8_keeps 22 = .ok (.aload_n 0, 1) := by decide +kernel
theorem dX8_keeps_23 : decode cX8_keeps 23 = .ok (.getfield 206, 3) := by decide +kernel
theorem dX8_keeps_26 : decode cX8_keeps 26 = .ok (.if_icmp .ge 51, 3) := by decide +kernel
theorem dX8_keeps_29 : decode cX8_keeps 29 = .ok (.aload_n 0, 1) := by decide +kernel
theorem dX8_keeps_30 : decode cX8_keeps 30 = .ok (.getfield 23, 3) := by decide +kernel
theorem dX8_keeps_33 : decode cX8_keeps 33 = .ok (.bipush 102, 2) := by decide +kernel
theorem dX8_keeps_35 : decode cX8_keeps 35 = .ok (.iload_n 1, 1) := by decide +kernel
theorem dX8_keeps_36 : decode cX8_keeps 36 = .ok (.iconst 1, 1) := by decide +kernel
theorem dX8_keeps_37 : decode cX8_keeps 37 = .ok (.iadd, 1) := by decide +kernel
theorem dX8_keeps_38 : decode cX8_keeps 38 = .ok (.imul, 1) := by decide +kernel
theorem dX8_keeps_39 : decode cX8_keeps 39 = .ok (.aload_n 0, 1) := by decide +kernel
theorem dX8_keeps_40 : decode cX8_keeps 40 = .ok (.getfield 23, 3) := by decide +kernel
theorem dX8_keeps_43 : decode cX8_keeps 43 = .ok (.bipush 102, 2) := by decide +kernel
theorem dX8_keeps_45 : decode cX8_keeps 45 = .ok (.iload_n 1, 1) := by decide +kernel
theorem dX8_keeps_46 : decode cX8_keeps 46 = .ok (.imul, 1) := by decide +kernel
theorem dX8_keeps_47 : decode cX8_keeps 47 = .ok (.invokestatic 66, 3) := by decide +kernel
theorem dX8_keeps_50 : decode cX8_keeps 50 = .ok (.aload_n 0, 1) := by decide +kernel
theorem dX8_keeps_51 : decode cX8_keeps 51 = .ok (.getfield 36, 3) := by decide +kernel
theorem dX8_keeps_54 : decode cX8_keeps 54 = .ok (.bipush 6, 2) := by decide +kernel
theorem dX8_keeps_56 : decode cX8_keeps 56 = .ok (.iload_n 1, 1) := by decide +kernel
theorem dX8_keeps_57 : decode cX8_keeps 57 = .ok (.iconst 1, 1) := by decide +kernel
theorem dX8_keeps_58 : decode cX8_keeps 58 = .ok (.iadd, 1) := by decide +kernel
theorem dX8_keeps_59 : decode cX8_keeps 59 = .ok (.imul, 1) := by decide +kernel
theorem dX8_keeps_60 : decode cX8_keeps 60 = .ok (.aload_n 0, 1) := by decide +kernel
theorem dX8_keeps_61 : decode cX8_keeps 61 = .ok (.getfield 36, 3) := by decide +kernel
theorem dX8_keeps_64 : decode cX8_keeps 64 = .ok (.bipush 6, 2) := by decide +kernel
theorem dX8_keeps_66 : decode cX8_keeps 66 = .ok (.iload_n 1, 1) := by decide +kernel
theorem dX8_keeps_67 : decode cX8_keeps 67 = .ok (.imul, 1) := by decide +kernel
theorem dX8_keeps_68 : decode cX8_keeps 68 = .ok (.invokestatic 70, 3) := by decide +kernel
theorem dX8_keeps_71 : decode cX8_keeps 71 = .ok (.iinc 1 1, 3) := by decide +kernel
theorem dX8_keeps_74 : decode cX8_keeps 74 = .ok (.goto (-53), 3) := by decide +kernel
theorem dX8_keeps_77 : decode cX8_keeps 77 = .ok (.aload_n 0, 1) := by decide +kernel
theorem dX8_keeps_78 : decode cX8_keeps 78 = .ok (.getfield 13, 3) := by decide +kernel
theorem dX8_keeps_81 : decode cX8_keeps 81 = .ok (.iconst 0, 1) := by decide +kernel
theorem dX8_keeps_82 : decode cX8_keeps 82 = .ok (.aload_n 0, 1) := by decide +kernel
theorem dX8_keeps_83 : decode cX8_keeps 83 = .ok (.getfield 23, 3) := by decide +kernel
theorem dX8_keeps_86 : decode cX8_keeps 86 = .ok (.bipush 102, 2) := by decide +kernel
theorem dX8_keeps_88 : decode cX8_keeps 88 = .ok (.aload_n 0, 1) := by decide +kernel
theorem dX8_keeps_89 : decode cX8_keeps 89 = .ok (.getfield 206, 3) := by decide +kernel
theorem dX8_keeps_92 : decode cX8_keeps 92 = .ok (.imul, 1) := by decide +kernel
theorem dX8_keeps_93 : decode cX8_keeps 93 = .ok (.invokestatic 66, 3) := by decide +kernel
theorem dX8_keeps_96 : decode cX8_keeps 96 = .ok (.aload_n 0, 1) := by decide +kernel
theorem dX8_keeps_97 : decode cX8_keeps 97 = .ok (.getfield 26, 3) := by decide +kernel
theorem dX8_keeps_100 : decode cX8_keeps 100 = .ok (.iconst 0, 1) := by decide +kernel
theorem dX8_keeps_101 : decode cX8_keeps 101 = .ok (.aload_n 0, 1) := by decide +kernel
theorem dX8_keeps_102 : decode cX8_keeps 102 = .ok (.getfield 36, 3) := by decide +kernel
theorem dX8_keeps_105 : decode cX8_keeps 105 = .ok (.bipush 6, 2) := by decide +kernel
theorem dX8_keeps_107 : decode cX8_keeps 107 = .ok (.aload_n 0, 1) := by decide +kernel
theorem dX8_keeps_108 : decode cX8_keeps 108 = .ok (.getfield 206, 3) := by decide +kernel
theorem dX8_keeps_111 : decode cX8_keeps 111 = .ok (.imul, 1) := by decide +kernel
theorem dX8_keeps_112 : decode cX8_keeps 112 = .ok (.invokestatic 70, 3) := by decide +kernel
theorem dX8_keeps_115 : decode cX8_keeps 115 = .ok (.aload_n 0, 1) := by decide +kernel
theorem dX8_keeps_116 : decode cX8_keeps 116 = .ok (.dup, 1) := by decide +kernel
theorem dX8_keeps_117 : decode cX8_keeps 117 = .ok (.getfield 206, 3) := by decide +kernel
theorem dX8_keeps_120 : decode cX8_keeps 120 = .ok (.iconst 1, 1) := by decide +kernel
theorem dX8_keeps_121 : decode cX8_keeps 121 = .ok (.iadd, 1) := by decide +kernel
theorem dX8_keeps_122 : decode cX8_keeps 122 = .ok (.putfield 206, 3) := by decide +kernel
theorem dX8_keeps_125 : decode cX8_keeps 125 = .ok (.return_, 1) := by decide +kernel
theorem dX8_sets_0 : decode cX8_sets 0 = .ok (.aload_n 0, 1) := by decide +kernel
theorem dX8_sets_1 : decode cX8_sets 1 = .ok (.invokevirtual 325, 3) := by decide +kernel
theorem dX8_sets_4 : decode cX8_sets 4 = .ok (.aload_n 0, 1) := by decide +kernel
theorem dX8_sets_5 : decode cX8_sets 5 = .ok (.getfield 13, 3) := by decide +kernel
theorem dX8_sets_8 : decode cX8_sets 8 = .ok (.iload_n 1, 1) := by decide +kernel
theorem dX8_sets_9 : decode cX8_sets 9 = .ok (.iload_n 2, 1) := by decide +kernel
theorem dX8_sets_10 : decode cX8_sets 10 = .ok (.iastore, 1) := by decide +kernel
theorem dX8_sets_11 : decode cX8_sets 11 = .ok (.aload_n 0, 1) := by decide +kernel
theorem dX8_sets_12 : decode cX8_sets 12 = .ok (.invokevirtual 203, 3) := by decide +kernel
theorem dX8_sets_15 : decode cX8_sets 15 = .ok (.ireturn, 1) := by decide +kernel
theorem dX8_setPressure_0 : decode cX8_setPressure 0 = .ok (.aload_n 0, 1) := by decide +kernel
theorem dX8_setPressure_1 : decode cX8_setPressure 1 = .ok (.iconst 0, 1) := by decide +kernel
theorem dX8_setPressure_2 : decode cX8_setPressure 2 = .ok (.putfield 1, 3) := by decide +kernel
theorem dX8_setPressure_5 : decode cX8_setPressure 5 = .ok (.aload_n 0, 1) := by decide +kernel
theorem dX8_setPressure_6 : decode cX8_setPressure 6 = .ok (.aload_n 0, 1) := by decide +kernel
theorem dX8_setPressure_7 : decode cX8_setPressure 7 = .ok (.iload_n 1, 1) := by decide +kernel
theorem dX8_setPressure_8 : decode cX8_setPressure 8 = .ok (.invokevirtual 276, 3) := by decide +kernel
theorem dX8_setPressure_11 : decode cX8_setPressure 11 = .ok (.iconst 1, 1) := by decide +kernel
theorem dX8_setPressure_12 : decode cX8_setPressure 12 = .ok (.invokevirtual 187, 3) := by decide +kernel
theorem dX8_setPressure_15 : decode cX8_setPressure 15 = .ok (.ifCond .ne 15, 3) := by decide +kernel
theorem dX8_setPressure_18 : decode cX8_setPressure 18 = .ok (.aload_n 0, 1) := by decide +kernel
theorem dX8_setPressure_19 : decode cX8_setPressure 19 = .ok (.iload_n 2, 1) := by decide +kernel
theorem dX8_setPressure_20 : decode cX8_setPressure 20 = .ok (.invokestatic 312, 3) := by decide +kernel
theorem dX8_setPressure_23 : decode cX8_setPressure 23 = .ok (.iconst 2, 1) := by decide +kernel
theorem dX8_setPressure_24 : decode cX8_setPressure 24 = .ok (.invokevirtual 187, 3) := by decide +kernel
theorem dX8_setPressure_27 : decode cX8_setPressure 27 = .ok (.ifCond .eq 7, 3) := by decide +kernel
theorem dX8_setPressure_30 : decode cX8_setPressure 30 = .ok (.iconst 0, 1) := by decide +kernel
theorem dX8_setPressure_31 : decode cX8_setPressure 31 = .ok (.goto 11, 3) := by decide +kernel
theorem dX8_setPressure_34 : decode cX8_setPressure 34 = .ok (.aload_n 0, 1) := by decide +kernel
theorem dX8_setPressure_35 : decode cX8_setPressure 35 = .ok (.iconst 4, 1) := by decide +kernel
theorem dX8_setPressure_36 : decode cX8_setPressure 36 = .ok (.iload_n 1, 1) := by decide +kernel
theorem dX8_setPressure_37 : decode cX8_setPressure 37 = .ok (.iadd, 1) := by decide +kernel
theorem dX8_setPressure_38 : decode cX8_setPressure 38 = .ok (.iload_n 2, 1) := by decide +kernel
theorem dX8_setPressure_39 : decode cX8_setPressure 39 = .ok (.invokevirtual 328, 3) := by decide +kernel
theorem dX8_setPressure_42 : decode cX8_setPressure 42 = .ok (.ireturn, 1) := by decide +kernel
theorem dX8_setReference_0 : decode cX8_setReference 0 = .ok (.aload_n 0, 1) := by decide +kernel
theorem dX8_setReference_1 : decode cX8_setReference 1 = .ok (.iconst 0, 1) := by decide +kernel
theorem dX8_setReference_2 : decode cX8_setReference 2 = .ok (.putfield 1, 3) := by decide +kernel
theorem dX8_setReference_5 : decode cX8_setReference 5 = .ok (.aload_n 0, 1) := by decide +kernel
theorem dX8_setReference_6 : decode cX8_setReference 6 = .ok (.iload_n 1, 1) := by decide +kernel
theorem dX8_setReference_7 : decode cX8_setReference 7 = .ok (.invokestatic 312, 3) := by decide +kernel
theorem dX8_setReference_10 : decode cX8_setReference 10 = .ok (.iconst 1, 1) := by decide +kernel
theorem dX8_setReference_11 : decode cX8_setReference 11 = .ok (.invokevirtual 187, 3) := by decide +kernel
theorem dX8_setReference_14 : decode cX8_setReference 14 = .ok (.ifCond .eq 7, 3) := by decide +kernel
theorem dX8_setReference_17 : decode cX8_setReference 17 = .ok (.iconst 0, 1) := by decide +kernel
theorem dX8_setReference_18 : decode cX8_setReference 18 = .ok (.goto 9, 3) := by decide +kernel
theorem dX8_setReference_21 : decode cX8_setReference 21 = .ok (.aload_n 0, 1) := by decide +kernel
theorem dX8_setReference_22 : decode cX8_setReference 22 = .ok (.iconst 1, 1) := by decide +kernel
theorem dX8_setReference_23 : decode cX8_setReference 23 = .ok (.iload_n 1, 1) := by decide +kernel
theorem dX8_setReference_24 : decode cX8_setReference 24 = .ok (.invokevirtual 328, 3) := by decide +kernel
theorem dX8_setReference_27 : decode cX8_setReference 27 = .ok (.ireturn, 1) := by decide +kernel
theorem dX8_sweep_0 : decode cX8_sweep 0 = .ok (.aload_n 0, 1) := by decide +kernel
theorem dX8_sweep_1 : decode cX8_sweep 1 = .ok (.iconst 0, 1) := by decide +kernel
theorem dX8_sweep_2 : decode cX8_sweep 2 = .ok (.putfield 1, 3) := by decide +kernel
theorem dX8_sweep_5 : decode cX8_sweep 5 = .ok (.aload_n 0, 1) := by decide +kernel
theorem dX8_sweep_6 : decode cX8_sweep 6 = .ok (.aload_n 0, 1) := by decide +kernel
theorem dX8_sweep_7 : decode cX8_sweep 7 = .ok (.iload_n 1, 1) := by decide +kernel
theorem dX8_sweep_8 : decode cX8_sweep 8 = .ok (.invokevirtual 276, 3) := by decide +kernel
theorem dX8_sweep_11 : decode cX8_sweep 11 = .ok (.iconst 1, 1) := by decide +kernel
theorem dX8_sweep_12 : decode cX8_sweep 12 = .ok (.invokevirtual 187, 3) := by decide +kernel
theorem dX8_sweep_15 : decode cX8_sweep 15 = .ok (.ifCond .ne 35, 3) := by decide +kernel
theorem dX8_sweep_18 : decode cX8_sweep 18 = .ok (.aload_n 0, 1) := by decide +kernel
theorem dX8_sweep_19 : decode cX8_sweep 19 = .ok (.iload_n 2, 1) := by decide +kernel
theorem dX8_sweep_20 : decode cX8_sweep 20 = .ok (.invokestatic 312, 3) := by decide +kernel
theorem dX8_sweep_23 : decode cX8_sweep 23 = .ok (.ifCond .eq 19, 3) := by decide +kernel
theorem dX8_sweep_26 : decode cX8_sweep 26 = .ok (.iload_n 3, 1) := by decide +kernel
theorem dX8_sweep_27 : decode cX8_sweep 27 = .ok (.i2l, 1) := by decide +kernel
theorem dX8_sweep_28 : decode cX8_sweep 28 = .ok (.lconst 1, 1) := by decide +kernel
theorem dX8_sweep_29 : decode cX8_sweep 29 = .ok (.ldc2_w 331, 3) := by decide +kernel
theorem dX8_sweep_32 : decode cX8_sweep 32 = .ok (.invokestatic 142, 3) := by decide +kernel
theorem dX8_sweep_35 : decode cX8_sweep 35 = .ok (.ifCond .eq 7, 3) := by decide +kernel
theorem dX8_sweep_38 : decode cX8_sweep 38 = .ok (.iconst 1, 1) := by decide +kernel
theorem dX8_sweep_39 : decode cX8_sweep 39 = .ok (.goto 4, 3) := by decide +kernel
theorem dX8_sweep_42 : decode cX8_sweep 42 = .ok (.iconst 0, 1) := by decide +kernel
theorem dX8_sweep_43 : decode cX8_sweep 43 = .ok (.iconst 2, 1) := by decide +kernel
theorem dX8_sweep_44 : decode cX8_sweep 44 = .ok (.invokevirtual 187, 3) := by decide +kernel
theorem dX8_sweep_47 : decode cX8_sweep 47 = .ok (.ifCond .eq 5, 3) := by decide +kernel
theorem dX8_sweep_50 : decode cX8_sweep 50 = .ok (.iconst 0, 1) := by decide +kernel
theorem dX8_sweep_51 : decode cX8_sweep 51 = .ok (.ireturn, 1) := by decide +kernel
theorem dX8_sweep_52 : decode cX8_sweep 52 = .ok (.aload_n 0, 1) := by decide +kernel
theorem dX8_sweep_53 : decode cX8_sweep 53 = .ok (.invokevirtual 325, 3) := by decide +kernel
theorem dX8_sweep_56 : decode cX8_sweep 56 = .ok (.aload_n 0, 1) := by decide +kernel
theorem dX8_sweep_57 : decode cX8_sweep 57 = .ok (.getfield 13, 3) := by decide +kernel
theorem dX8_sweep_60 : decode cX8_sweep 60 = .ok (.iconst 4, 1) := by decide +kernel
theorem dX8_sweep_61 : decode cX8_sweep 61 = .ok (.iload_n 1, 1) := by decide +kernel
theorem dX8_sweep_62 : decode cX8_sweep 62 = .ok (.iadd, 1) := by decide +kernel
theorem dX8_sweep_63 : decode cX8_sweep 63 = .ok (.iaload, 1) := by decide +kernel
theorem dX8_sweep_64 : decode cX8_sweep 64 = .ok (.istore 4, 2) := by decide +kernel
theorem dX8_sweep_66 : decode cX8_sweep 66 = .ok (.iconst 0, 1) := by decide +kernel
theorem dX8_sweep_67 : decode cX8_sweep 67 = .ok (.istore 5, 2) := by decide +kernel
theorem dX8_sweep_69 : decode cX8_sweep 69 = .ok (.iconst 1, 1) := by decide +kernel
theorem dX8_sweep_70 : decode cX8_sweep 70 = .ok (.istore 6, 2) := by decide +kernel
theorem dX8_sweep_72 : decode cX8_sweep 72 = .ok (.iload 6, 2) := by decide +kernel
theorem dX8_sweep_74 : decode cX8_sweep 74 = .ok (.iload_n 3, 1) := by decide +kernel
theorem dX8_sweep_75 : decode cX8_sweep 75 = .ok (.if_icmp .gt 38, 3) := by decide +kernel
theorem dX8_sweep_78 : decode cX8_sweep 78 = .ok (.aload_n 0, 1) := by decide +kernel
theorem dX8_sweep_79 : decode cX8_sweep 79 = .ok (.getfield 13, 3) := by decide +kernel
theorem dX8_sweep_82 : decode cX8_sweep 82 = .ok (.iconst 4, 1) := by decide +kernel
theorem dX8_sweep_83 : decode cX8_sweep 83 = .ok (.iload_n 1, 1) := by decide +kernel
theorem dX8_sweep_84 : decode cX8_sweep 84 = .ok (.iadd, 1) := by decide +kernel
theorem dX8_sweep_85 : decode cX8_sweep 85 = .ok (.iload 4, 2) := by decide +kernel
theorem dX8_sweep_87 : decode cX8_sweep 87 = .ok (.iload_n 2, 1) := by decide +kernel
theorem dX8_sweep_88 : decode cX8_sweep 88 = .ok (.iload 4, 2) := by decide +kernel
theorem dX8_sweep_90 : decode cX8_sweep 90 = .ok (.isub, 1) := by decide +kernel
theorem dX8_sweep_91 : decode cX8_sweep 91 = .ok (.iload 6, 2) := by decide +kernel
theorem dX8_sweep_93 : decode cX8_sweep 93 = .ok (.imul, 1) := by decide +kernel
theorem dX8_sweep_94 : decode cX8_sweep 94 = .ok (.iload_n 3, 1) := by decide +kernel
theorem dX8_sweep_95 : decode cX8_sweep 95 = .ok (.idiv, 1) := by decide +kernel
theorem dX8_sweep_96 : decode cX8_sweep 96 = .ok (.iadd, 1) := by decide +kernel
theorem dX8_sweep_97 : decode cX8_sweep 97 = .ok (.iastore, 1) := by decide +kernel
theorem dX8_sweep_98 : decode cX8_sweep 98 = .ok (.iload 5, 2) := by decide +kernel
theorem dX8_sweep_100 : decode cX8_sweep 100 = .ok (.aload_n 0, 1) := by decide +kernel
theorem dX8_sweep_101 : decode cX8_sweep 101 = .ok (.invokevirtual 203, 3) := by decide +kernel
theorem dX8_sweep_104 : decode cX8_sweep 104 = .ok (.iadd, 1) := by decide +kernel
theorem dX8_sweep_105 : decode cX8_sweep 105 = .ok (.istore 5, 2) := by decide +kernel
theorem dX8_sweep_107 : decode cX8_sweep 107 = .ok (.iinc 6 1, 3) := by decide +kernel
theorem dX8_sweep_110 : decode cX8_sweep 110 = .ok (.goto (-38), 3) := by decide +kernel
theorem dX8_sweep_113 : decode cX8_sweep 113 = .ok (.iload 5, 2) := by decide +kernel
theorem dX8_sweep_115 : decode cX8_sweep 115 = .ok (.ireturn, 1) := by decide +kernel
theorem dX8_isSlant_0 : decode cX8_isSlant 0 = .ok (.iload_n 0, 1) := by decide +kernel
theorem dX8_isSlant_1 : decode cX8_isSlant 1 = .ok (.i2l, 1) := by decide +kernel
theorem dX8_isSlant_2 : decode cX8_isSlant 2 = .ok (.ldc2_w 331, 3) := by decide +kernel
theorem dX8_isSlant_5 : decode cX8_isSlant 5 = .ok (.ldc2_w 228, 3) := by decide +kernel
theorem dX8_isSlant_8 : decode cX8_isSlant 8 = .ok (.invokestatic 142, 3) := by decide +kernel
theorem dX8_isSlant_11 : decode cX8_isSlant 11 = .ok (.ireturn, 1) := by decide +kernel
theorem dX8_setSlant_0 : decode cX8_setSlant 0 = .ok (.aload_n 0, 1) := by decide +kernel
theorem dX8_setSlant_1 : decode cX8_setSlant 1 = .ok (.iconst 0, 1) := by decide +kernel
theorem dX8_setSlant_2 : decode cX8_setSlant 2 = .ok (.putfield 1, 3) := by decide +kernel
theorem dX8_setSlant_5 : decode cX8_setSlant 5 = .ok (.aload_n 0, 1) := by decide +kernel
theorem dX8_setSlant_6 : decode cX8_setSlant 6 = .ok (.aload_n 0, 1) := by decide +kernel
theorem dX8_setSlant_7 : decode cX8_setSlant 7 = .ok (.iload_n 1, 1) := by decide +kernel
theorem dX8_setSlant_8 : decode cX8_setSlant 8 = .ok (.invokevirtual 289, 3) := by decide +kernel
theorem dX8_setSlant_11 : decode cX8_setSlant 11 = .ok (.iconst 1, 1) := by decide +kernel
theorem dX8_setSlant_12 : decode cX8_setSlant 12 = .ok (.invokevirtual 187, 3) := by decide +kernel
theorem dX8_setSlant_15 : decode cX8_setSlant 15 = .ok (.ifCond .ne 15, 3) := by decide +kernel
theorem dX8_setSlant_18 : decode cX8_setSlant 18 = .ok (.aload_n 0, 1) := by decide +kernel
theorem dX8_setSlant_19 : decode cX8_setSlant 19 = .ok (.iload_n 2, 1) := by decide +kernel
theorem dX8_setSlant_20 : decode cX8_setSlant 20 = .ok (.invokestatic 333, 3) := by decide +kernel
theorem dX8_setSlant_23 : decode cX8_setSlant 23 = .ok (.iconst 2, 1) := by decide +kernel
theorem dX8_setSlant_24 : decode cX8_setSlant 24 = .ok (.invokevirtual 187, 3) := by decide +kernel
theorem dX8_setSlant_27 : decode cX8_setSlant 27 = .ok (.ifCond .eq 7, 3) := by decide +kernel
theorem dX8_setSlant_30 : decode cX8_setSlant 30 = .ok (.iconst 0, 1) := by decide +kernel
theorem dX8_setSlant_31 : decode cX8_setSlant 31 = .ok (.goto 13, 3) := by decide +kernel
theorem dX8_setSlant_34 : decode cX8_setSlant 34 = .ok (.aload_n 0, 1) := by decide +kernel
theorem dX8_setSlant_35 : decode cX8_setSlant 35 = .ok (.iload_n 1, 1) := by decide +kernel
theorem dX8_setSlant_36 : decode cX8_setSlant 36 = .ok (.iconst 3, 1) := by decide +kernel
theorem dX8_setSlant_37 : decode cX8_setSlant 37 = .ok (.invokestatic 164, 3) := by decide +kernel
theorem dX8_setSlant_40 : decode cX8_setSlant 40 = .ok (.iload_n 2, 1) := by decide +kernel
theorem dX8_setSlant_41 : decode cX8_setSlant 41 = .ok (.invokevirtual 328, 3) := by decide +kernel
theorem dX8_setSlant_44 : decode cX8_setSlant 44 = .ok (.ireturn, 1) := by decide +kernel
theorem dX8_setMark_0 : decode cX8_setMark 0 = .ok (.aload_n 0, 1) := by decide +kernel
theorem dX8_setMark_1 : decode cX8_setMark 1 = .ok (.iconst 0, 1) := by decide +kernel
theorem dX8_setMark_2 : decode cX8_setMark 2 = .ok (.putfield 1, 3) := by decide +kernel
theorem dX8_setMark_5 : decode cX8_setMark 5 = .ok (.aload_n 0, 1) := by decide +kernel
theorem dX8_setMark_6 : decode cX8_setMark 6 = .ok (.aload_n 0, 1) := by decide +kernel
theorem dX8_setMark_7 : decode cX8_setMark 7 = .ok (.iload_n 1, 1) := by decide +kernel
theorem dX8_setMark_8 : decode cX8_setMark 8 = .ok (.invokevirtual 289, 3) := by decide +kernel
theorem dX8_setMark_11 : decode cX8_setMark 11 = .ok (.iconst 1, 1) := by decide +kernel
theorem dX8_setMark_12 : decode cX8_setMark 12 = .ok (.invokevirtual 187, 3) := by decide +kernel
theorem dX8_setMark_15 : decode cX8_setMark 15 = .ok (.ifCond .eq 5, 3) := by decide +kernel
theorem dX8_setMark_18 : decode cX8_setMark 18 = .ok (.iconst 0, 1) := by decide +kernel
theorem dX8_setMark_19 : decode cX8_setMark 19 = .ok (.ireturn, 1) := by decide +kernel
theorem dX8_setMark_20 : decode cX8_setMark 20 = .ok (.aload_n 0, 1) := by decide +kernel
theorem dX8_setMark_21 : decode cX8_setMark 21 = .ok (.iload_n 1, 1) := by decide +kernel
theorem dX8_setMark_22 : decode cX8_setMark 22 = .ok (.invokevirtual 230, 3) := by decide +kernel
theorem dX8_setMark_25 : decode cX8_setMark 25 = .ok (.ifCond .ne 7, 3) := by decide +kernel
theorem dX8_setMark_28 : decode cX8_setMark 28 = .ok (.ldc_w 297, 3) := by decide +kernel
theorem dX8_setMark_31 : decode cX8_setMark 31 = .ok (.ireturn, 1) := by decide +kernel
theorem dX8_setMark_32 : decode cX8_setMark 32 = .ok (.aload_n 0, 1) := by decide +kernel
theorem dX8_setMark_33 : decode cX8_setMark 33 = .ok (.iload_n 1, 1) := by decide +kernel
theorem dX8_setMark_34 : decode cX8_setMark 34 = .ok (.invokevirtual 259, 3) := by decide +kernel
theorem dX8_setMark_37 : decode cX8_setMark 37 = .ok (.bipush 10, 2) := by decide +kernel
theorem dX8_setMark_39 : decode cX8_setMark 39 = .ok (.idiv, 1) := by decide +kernel
theorem dX8_setMark_40 : decode cX8_setMark 40 = .ok (.ineg, 1) := by decide +kernel
theorem dX8_setMark_41 : decode cX8_setMark 41 = .ok (.istore_n 2, 1) := by decide +kernel
theorem dX8_setMark_42 : decode cX8_setMark 42 = .ok (.iload_n 2, 1) := by decide +kernel
theorem dX8_setMark_43 : decode cX8_setMark 43 = .ok (.sipush (-9999), 3) := by decide +kernel
theorem dX8_setMark_46 : decode cX8_setMark 46 = .ok (.if_icmp .ge 7, 3) := by decide +kernel
theorem dX8_setMark_49 : decode cX8_setMark 49 = .ok (.ldc_w 336, 3) := by decide +kernel
theorem dX8_setMark_52 : decode cX8_setMark 52 = .ok (.ireturn, 1) := by decide +kernel
theorem dX8_setMark_53 : decode cX8_setMark 53 = .ok (.aload_n 0, 1) := by decide +kernel
theorem dX8_setMark_54 : decode cX8_setMark 54 = .ok (.iload_n 1, 1) := by decide +kernel
theorem dX8_setMark_55 : decode cX8_setMark 55 = .ok (.iconst 5, 1) := by decide +kernel
theorem dX8_setMark_56 : decode cX8_setMark 56 = .ok (.invokestatic 164, 3) := by decide +kernel
theorem dX8_setMark_59 : decode cX8_setMark 59 = .ok (.iload_n 2, 1) := by decide +kernel
theorem dX8_setMark_60 : decode cX8_setMark 60 = .ok (.invokevirtual 328, 3) := by decide +kernel
theorem dX8_setMark_63 : decode cX8_setMark 63 = .ok (.istore_n 3, 1) := by decide +kernel
theorem dX8_setMark_64 : decode cX8_setMark 64 = .ok (.iload_n 2, 1) := by decide +kernel
theorem dX8_setMark_65 : decode cX8_setMark 65 = .ok (.ireturn, 1) := by decide +kernel
theorem dX8_setCurve_0 : decode cX8_setCurve 0 = .ok (.aload_n 0, 1) := by decide +kernel
theorem dX8_setCurve_1 : decode cX8_setCurve 1 = .ok (.iconst 0, 1) := by decide +kernel
theorem dX8_setCurve_2 : decode cX8_setCurve 2 = .ok (.putfield 1, 3) := by decide +kernel
theorem dX8_setCurve_5 : decode cX8_setCurve 5 = .ok (.aload_n 0, 1) := by decide +kernel
theorem dX8_setCurve_6 : decode cX8_setCurve 6 = .ok (.iload_n 1, 1) := by decide +kernel
theorem dX8_setCurve_7 : decode cX8_setCurve 7 = .ok (.invokestatic 279, 3) := by decide +kernel
theorem dX8_setCurve_10 : decode cX8_setCurve 10 = .ok (.iconst 1, 1) := by decide +kernel
theorem dX8_setCurve_11 : decode cX8_setCurve 11 = .ok (.invokevirtual 187, 3) := by decide +kernel
theorem dX8_setCurve_14 : decode cX8_setCurve 14 = .ok (.ifCond .ne 22, 3) := by decide +kernel
theorem dX8_setCurve_17 : decode cX8_setCurve 17 = .ok (.aload_n 0, 1) := by decide +kernel
theorem dX8_setCurve_18 : decode cX8_setCurve 18 = .ok (.iload_n 2, 1) := by decide +kernel
theorem dX8_setCurve_19 : decode cX8_setCurve 19 = .ok (.i2l, 1) := by decide +kernel
theorem dX8_setCurve_20 : decode cX8_setCurve 20 = .ok (.ldc2_w 318, 3) := by decide +kernel
theorem dX8_setCurve_23 : decode cX8_setCurve 23 = .ok (.ldc2_w 320, 3) := by decide +kernel
theorem dX8_setCurve_26 : decode cX8_setCurve 26 = .ok (.invokestatic 142, 3) := by decide +kernel
theorem dX8_setCurve_29 : decode cX8_setCurve 29 = .ok (.iconst 2, 1) := by decide +kernel
theorem dX8_setCurve_30 : decode cX8_setCurve 30 = .ok (.invokevirtual 187, 3) := by decide +kernel
theorem dX8_setCurve_33 : decode cX8_setCurve 33 = .ok (.ifCond .eq 7, 3) := by decide +kernel
theorem dX8_setCurve_36 : decode cX8_setCurve 36 = .ok (.iconst 0, 1) := by decide +kernel
theorem dX8_setCurve_37 : decode cX8_setCurve 37 = .ok (.goto 16, 3) := by decide +kernel
theorem dX8_setCurve_40 : decode cX8_setCurve 40 = .ok (.aload_n 0, 1) := by decide +kernel
theorem dX8_setCurve_41 : decode cX8_setCurve 41 = .ok (.bipush 12, 2) := by decide +kernel
theorem dX8_setCurve_43 : decode cX8_setCurve 43 = .ok (.iconst 3, 1) := by decide +kernel
theorem dX8_setCurve_44 : decode cX8_setCurve 44 = .ok (.iload_n 1, 1) := by decide +kernel
theorem dX8_setCurve_45 : decode cX8_setCurve 45 = .ok (.imul, 1) := by decide +kernel
theorem dX8_setCurve_46 : decode cX8_setCurve 46 = .ok (.iadd, 1) := by decide +kernel
theorem dX8_setCurve_47 : decode cX8_setCurve 47 = .ok (.iconst 2, 1) := by decide +kernel
theorem dX8_setCurve_48 : decode cX8_setCurve 48 = .ok (.iadd, 1) := by decide +kernel
theorem dX8_setCurve_49 : decode cX8_setCurve 49 = .ok (.iload_n 2, 1) := by decide +kernel
theorem dX8_setCurve_50 : decode cX8_setCurve 50 = .ok (.invokevirtual 328, 3) := by decide +kernel
theorem dX8_setCurve_53 : decode cX8_setCurve 53 = .ok (.ireturn, 1) := by decide +kernel
theorem dX8_mend_0 : decode cX8_mend 0 = .ok (.aload_n 0, 1) := by decide +kernel
theorem dX8_mend_1 : decode cX8_mend 1 = .ok (.iconst 0, 1) := by decide +kernel
theorem dX8_mend_2 : decode cX8_mend 2 = .ok (.putfield 1, 3) := by decide +kernel
theorem dX8_mend_5 : decode cX8_mend 5 = .ok (.aload_n 0, 1) := by decide +kernel
theorem dX8_mend_6 : decode cX8_mend 6 = .ok (.aload_n 0, 1) := by decide +kernel
theorem dX8_mend_7 : decode cX8_mend 7 = .ok (.iload_n 1, 1) := by decide +kernel
theorem dX8_mend_8 : decode cX8_mend 8 = .ok (.invokevirtual 289, 3) := by decide +kernel
theorem dX8_mend_11 : decode cX8_mend 11 = .ok (.iconst 1, 1) := by decide +kernel
theorem dX8_mend_12 : decode cX8_mend 12 = .ok (.invokevirtual 187, 3) := by decide +kernel
theorem dX8_mend_15 : decode cX8_mend 15 = .ok (.ifCond .eq 5, 3) := by decide +kernel
theorem dX8_mend_18 : decode cX8_mend 18 = .ok (.iconst 0, 1) := by decide +kernel
theorem dX8_mend_19 : decode cX8_mend 19 = .ok (.ireturn, 1) := by decide +kernel
theorem dX8_mend_20 : decode cX8_mend 20 = .ok (.aload_n 0, 1) := by decide +kernel
theorem dX8_mend_21 : decode cX8_mend 21 = .ok (.iload_n 1, 1) := by decide +kernel
theorem dX8_mend_22 : decode cX8_mend 22 = .ok (.invokevirtual 230, 3) := by decide +kernel
theorem dX8_mend_25 : decode cX8_mend 25 = .ok (.ifCond .eq 6, 3) := by decide +kernel
theorem dX8_mend_28 : decode cX8_mend 28 = .ok (.bipush (-2), 2) := by decide +kernel
theorem dX8_mend_30 : decode cX8_mend 30 = .ok (.ireturn, 1) := by decide +kernel
theorem dX8_mend_31 : decode cX8_mend 31 = .ok (.aload_n 0, 1) := by decide +kernel
theorem dX8_mend_32 : decode cX8_mend 32 = .ok (.iload_n 1, 1) := by decide +kernel
theorem dX8_mend_33 : decode cX8_mend 33 = .ok (.bipush 6, 2) := by decide +kernel
theorem dX8_mend_35 : decode cX8_mend 35 = .ok (.invokestatic 164, 3) := by decide +kernel
theorem dX8_mend_38 : decode cX8_mend 38 = .ok (.iconst 0, 1) := by decide +kernel
theorem dX8_mend_39 : decode cX8_mend 39 = .ok (.invokevirtual 328, 3) := by decide +kernel
theorem dX8_mend_42 : decode cX8_mend 42 = .ok (.istore_n 2, 1) := by decide +kernel
theorem dX8_mend_43 : decode cX8_mend 43 = .ok (.aload_n 0, 1) := by decide +kernel
theorem dX8_mend_44 : decode cX8_mend 44 = .ok (.iload_n 1, 1) := by decide +kernel
theorem dX8_mend_45 : decode cX8_mend 45 = .ok (.bipush 6, 2) := by decide +kernel
theorem dX8_mend_47 : decode cX8_mend 47 = .ok (.invokevirtual 216, 3) := by decide +kernel
theorem dX8_mend_50 : decode cX8_mend 50 = .ok (.ireturn, 1) := by decide +kernel
theorem dX8_refill_0 : decode cX8_refill 0 = .ok (.aload_n 0, 1) := by decide +kernel
theorem dX8_refill_1 : decode cX8_refill 1 = .ok (.iconst 0, 1) := by decide +kernel
theorem dX8_refill_2 : decode cX8_refill 2 = .ok (.putfield 1, 3) := by decide +kernel
theorem dX8_refill_5 : decode cX8_refill 5 = .ok (.aload_n 0, 1) := by decide +kernel
theorem dX8_refill_6 : decode cX8_refill 6 = .ok (.iload_n 1, 1) := by decide +kernel
theorem dX8_refill_7 : decode cX8_refill 7 = .ok (.invokestatic 279, 3) := by decide +kernel
theorem dX8_refill_10 : decode cX8_refill 10 = .ok (.iconst 1, 1) := by decide +kernel
theorem dX8_refill_11 : decode cX8_refill 11 = .ok (.invokevirtual 187, 3) := by decide +kernel
theorem dX8_refill_14 : decode cX8_refill 14 = .ok (.ifCond .ne 20, 3) := by decide +kernel
theorem dX8_refill_17 : decode cX8_refill 17 = .ok (.aload_n 0, 1) := by decide +kernel
theorem dX8_refill_18 : decode cX8_refill 18 = .ok (.iload_n 2, 1) := by decide +kernel
theorem dX8_refill_19 : decode cX8_refill 19 = .ok (.i2l, 1) := by decide +kernel
theorem dX8_refill_20 : decode cX8_refill 20 = .ok (.lconst 1, 1) := by decide +kernel
theorem dX8_refill_21 : decode cX8_refill 21 = .ok (.ldc2_w 337, 3) := by decide +kernel
theorem dX8_refill_24 : decode cX8_refill 24 = .ok (.invokestatic 142, 3) := by decide +kernel
theorem dX8_refill_27 : decode cX8_refill 27 = .ok (.iconst 2, 1) := by decide +kernel
theorem dX8_refill_28 : decode cX8_refill 28 = .ok (.invokevirtual 187, 3) := by decide +kernel
theorem dX8_refill_31 : decode cX8_refill 31 = .ok (.ifCond .eq 5, 3) := by decide +kernel
theorem dX8_refill_34 : decode cX8_refill 34 = .ok (.iconst 0, 1) := by decide +kernel
theorem dX8_refill_35 : decode cX8_refill 35 = .ok (.ireturn, 1) := by decide +kernel
theorem dX8_refill_36 : decode cX8_refill 36 = .ok (.aload_n 0, 1) := by decide +kernel
theorem dX8_refill_37 : decode cX8_refill 37 = .ok (.getfield 26, 3) := by decide +kernel
theorem dX8_refill_40 : decode cX8_refill 40 = .ok (.iconst 4, 1) := by decide +kernel
theorem dX8_refill_41 : decode cX8_refill 41 = .ok (.iload_n 1, 1) := by decide +kernel
theorem dX8_refill_42 : decode cX8_refill 42 = .ok (.iadd, 1) := by decide +kernel
theorem dX8_refill_43 : decode cX8_refill 43 = .ok (.laload, 1) := by decide +kernel
theorem dX8_refill_44 : decode cX8_refill 44 = .ok (.iload_n 2, 1) := by decide +kernel
theorem dX8_refill_45 : decode cX8_refill 45 = .ok (.i2l, 1) := by decide +kernel
theorem dX8_refill_46 : decode cX8_refill 46 = .ok (.ladd, 1) := by decide +kernel
theorem dX8_refill_47 : decode cX8_refill 47 = .ok (.ldc2_w 339, 3) := by decide +kernel
theorem dX8_refill_50 : decode cX8_refill 50 = .ok (.lcmp, 1) := by decide +kernel
theorem dX8_refill_51 : decode cX8_refill 51 = .ok (.ifCond .le 6, 3) := by decide +kernel
theorem dX8_refill_54 : decode cX8_refill 54 = .ok (.bipush (-2), 2) := by decide +kernel
theorem dX8_refill_56 : decode cX8_refill 56 = .ok (.ireturn, 1) := by decide +kernel
theorem dX8_refill_57 : decode cX8_refill 57 = .ok (.aload_n 0, 1) := by decide +kernel
theorem dX8_refill_58 : decode cX8_refill 58 = .ok (.invokevirtual 325, 3) := by decide +kernel
theorem dX8_refill_61 : decode cX8_refill 61 = .ok (.aload_n 0, 1) := by decide +kernel
theorem dX8_refill_62 : decode cX8_refill 62 = .ok (.getfield 26, 3) := by decide +kernel
theorem dX8_refill_65 : decode cX8_refill 65 = .ok (.iconst 0, 1) := by decide +kernel
theorem dX8_refill_66 : decode cX8_refill 66 = .ok (.iload_n 1, 1) := by decide +kernel
theorem dX8_refill_67 : decode cX8_refill 67 = .ok (.iadd, 1) := by decide +kernel
theorem dX8_refill_68 : decode cX8_refill 68 = .ok (.dup2, 1) := by decide +kernel
theorem dX8_refill_69 : decode cX8_refill 69 = .ok (.laload, 1) := by decide +kernel
theorem dX8_refill_70 : decode cX8_refill 70 = .ok (.iload_n 2, 1) := by decide +kernel
theorem dX8_refill_71 : decode cX8_refill 71 = .ok (.i2l, 1) := by decide +kernel
theorem dX8_refill_72 : decode cX8_refill 72 = .ok (.ladd, 1) := by decide +kernel
theorem dX8_refill_73 : decode cX8_refill 73 = .ok (.lastore, 1) := by decide +kernel
theorem dX8_refill_74 : decode cX8_refill 74 = .ok (.aload_n 0, 1) := by decide +kernel
theorem dX8_refill_75 : decode cX8_refill 75 = .ok (.getfield 26, 3) := by decide +kernel
theorem dX8_refill_78 : decode cX8_refill 78 = .ok (.iconst 4, 1) := by decide +kernel
theorem dX8_refill_79 : decode cX8_refill 79 = .ok (.iload_n 1, 1) := by decide +kernel
theorem dX8_refill_80 : decode cX8_refill 80 = .ok (.iadd, 1) := by decide +kernel
theorem dX8_refill_81 : decode cX8_refill 81 = .ok (.dup2, 1) := by decide +kernel
theorem dX8_refill_82 : decode cX8_refill 82 = .ok (.laload, 1) := by decide +kernel
theorem dX8_refill_83 : decode cX8_refill 83 = .ok (.iload_n 2, 1) := by decide +kernel
theorem dX8_refill_84 : decode cX8_refill 84 = .ok (.i2l, 1) := by decide +kernel
theorem dX8_refill_85 : decode cX8_refill 85 = .ok (.ladd, 1) := by decide +kernel
theorem dX8_refill_86 : decode cX8_refill 86 = .ok (.lastore, 1) := by decide +kernel
theorem dX8_refill_87 : decode cX8_refill 87 = .ok (.aload_n 0, 1) := by decide +kernel
theorem dX8_refill_88 : decode cX8_refill 88 = .ok (.invokevirtual 203, 3) := by decide +kernel
theorem dX8_refill_91 : decode cX8_refill 91 = .ok (.ireturn, 1) := by decide +kernel
theorem dX8_addTube_0 : decode cX8_addTube 0 = .ok (.aload_n 0, 1) := by decide +kernel
theorem dX8_addTube_1 : decode cX8_addTube 1 = .ok (.iconst 0, 1) := by decide +kernel
theorem dX8_addTube_2 : decode cX8_addTube 2 = .ok (.putfield 1, 3) := by decide +kernel
theorem dX8_addTube_5 : decode cX8_addTube 5 = .ok (.aload_n 0, 1) := by decide +kernel
theorem dX8_addTube_6 : decode cX8_addTube 6 = .ok (.iload_n 1, 1) := by decide +kernel
theorem dX8_addTube_7 : decode cX8_addTube 7 = .ok (.invokestatic 279, 3) := by decide +kernel
theorem dX8_addTube_10 : decode cX8_addTube 10 = .ok (.ifCond .eq 15, 3) := by decide +kernel
theorem dX8_addTube_13 : decode cX8_addTube 13 = .ok (.aload_n 0, 1) := by decide +kernel
theorem dX8_addTube_14 : decode cX8_addTube 14 = .ok (.iload_n 2, 1) := by decide +kernel
theorem dX8_addTube_15 : decode cX8_addTube 15 = .ok (.invokevirtual 276, 3) := by decide +kernel
theorem dX8_addTube_18 : decode cX8_addTube 18 = .ok (.ifCond .eq 7, 3) := by decide +kernel
theorem dX8_addTube_21 : decode cX8_addTube 21 = .ok (.iconst 1, 1) := by decide +kernel
theorem dX8_addTube_22 : decode cX8_addTube 22 = .ok (.goto 4, 3) := by decide +kernel
theorem dX8_addTube_25 : decode cX8_addTube 25 = .ok (.iconst 0, 1) := by decide +kernel
theorem dX8_addTube_26 : decode cX8_addTube 26 = .ok (.iconst 1, 1) := by decide +kernel
theorem dX8_addTube_27 : decode cX8_addTube 27 = .ok (.invokevirtual 187, 3) := by decide +kernel
theorem dX8_addTube_30 : decode cX8_addTube 30 = .ok (.ifCond .ne 51, 3) := by decide +kernel
theorem dX8_addTube_33 : decode cX8_addTube 33 = .ok (.aload_n 0, 1) := by decide +kernel
theorem dX8_addTube_34 : decode cX8_addTube 34 = .ok (.iload_n 3, 1) := by decide +kernel
theorem dX8_addTube_35 : decode cX8_addTube 35 = .ok (.i2l, 1) := by decide +kernel
theorem dX8_addTube_36 : decode cX8_addTube 36 = .ok (.lconst 1, 1) := by decide +kernel
theorem dX8_addTube_37 : decode cX8_addTube 37 = .ok (.ldc2_w 341, 3) := by decide +kernel
theorem dX8_addTube_40 : decode cX8_addTube 40 = .ok (.invokestatic 142, 3) := by decide +kernel
theorem dX8_addTube_43 : decode cX8_addTube 43 = .ok (.ifCond .eq 30, 3) := by decide +kernel
theorem dX8_addTube_46 : decode cX8_addTube 46 = .ok (.iload 4, 2) := by decide +kernel
theorem dX8_addTube_48 : decode cX8_addTube 48 = .ok (.invokestatic 333, 3) := by decide +kernel
theorem dX8_addTube_51 : decode cX8_addTube 51 = .ok (.ifCond .eq 22, 3) := by decide +kernel
theorem dX8_addTube_54 : decode cX8_addTube 54 = .ok (.iload 5, 2) := by decide +kernel
theorem dX8_addTube_56 : decode cX8_addTube 56 = .ok (.i2l, 1) := by decide +kernel
theorem dX8_addTube_57 : decode cX8_addTube 57 = .ok (.ldc2_w 292, 3) := by decide +kernel
theorem dX8_addTube_60 : decode cX8_addTube 60 = .ok (.ldc2_w 343, 3) := by decide +kernel
theorem dX8_addTube_63 : decode cX8_addTube 63 = .ok (.invokestatic 142, 3) := by decide +kernel
theorem dX8_addTube_66 : decode cX8_addTube 66 = .ok (.ifCond .eq 7, 3) := by decide +kernel
theorem dX8_addTube_69 : decode cX8_addTube 69 = .ok (.iconst 1, 1) := by decide +kernel
theorem dX8_addTube_70 : decode cX8_addTube 70 = .ok (.goto 4, 3) := by decide +kernel
theorem dX8_addTube_73 : decode cX8_addTube 73 = .ok (.iconst 0, 1) := by decide +kernel
theorem dX8_addTube_74 : decode cX8_addTube 74 = .ok (.iconst 2, 1) := by decide +kernel
theorem dX8_addTube_75 : decode cX8_addTube 75 = .ok (.invokevirtual 187, 3) := by decide +kernel
theorem dX8_addTube_78 : decode cX8_addTube 78 = .ok (.ifCond .eq 5, 3) := by decide +kernel
theorem dX8_addTube_81 : decode cX8_addTube 81 = .ok (.iconst 0, 1) := by decide +kernel
theorem dX8_addTube_82 : decode cX8_addTube 82 = .ok (.ireturn, 1) := by decide +kernel
theorem dX8_addTube_83 : decode cX8_addTube 83 = .ok (.aload_n 0, 1) := by decide +kernel
theorem dX8_addTube_84 : decode cX8_addTube 84 = .ok (.getfield 13, 3) := by decide +kernel
theorem dX8_addTube_87 : decode cX8_addTube 87 = .ok (.iconst 2, 1) := by decide +kernel
theorem dX8_addTube_88 : decode cX8_addTube 88 = .ok (.iaload, 1) := by decide +kernel
theorem dX8_addTube_89 : decode cX8_addTube 89 = .ok (.istore 6, 2) := by decide +kernel
theorem dX8_addTube_91 : decode cX8_addTube 91 = .ok (.iload 6, 2) := by decide +kernel
theorem dX8_addTube_93 : decode cX8_addTube 93 = .ok (.bipush 12, 2) := by decide +kernel
theorem dX8_addTube_95 : decode cX8_addTube 95 = .ok (.if_icmp .ne 6, 3) := by decide +kernel
theorem dX8_addTube_98 : decode cX8_addTube 98 = .ok (.bipush (-2), 2) := by decide +kernel
theorem dX8_addTube_100 : decode cX8_addTube 100 = .ok (.ireturn, 1) := by decide +kernel
theorem dX8_addTube_101 : decode cX8_addTube 101 = .ok (.aload_n 0, 1) := by decide +kernel
theorem dX8_addTube_102 : decode cX8_addTube 102 = .ok (.invokevirtual 325, 3) := by decide +kernel
theorem dX8_addTube_105 : decode cX8_addTube 105 = .ok (.aload_n 0, 1) := by decide +kernel
theorem dX8_addTube_106 : decode cX8_addTube 106 = .ok (.iload 6, 2) := by decide +kernel
theorem dX8_addTube_108 : decode cX8_addTube 108 = .ok (.iload_n 1, 1) := by decide +kernel
theorem dX8_addTube_109 : decode cX8_addTube 109 = .ok (.iload_n 2, 1) := by decide +kernel
theorem dX8_addTube_110 : decode cX8_addTube 110 = .ok (.iload_n 3, 1) := by decide +kernel
theorem dX8_addTube_111 : decode cX8_addTube 111 = .ok (.iload 4, 2) := by decide +kernel
theorem dX8_addTube_113 : decode cX8_addTube 113 = .ok (.iload 5, 2) := by decide +kernel
theorem dX8_addTube_115 : decode cX8_addTube 115 = .ok (.invokevirtual 160, 3) := by decide +kernel
theorem dX8_addTube_118 : decode cX8_addTube 118 = .ok (.aload_n 0, 1) := by decide +kernel
theorem dX8_addTube_119 : decode cX8_addTube 119 = .ok (.getfield 13, 3) := by decide +kernel
theorem dX8_addTube_122 : decode cX8_addTube 122 = .ok (.iconst 2, 1) := by decide +kernel
theorem dX8_addTube_123 : decode cX8_addTube 123 = .ok (.iload 6, 2) := by decide +kernel
theorem dX8_addTube_125 : decode cX8_addTube 125 = .ok (.iconst 1, 1) := by decide +kernel
theorem dX8_addTube_126 : decode cX8_addTube 126 = .ok (.iadd, 1) := by decide +kernel
theorem dX8_addTube_127 : decode cX8_addTube 127 = .ok (.iastore, 1) := by decide +kernel
theorem dX8_addTube_128 : decode cX8_addTube 128 = .ok (.aload_n 0, 1) := by decide +kernel
theorem dX8_addTube_129 : decode cX8_addTube 129 = .ok (.invokevirtual 203, 3) := by decide +kernel
theorem dX8_addTube_132 : decode cX8_addTube 132 = .ok (.istore 7, 2) := by decide +kernel
theorem dX8_addTube_134 : decode cX8_addTube 134 = .ok (.iload 6, 2) := by decide +kernel
theorem dX8_addTube_136 : decode cX8_addTube 136 = .ok (.ireturn, 1) := by decide +kernel
theorem dX8_dropTube_0 : decode cX8_dropTube 0 = .ok (.aload_n 0, 1) := by decide +kernel
theorem dX8_dropTube_1 : decode cX8_dropTube 1 = .ok (.iconst 0, 1) := by decide +kernel
theorem dX8_dropTube_2 : decode cX8_dropTube 2 = .ok (.putfield 1, 3) := by decide +kernel
theorem dX8_dropTube_5 : decode cX8_dropTube 5 = .ok (.aload_n 0, 1) := by decide +kernel
theorem dX8_dropTube_6 : decode cX8_dropTube 6 = .ok (.aload_n 0, 1) := by decide +kernel
theorem dX8_dropTube_7 : decode cX8_dropTube 7 = .ok (.iload_n 1, 1) := by decide +kernel
theorem dX8_dropTube_8 : decode cX8_dropTube 8 = .ok (.invokevirtual 289, 3) := by decide +kernel
theorem dX8_dropTube_11 : decode cX8_dropTube 11 = .ok (.iconst 1, 1) := by decide +kernel
theorem dX8_dropTube_12 : decode cX8_dropTube 12 = .ok (.invokevirtual 187, 3) := by decide +kernel
theorem dX8_dropTube_15 : decode cX8_dropTube 15 = .ok (.ifCond .eq 5, 3) := by decide +kernel
theorem dX8_dropTube_18 : decode cX8_dropTube 18 = .ok (.iconst 0, 1) := by decide +kernel
theorem dX8_dropTube_19 : decode cX8_dropTube 19 = .ok (.ireturn, 1) := by decide +kernel
theorem dX8_dropTube_20 : decode cX8_dropTube 20 = .ok (.aload_n 0, 1) := by decide +kernel
theorem dX8_dropTube_21 : decode cX8_dropTube 21 = .ok (.invokevirtual 325, 3) := by decide +kernel
theorem dX8_dropTube_24 : decode cX8_dropTube 24 = .ok (.aload_n 0, 1) := by decide +kernel
theorem dX8_dropTube_25 : decode cX8_dropTube 25 = .ok (.getfield 13, 3) := by decide +kernel
theorem dX8_dropTube_28 : decode cX8_dropTube 28 = .ok (.iconst 2, 1) := by decide +kernel
theorem dX8_dropTube_29 : decode cX8_dropTube 29 = .ok (.dup2, 1) := by decide +kernel
theorem dX8_dropTube_30 : decode cX8_dropTube 30 = .ok (.iaload, 1) := by decide +kernel
theorem dX8_dropTube_31 : decode cX8_dropTube 31 = .ok (.iconst 1, 1) := by decide +kernel
theorem dX8_dropTube_32 : decode cX8_dropTube 32 = .ok (.isub, 1) := by decide +kernel
theorem dX8_dropTube_33 : decode cX8_dropTube 33 = .ok (.iastore, 1) := by decide +kernel
theorem dX8_dropTube_34 : decode cX8_dropTube 34 = .ok (.iload_n 1, 1) := by decide +kernel
theorem dX8_dropTube_35 : decode cX8_dropTube 35 = .ok (.iconst 0, 1) := by decide +kernel
theorem dX8_dropTube_36 : decode cX8_dropTube 36 = .ok (.invokestatic 164, 3) := by decide +kernel
theorem dX8_dropTube_39 : decode cX8_dropTube 39 = .ok (.istore_n 2, 1) := by decide +kernel
theorem dX8_dropTube_40 : decode cX8_dropTube 40 = .ok (.iload_n 2, 1) := by decide +kernel
theorem dX8_dropTube_41 : decode cX8_dropTube 41 = .ok (.aload_n 0, 1) := by decide +kernel
theorem dX8_dropTube_42 : decode cX8_dropTube 42 = .ok (.getfield 13, 3) := by decide +kernel
theorem dX8_dropTube_45 : decode cX8_dropTube 45 = .ok (.iconst 2, 1) := by decide +kernel
theorem dX8_dropTube_46 : decode cX8_dropTube 46 = .ok (.iaload, 1) := by decide +kernel
theorem dX8_dropTube_47 : decode cX8_dropTube 47 = .ok (.iconst 0, 1) := by decide +kernel
theorem dX8_dropTube_48 : decode cX8_dropTube 48 = .ok (.invokestatic 164, 3) := by decide +kernel
theorem dX8_dropTube_51 : decode cX8_dropTube 51 = .ok (.if_icmp .ge 24, 3) := by decide +kernel
theorem dX8_dropTube_54 : decode cX8_dropTube 54 = .ok (.aload_n 0, 1) := by decide +kernel
theorem dX8_dropTube_55 : decode cX8_dropTube 55 = .ok (.getfield 13, 3) := by decide +kernel
theorem dX8_dropTube_58 : decode cX8_dropTube 58 = .ok (.iload_n 2, 1) := by decide +kernel
theorem dX8_dropTube_59 : decode cX8_dropTube 59 = .ok (.aload_n 0, 1) := by decide +kernel
theorem dX8_dropTube_60 : decode cX8_dropTube 60 = .ok (.getfield 13, 3) := by decide +kernel
theorem dX8_dropTube_63 : decode cX8_dropTube 63 = .ok (.iload_n 2, 1) := by decide +kernel
theorem dX8_dropTube_64 : decode cX8_dropTube 64 = .ok (.bipush 7, 2) := by decide +kernel
theorem dX8_dropTube_66 : decode cX8_dropTube 66 = .ok (.iadd, 1) := by decide +kernel
theorem dX8_dropTube_67 : decode cX8_dropTube 67 = .ok (.iaload, 1) := by decide +kernel
theorem dX8_dropTube_68 : decode cX8_dropTube 68 = .ok (.iastore, 1) := by decide +kernel
theorem dX8_dropTube_69 : decode cX8_dropTube 69 = .ok (.iinc 2 1, 3) := by decide +kernel
theorem dX8_dropTube_72 : decode cX8_dropTube 72 = .ok (.goto (-32), 3) := by decide +kernel
theorem dX8_dropTube_75 : decode cX8_dropTube 75 = .ok (.aload_n 0, 1) := by decide +kernel
theorem dX8_dropTube_76 : decode cX8_dropTube 76 = .ok (.invokevirtual 203, 3) := by decide +kernel
theorem dX8_dropTube_79 : decode cX8_dropTube 79 = .ok (.istore_n 2, 1) := by decide +kernel
theorem dX8_dropTube_80 : decode cX8_dropTube 80 = .ok (.aload_n 0, 1) := by decide +kernel
theorem dX8_dropTube_81 : decode cX8_dropTube 81 = .ok (.getfield 13, 3) := by decide +kernel
theorem dX8_dropTube_84 : decode cX8_dropTube 84 = .ok (.iconst 2, 1) := by decide +kernel
theorem dX8_dropTube_85 : decode cX8_dropTube 85 = .ok (.iaload, 1) := by decide +kernel
theorem dX8_dropTube_86 : decode cX8_dropTube 86 = .ok (.ireturn, 1) := by decide +kernel
theorem dX8_undoCount_0 : decode cX8_undoCount 0 = .ok (.aload_n 0, 1) := by decide +kernel
theorem dX8_undoCount_1 : decode cX8_undoCount 1 = .ok (.iconst 0, 1) := by decide +kernel
theorem dX8_undoCount_2 : decode cX8_undoCount 2 = .ok (.putfield 1, 3) := by decide +kernel
theorem dX8_undoCount_5 : decode cX8_undoCount 5 = .ok (.aload_n 0, 1) := by decide +kernel
theorem dX8_undoCount_6 : decode cX8_undoCount 6 = .ok (.getfield 206, 3) := by decide +kernel
theorem dX8_undoCount_9 : decode cX8_undoCount 9 = .ok (.ireturn, 1) := by decide +kernel
theorem dX8_undo_0 : decode cX8_undo 0 = .ok (.aload_n 0, 1) := by decide +kernel
theorem dX8_undo_1 : decode cX8_undo 1 = .ok (.iconst 0, 1) := by decide +kernel
theorem dX8_undo_2 : decode cX8_undo 2 = .ok (.putfield 1, 3) := by decide +kernel
theorem dX8_undo_5 : decode cX8_undo 5 = .ok (.aload_n 0, 1) := by decide +kernel
theorem dX8_undo_6 : decode cX8_undo 6 = .ok (.getfield 206, 3) := by decide +kernel
theorem dX8_undo_9 : decode cX8_undo 9 = .ok (.ifCond .ne 5, 3) := by decide +kernel
theorem dX8_undo_12 : decode cX8_undo 12 = .ok (.iconst (-1), 1) := by decide +kernel
theorem dX8_undo_13 : decode cX8_undo 13 = .ok (.ireturn, 1) := by decide +kernel
theorem dX8_undo_14 : decode cX8_undo 14 = .ok (.aload_n 0, 1) := by decide +kernel
theorem dX8_undo_15 : decode cX8_undo 15 = .ok (.dup, 1) := by decide +kernel
theorem dX8_undo_16 : decode cX8_undo 16 = .ok (.getfield 206, 3) := by decide +kernel
theorem dX8_undo_19 : decode cX8_undo 19 = .ok (.iconst 1, 1) := by decide +kernel
theorem dX8_undo_20 : decode cX8_undo 20 = .ok (.isub, 1) := by decide +kernel
theorem dX8_undo_21 : decode cX8_undo 21 = .ok (.putfield 206, 3) := by decide +kernel
theorem dX8_undo_24 : decode cX8_undo 24 = .ok (.aload_n 0, 1) := by decide +kernel
theorem dX8_undo_25 : decode cX8_undo 25 = .ok (.getfield 23, 3) := by decide +kernel
theorem dX8_undo_28 : decode cX8_undo 28 = .ok (.bipush 102, 2) := by decide +kernel
theorem dX8_undo_30 : decode cX8_undo 30 = .ok (.aload_n 0, 1) := by decide +kernel
theorem dX8_undo_31 : decode cX8_undo 31 = .ok (.getfield 206, 3) := by decide +kernel
theorem dX8_undo_34 : decode cX8_undo 34 = .ok (.imul, 1) := by decide +kernel
theorem dX8_undo_35 : decode cX8_undo 35 = .ok (.aload_n 0, 1) := by decide +kernel
theorem dX8_undo_36 : decode cX8_undo 36 = .ok (.getfield 13, 3) := by decide +kernel
theorem dX8_undo_39 : decode cX8_undo 39 = .ok (.iconst 0, 1) := by decide +kernel
theorem dX8_undo_40 : decode cX8_undo 40 = .ok (.invokestatic 66, 3) := by decide +kernel
theorem dX8_undo_43 : decode cX8_undo 43 = .ok (.aload_n 0, 1) := by decide +kernel
theorem dX8_undo_44 : decode cX8_undo 44 = .ok (.getfield 36, 3) := by decide +kernel
theorem dX8_undo_47 : decode cX8_undo 47 = .ok (.bipush 6, 2) := by decide +kernel
theorem dX8_undo_49 : decode cX8_undo 49 = .ok (.aload_n 0, 1) := by decide +kernel
theorem dX8_undo_50 : decode cX8_undo 50 = .ok (.getfield 206, 3) := by decide +kernel
theorem dX8_undo_53 : decode cX8_undo 53 = .ok (.imul, 1) := by decide +kernel
theorem dX8_undo_54 : decode cX8_undo 54 = .ok (.aload_n 0, 1) := by decide +kernel
theorem dX8_undo_55 : decode cX8_undo 55 = .ok (.getfield 26, 3) := by decide +kernel
theorem dX8_undo_58 : decode cX8_undo 58 = .ok (.iconst 0, 1) := by decide +kernel
theorem dX8_undo_59 : decode cX8_undo 59 = .ok (.invokestatic 70, 3) := by decide +kernel
theorem dX8_undo_62 : decode cX8_undo 62 = .ok (.aload_n 0, 1) := by decide +kernel
theorem dX8_undo_63 : decode cX8_undo 63 = .ok (.getfield 206, 3) := by decide +kernel
theorem dX8_undo_66 : decode cX8_undo 66 = .ok (.ireturn, 1) := by decide +kernel
theorem dX8_saveSnapshot_0 : decode cX8_saveSnapshot 0 = .ok (.aload_n 0, 1) := by decide +kernel
theorem dX8_saveSnapshot_1 : decode cX8_saveSnapshot 1 = .ok (.iconst 0, 1) := by decide +kernel
theorem dX8_saveSnapshot_2 : decode cX8_saveSnapshot 2 = .ok (.putfield 1, 3) := by decide +kernel
theorem dX8_saveSnapshot_5 : decode cX8_saveSnapshot 5 = .ok (.aload_n 0, 1) := by decide +kernel
theorem dX8_saveSnapshot_6 : decode cX8_saveSnapshot 6 = .ok (.getfield 13, 3) := by decide +kernel
theorem dX8_saveSnapshot_9 : decode cX8_saveSnapshot 9 = .ok (.iconst 0, 1) := by decide +kernel
theorem dX8_saveSnapshot_10 : decode cX8_saveSnapshot 10 = .ok (.aload_n 0, 1) := by decide +kernel
theorem dX8_saveSnapshot_11 : decode cX8_saveSnapshot 11 = .ok (.getfield 17, 3) := by decide +kernel
theorem dX8_saveSnapshot_14 : decode cX8_saveSnapshot 14 = .ok (.iconst 0, 1) := by decide +kernel
theorem dX8_saveSnapshot_15 : decode cX8_saveSnapshot 15 = .ok (.invokestatic 66, 3) := by decide +kernel
theorem dX8_saveSnapshot_18 : decode cX8_saveSnapshot 18 = .ok (.aload_n 0, 1) := by decide +kernel
theorem dX8_saveSnapshot_19 : decode cX8_saveSnapshot 19 = .ok (.getfield 26, 3) := by decide +kernel
theorem dX8_saveSnapshot_22 : decode cX8_saveSnapshot 22 = .ok (.iconst 0, 1) := by decide +kernel
theorem dX8_saveSnapshot_23 : decode cX8_saveSnapshot 23 = .ok (.aload_n 0, 1) := by decide +kernel
theorem dX8_saveSnapshot_24 : decode cX8_saveSnapshot 24 = .ok (.getfield 30, 3) := by decide +kernel
theorem dX8_saveSnapshot_27 : decode cX8_saveSnapshot 27 = .ok (.iconst 0, 1) := by decide +kernel
theorem dX8_saveSnapshot_28 : decode cX8_saveSnapshot 28 = .ok (.invokestatic 70, 3) := by decide +kernel
theorem dX8_saveSnapshot_31 : decode cX8_saveSnapshot 31 = .ok (.aload_n 0, 1) := by decide +kernel
theorem dX8_saveSnapshot_32 : decode cX8_saveSnapshot 32 = .ok (.iconst 1, 1) := by decide +kernel
theorem dX8_saveSnapshot_33 : decode cX8_saveSnapshot 33 = .ok (.putfield 209, 3) := by decide +kernel
theorem dX8_saveSnapshot_36 : decode cX8_saveSnapshot 36 = .ok (.return_, 1) := by decide +kernel
theorem dX8_restoreSnapshot_0 : decode cX8_restoreSnapshot 0 = .ok (.aload_n 0, 1) := by decide +kernel
theorem dX8_restoreSnapshot_1 : decode cX8_restoreSnapshot 1 = .ok (.iconst 0, 1) := by decide +kernel
theorem dX8_restoreSnapshot_2 : decode cX8_restoreSnapshot 2 = .ok (.putfield 1, 3) := by decide +kernel
theorem dX8_restoreSnapshot_5 : decode cX8_restoreSnapshot 5 = .ok (.aload_n 0, 1) := by decide +kernel
theorem dX8_restoreSnapshot_6 : decode cX8_restoreSnapshot 6 = .ok (.getfield 209, 3) := by decide +kernel
theorem dX8_restoreSnapshot_9 : decode cX8_restoreSnapshot 9 = .ok (.ifCond .ne 5, 3) := by decide +kernel
theorem dX8_restoreSnapshot_12 : decode cX8_restoreSnapshot 12 = .ok (.iconst 0, 1) := by decide +kernel
theorem dX8_restoreSnapshot_13 : decode cX8_restoreSnapshot 13 = .ok (.ireturn, 1) := by decide +kernel
theorem dX8_restoreSnapshot_14 : decode cX8_restoreSnapshot 14 = .ok (.aload_n 0, 1) := by decide +kernel
theorem dX8_restoreSnapshot_15 : decode cX8_restoreSnapshot 15 = .ok (.getfield 17, 3) := by decide +kernel
theorem dX8_restoreSnapshot_18 : decode cX8_restoreSnapshot 18 = .ok (.iconst 0, 1) := by decide +kernel
theorem dX8_restoreSnapshot_19 : decode cX8_restoreSnapshot 19 = .ok (.aload_n 0, 1) := by decide +kernel
theorem dX8_restoreSnapshot_20 : decode cX8_restoreSnapshot 20 = .ok (.getfield 13, 3) := by decide +kernel
theorem dX8_restoreSnapshot_23 : decode cX8_restoreSnapshot 23 = .ok (.iconst 0, 1) := by decide +kernel
theorem dX8_restoreSnapshot_24 : decode cX8_restoreSnapshot 24 = .ok (.invokestatic 66, 3) := by decide +kernel
theorem dX8_restoreSnapshot_27 : decode cX8_restoreSnapshot 27 = .ok (.aload_n 0, 1) := by decide +kernel
theorem dX8_restoreSnapshot_28 : decode cX8_restoreSnapshot 28 = .ok (.getfield 30, 3) := by decide +kernel
theorem dX8_restoreSnapshot_31 : decode cX8_restoreSnapshot 31 = .ok (.iconst 0, 1) := by decide +kernel
theorem dX8_restoreSnapshot_32 : decode cX8_restoreSnapshot 32 = .ok (.aload_n 0, 1) := by decide +kernel
theorem dX8_restoreSnapshot_33 : decode cX8_restoreSnapshot 33 = .ok (.getfield 26, 3) := by decide +kernel
theorem dX8_restoreSnapshot_36 : decode cX8_restoreSnapshot 36 = .ok (.iconst 0, 1) := by decide +kernel
theorem dX8_restoreSnapshot_37 : decode cX8_restoreSnapshot 37 = .ok (.invokestatic 70, 3) := by decide +kernel
theorem dX8_restoreSnapshot_40 : decode cX8_restoreSnapshot 40 = .ok (.aload_n 0, 1) := by decide +kernel
theorem dX8_restoreSnapshot_41 : decode cX8_restoreSnapshot 41 = .ok (.iconst 0, 1) := by decide +kernel
theorem dX8_restoreSnapshot_42 : decode cX8_restoreSnapshot 42 = .ok (.putfield 206, 3) := by decide +kernel
theorem dX8_restoreSnapshot_45 : decode cX8_restoreSnapshot 45 = .ok (.iconst 1, 1) := by decide +kernel
theorem dX8_restoreSnapshot_46 : decode cX8_restoreSnapshot 46 = .ok (.ireturn, 1) := by decide +kernel
theorem dX8_writes_0 : decode cX8_writes 0 = .ok (.aload_n 0, 1) := by decide +kernel
theorem dX8_writes_1 : decode cX8_writes 1 = .ok (.getfield 45, 3) := by decide +kernel
theorem dX8_writes_4 : decode cX8_writes 4 = .ok (.aload_n 0, 1) := by decide +kernel
theorem dX8_writes_5 : decode cX8_writes 5 = .ok (.getfield 345, 3) := by decide +kernel
theorem dX8_writes_8 : decode cX8_writes 8 = .ok (.iload_n 1, 1) := by decide +kernel
theorem dX8_writes_9 : decode cX8_writes 9 = .ok (.iastore, 1) := by decide +kernel
theorem dX8_writes_10 : decode cX8_writes 10 = .ok (.aload_n 0, 1) := by decide +kernel
theorem dX8_writes_11 : decode cX8_writes 11 = .ok (.dup, 1) := by decide +kernel
theorem dX8_writes_12 : decode cX8_writes 12 = .ok (.getfield 345, 3) := by decide +kernel
theorem dX8_writes_15 : decode cX8_writes 15 = .ok (.iconst 1, 1) := by decide +kernel
theorem dX8_writes_16 : decode cX8_writes 16 = .ok (.iadd, 1) := by decide +kernel
theorem dX8_writes_17 : decode cX8_writes 17 = .ok (.putfield 345, 3) := by decide +kernel
theorem dX8_writes_20 : decode cX8_writes 20 = .ok (.return_, 1) := by decide +kernel
theorem dX8_writesNumber_0 : decode cX8_writesNumber 0 = .ok (.iconst 1, 1) := by decide +kernel
theorem dX8_writesNumber_1 : decode cX8_writesNumber 1 = .ok (.istore_n 2, 1) := by decide +kernel
theorem dX8_writesNumber_2 : decode cX8_writesNumber 2 = .ok (.iload_n 1, 1) := by decide +kernel
theorem dX8_writesNumber_3 : decode cX8_writesNumber 3 = .ok (.iload_n 2, 1) := by decide +kernel
theorem dX8_writesNumber_4 : decode cX8_writesNumber 4 = .ok (.idiv, 1) := by decide +kernel
theorem dX8_writesNumber_5 : decode cX8_writesNumber 5 = .ok (.bipush 9, 2) := by decide +kernel
theorem dX8_writesNumber_7 : decode cX8_writesNumber 7 = .ok (.if_icmp .le 11, 3) := by decide +kernel
theorem dX8_writesNumber_10 : decode cX8_writesNumber 10 = .ok (.iload_n 2, 1) := by decide +kernel
theorem dX8_writesNumber_11 : decode cX8_writesNumber 11 = .ok (.bipush 10, 2) := by decide +kernel
theorem dX8_writesNumber_13 : decode cX8_writesNumber 13 = .ok (.imul, 1) := by decide +kernel
theorem dX8_writesNumber_14 : decode cX8_writesNumber 14 = .ok (.istore_n 2, 1) := by decide +kernel
theorem dX8_writesNumber_15 : decode cX8_writesNumber 15 = .ok (.goto (-13), 3) := by decide +kernel
theorem dX8_writesNumber_18 : decode cX8_writesNumber 18 = .ok (.iload_n 2, 1) := by decide +kernel
theorem dX8_writesNumber_19 : decode cX8_writesNumber 19 = .ok (.ifCond .le 24, 3) := by decide +kernel
theorem dX8_writesNumber_22 : decode cX8_writesNumber 22 = .ok (.aload_n 0, 1) := by decide +kernel
theorem dX8_writesNumber_23 : decode cX8_writesNumber 23 = .ok (.bipush 48, 2) := by decide +kernel
theorem dX8_writesNumber_25 : decode cX8_writesNumber 25 = .ok (.iload_n 1, 1) := by decide +kernel
theorem dX8_writesNumber_26 : decode cX8_writesNumber 26 = .ok (.iload_n 2, 1) := by decide +kernel
theorem dX8_writesNumber_27 : decode cX8_writesNumber 27 = .ok (.idiv, 1) := by decide +kernel
theorem dX8_writesNumber_28 : decode cX8_writesNumber 28 = .ok (.bipush 10, 2) := by decide +kernel
theorem dX8_writesNumber_30 : decode cX8_writesNumber 30 = .ok (.irem, 1) := by decide +kernel
theorem dX8_writesNumber_31 : decode cX8_writesNumber 31 = .ok (.iadd, 1) := by decide +kernel
theorem dX8_writesNumber_32 : decode cX8_writesNumber 32 = .ok (.invokevirtual 348, 3) := by decide +kernel
theorem dX8_writesNumber_35 : decode cX8_writesNumber 35 = .ok (.iload_n 2, 1) := by decide +kernel
theorem dX8_writesNumber_36 : decode cX8_writesNumber 36 = .ok (.bipush 10, 2) := by decide +kernel
theorem dX8_writesNumber_38 : decode cX8_writesNumber 38 = .ok (.idiv, 1) := by decide +kernel
theorem dX8_writesNumber_39 : decode cX8_writesNumber 39 = .ok (.istore_n 2, 1) := by decide +kernel
theorem dX8_writesNumber_40 : decode cX8_writesNumber 40 = .ok (.goto (-22), 3) := by decide +kernel
theorem dX8_writesNumber_43 : decode cX8_writesNumber 43 = .ok (.return_, 1) := by decide +kernel
theorem dX8_writesWord_0 : decode cX8_writesWord 0 = .ok (.lconst 1, 1) := by decide +kernel
theorem dX8_writesWord_1 : decode cX8_writesWord 1 = .ok (.lstore_n 3, 1) := by decide +kernel
theorem dX8_writesWord_2 : decode cX8_writesWord 2 = .ok (.lload_n 1, 1) := by decide +kernel
theorem dX8_writesWord_3 : decode cX8_writesWord 3 = .ok (.lload_n 3, 1) := by decide +kernel
theorem dX8_writesWord_4 : decode cX8_writesWord 4 = .ok (.ldiv, 1) := by decide +kernel
theorem dX8_writesWord_5 : decode cX8_writesWord 5 = .ok (.ldc2_w 351, 3) := by decide +kernel
theorem dX8_writesWord_8 : decode cX8_writesWord 8 = .ok (.lcmp, 1) := by decide +kernel
theorem dX8_writesWord_9 : decode cX8_writesWord 9 = .ok (.ifCond .le 12, 3) := by decide +kernel
theorem dX8_writesWord_12 : decode cX8_writesWord 12 = .ok (.lload_n 3, 1) := by decide +kernel
theorem dX8_writesWord_13 : decode cX8_writesWord 13 = .ok (.ldc2_w 102, 3) := by decide +kernel
theorem dX8_writesWord_16 : decode cX8_writesWord 16 = .ok (.lmul, 1) := by decide +kernel
theorem dX8_writesWord_17 : decode cX8_writesWord 17 = .ok (.lstore_n 3, 1) := by decide +kernel
theorem dX8_writesWord_18 : decode cX8_writesWord 18 = .ok (.goto (-16), 3) := by decide +kernel
theorem dX8_writesWord_21 : decode cX8_writesWord 21 = .ok (.lload_n 3, 1) := by decide +kernel
theorem dX8_writesWord_22 : decode cX8_writesWord 22 = .ok (.lconst 0, 1) := by decide +kernel
theorem dX8_writesWord_23 : decode cX8_writesWord 23 = .ok (.lcmp, 1) := by decide +kernel
theorem dX8_writesWord_24 : decode cX8_writesWord 24 = .ok (.ifCond .le 27, 3) := by decide +kernel
theorem dX8_writesWord_27 : decode cX8_writesWord 27 = .ok (.aload_n 0, 1) := by decide +kernel
theorem dX8_writesWord_28 : decode cX8_writesWord 28 = .ok (.lload_n 1, 1) := by decide +kernel
theorem dX8_writesWord_29 : decode cX8_writesWord 29 = .ok (.lload_n 3, 1) := by decide +kernel
theorem dX8_writesWord_30 : decode cX8_writesWord 30 = .ok (.ldiv, 1) := by decide +kernel
theorem dX8_writesWord_31 : decode cX8_writesWord 31 = .ok (.ldc2_w 102, 3) := by decide +kernel
theorem dX8_writesWord_34 : decode cX8_writesWord 34 = .ok (.lrem, 1) := by decide +kernel
theorem dX8_writesWord_35 : decode cX8_writesWord 35 = .ok (.l2i, 1) := by decide +kernel
theorem dX8_writesWord_36 : decode cX8_writesWord 36 = .ok (.bipush 96, 2) := by decide +kernel
theorem dX8_writesWord_38 : decode cX8_writesWord 38 = .ok (.iadd, 1) := by decide +kernel
theorem dX8_writesWord_39 : decode cX8_writesWord 39 = .ok (.invokevirtual 348, 3) := by decide +kernel
theorem dX8_writesWord_42 : decode cX8_writesWord 42 = .ok (.lload_n 3, 1) := by decide +kernel
theorem dX8_writesWord_43 : decode cX8_writesWord 43 = .ok (.ldc2_w 102, 3) := by decide +kernel
theorem dX8_writesWord_46 : decode cX8_writesWord 46 = .ok (.ldiv, 1) := by decide +kernel
theorem dX8_writesWord_47 : decode cX8_writesWord 47 = .ok (.lstore_n 3, 1) := by decide +kernel
theorem dX8_writesWord_48 : decode cX8_writesWord 48 = .ok (.goto (-27), 3) := by decide +kernel
theorem dX8_writesWord_51 : decode cX8_writesWord 51 = .ok (.return_, 1) := by decide +kernel
theorem dX8_writesSigned_0 : decode cX8_writesSigned 0 = .ok (.iload_n 1, 1) := by decide +kernel
theorem dX8_writesSigned_1 : decode cX8_writesSigned 1 = .ok (.ifCond .ge 9, 3) := by decide +kernel
theorem dX8_writesSigned_4 : decode cX8_writesSigned 4 = .ok (.aload_n 0, 1) := by decide +kernel
theorem dX8_writesSigned_5 : decode cX8_writesSigned 5 = .ok (.bipush 45, 2) := by decide +kernel
theorem dX8_writesSigned_7 : decode cX8_writesSigned 7 = .ok (.invokevirtual 348, 3) := by decide +kernel
theorem dX8_writesSigned_10 : decode cX8_writesSigned 10 = .ok (.aload_n 0, 1) := by decide +kernel
theorem dX8_writesSigned_11 : decode cX8_writesSigned 11 = .ok (.iload_n 1, 1) := by decide +kernel
theorem dX8_writesSigned_12 : decode cX8_writesSigned 12 = .ok (.invokestatic 307, 3) := by decide +kernel
theorem dX8_writesSigned_15 : decode cX8_writesSigned 15 = .ok (.invokevirtual 353, 3) := by decide +kernel
theorem dX8_writesSigned_18 : decode cX8_writesSigned 18 = .ok (.return_, 1) := by decide +kernel
theorem dX8_format_0 : decode cX8_format 0 = .ok (.aload_n 0, 1) := by decide +kernel
theorem dX8_format_1 : decode cX8_format 1 = .ok (.iconst 0, 1) := by decide +kernel
theorem dX8_format_2 : decode cX8_format 2 = .ok (.putfield 1, 3) := by decide +kernel
theorem dX8_format_5 : decode cX8_format 5 = .ok (.aload_n 0, 1) := by decide +kernel
theorem dX8_format_6 : decode cX8_format 6 = .ok (.aload_n 0, 1) := by decide +kernel
theorem dX8_format_7 : decode cX8_format 7 = .ok (.iload_n 1, 1) := by decide +kernel
theorem dX8_format_8 : decode cX8_format 8 = .ok (.invokevirtual 289, 3) := by decide +kernel
theorem dX8_format_11 : decode cX8_format 11 = .ok (.iconst 1, 1) := by decide +kernel
theorem dX8_format_12 : decode cX8_format 12 = .ok (.invokevirtual 187, 3) := by decide +kernel
theorem dX8_format_15 : decode cX8_format 15 = .ok (.ifCond .eq 5, 3) := by decide +kernel
theorem dX8_format_18 : decode cX8_format 18 = .ok (.iconst 0, 1) := by decide +kernel
theorem dX8_format_19 : decode cX8_format 19 = .ok (.ireturn, 1) := by decide +kernel
theorem dX8_format_20 : decode cX8_format 20 = .ok (.aload_n 0, 1) := by decide +kernel
theorem dX8_format_21 : decode cX8_format 21 = .ok (.iconst 0, 1) := by decide +kernel
theorem dX8_format_22 : decode cX8_format 22 = .ok (.putfield 345, 3) := by decide +kernel
theorem dX8_format_25 : decode cX8_format 25 = .ok (.aload_n 0, 1) := by decide +kernel
theorem dX8_format_26 : decode cX8_format 26 = .ok (.aload_n 0, 1) := by decide +kernel
theorem dX8_format_27 : decode cX8_format 27 = .ok (.iload_n 1, 1) := by decide +kernel
theorem dX8_format_28 : decode cX8_format 28 = .ok (.iconst 0, 1) := by decide +kernel
theorem dX8_format_29 : decode cX8_format 29 = .ok (.invokevirtual 216, 3) := by decide +kernel
theorem dX8_format_32 : decode cX8_format 32 = .ok (.invokevirtual 353, 3) := by decide +kernel
theorem dX8_format_35 : decode cX8_format 35 = .ok (.aload_n 0, 1) := by decide +kernel
theorem dX8_format_36 : decode cX8_format 36 = .ok (.bipush 47, 2) := by decide +kernel
theorem dX8_format_38 : decode cX8_format 38 = .ok (.invokevirtual 348, 3) := by decide +kernel
theorem dX8_format_41 : decode cX8_format 41 = .ok (.aload_n 0, 1) := by decide +kernel
theorem dX8_format_42 : decode cX8_format 42 = .ok (.aload_n 0, 1) := by decide +kernel
theorem dX8_format_43 : decode cX8_format 43 = .ok (.iload_n 1, 1) := by decide +kernel
theorem dX8_format_44 : decode cX8_format 44 = .ok (.iconst 1, 1) := by decide +kernel
theorem dX8_format_45 : decode cX8_format 45 = .ok (.invokevirtual 216, 3) := by decide +kernel
theorem dX8_format_48 : decode cX8_format 48 = .ok (.invokevirtual 353, 3) := by decide +kernel
theorem dX8_format_51 : decode cX8_format 51 = .ok (.aload_n 0, 1) := by decide +kernel
theorem dX8_format_52 : decode cX8_format 52 = .ok (.bipush 32, 2) := by decide +kernel
theorem dX8_format_54 : decode cX8_format 54 = .ok (.invokevirtual 348, 3) := by decide +kernel
theorem dX8_format_57 : decode cX8_format 57 = .ok (.aload_n 0, 1) := by decide +kernel
theorem dX8_format_58 : decode cX8_format 58 = .ok (.aload_n 0, 1) := by decide +kernel
theorem dX8_format_59 : decode cX8_format 59 = .ok (.iload_n 1, 1) := by decide +kernel
theorem dX8_format_60 : decode cX8_format 60 = .ok (.iconst 3, 1) := by decide +kernel
theorem dX8_format_61 : decode cX8_format 61 = .ok (.invokevirtual 216, 3) := by decide +kernel
theorem dX8_format_64 : decode cX8_format 64 = .ok (.invokevirtual 353, 3) := by decide +kernel
theorem dX8_format_67 : decode cX8_format 67 = .ok (.aload_n 0, 1) := by decide +kernel
theorem dX8_format_68 : decode cX8_format 68 = .ok (.bipush 32, 2) := by decide +kernel
theorem dX8_format_70 : decode cX8_format 70 = .ok (.invokevirtual 348, 3) := by decide +kernel
theorem dX8_format_73 : decode cX8_format 73 = .ok (.aload_n 0, 1) := by decide +kernel
theorem dX8_format_74 : decode cX8_format 74 = .ok (.iload_n 1, 1) := by decide +kernel
theorem dX8_format_75 : decode cX8_format 75 = .ok (.invokevirtual 230, 3) := by decide +kernel
theorem dX8_format_78 : decode cX8_format 78 = .ok (.ifCond .eq 15, 3) := by decide +kernel
theorem dX8_format_81 : decode cX8_format 81 = .ok (.aload_n 0, 1) := by decide +kernel
theorem dX8_format_82 : decode cX8_format 82 = .ok (.aload_n 0, 1) := by decide +kernel
theorem dX8_format_83 : decode cX8_format 83 = .ok (.iload_n 1, 1) := by decide +kernel
theorem dX8_format_84 : decode cX8_format 84 = .ok (.invokevirtual 294, 3) := by decide +kernel
theorem dX8_format_87 : decode cX8_format 87 = .ok (.invokevirtual 356, 3) := by decide +kernel
theorem dX8_format_90 : decode cX8_format 90 = .ok (.goto 27, 3) := by decide +kernel
theorem dX8_format_93 : decode cX8_format 93 = .ok (.aload_n 0, 1) := by decide +kernel
theorem dX8_format_94 : decode cX8_format 94 = .ok (.aload_n 0, 1) := by decide +kernel
theorem dX8_format_95 : decode cX8_format 95 = .ok (.iload_n 1, 1) := by decide +kernel
theorem dX8_format_96 : decode cX8_format 96 = .ok (.bipush 6, 2) := by decide +kernel
theorem dX8_format_98 : decode cX8_format 98 = .ok (.invokevirtual 216, 3) := by decide +kernel
theorem dX8_format_101 : decode cX8_format 101 = .ok (.iconst 1, 1) := by decide +kernel
theorem dX8_format_102 : decode cX8_format 102 = .ok (.if_icmp .ne 9, 3) := by decide +kernel
theorem dX8_format_105 : decode cX8_format 105 = .ok (.ldc2_w 359, 3) := by decide +kernel
theorem dX8_format_108 : decode cX8_format 108 = .ok (.goto 6, 3) := by decide +kernel
theorem dX8_format_111 : decode cX8_format 111 = .ok (.ldc2_w 361, 3) := by decide +kernel
theorem dX8_format_114 : decode cX8_format 114 = .ok (.invokevirtual 363, 3) := by decide +kernel
theorem dX8_format_117 : decode cX8_format 117 = .ok (.aload_n 0, 1) := by decide +kernel
theorem dX8_format_118 : decode cX8_format 118 = .ok (.getfield 345, 3) := by decide +kernel
theorem dX8_format_121 : decode cX8_format 121 = .ok (.ireturn, 1) := by decide +kernel
theorem dX8_formattedByte_0 : decode cX8_formattedByte 0 = .ok (.aload_n 0, 1) := by decide +kernel
theorem dX8_formattedByte_1 : decode cX8_formattedByte 1 = .ok (.iconst 0, 1) := by decide +kernel
theorem dX8_formattedByte_2 : decode cX8_formattedByte 2 = .ok (.putfield 1, 3) := by decide +kernel
theorem dX8_formattedByte_5 : decode cX8_formattedByte 5 = .ok (.iload_n 1, 1) := by decide +kernel
theorem dX8_formattedByte_6 : decode cX8_formattedByte 6 = .ok (.i2l, 1) := by decide +kernel
theorem dX8_formattedByte_7 : decode cX8_formattedByte 7 = .ok (.lconst 0, 1) := by decide +kernel
theorem dX8_formattedByte_8 : decode cX8_formattedByte 8 = .ok (.aload_n 0, 1) := by decide +kernel
theorem dX8_formattedByte_9 : decode cX8_formattedByte 9 = .ok (.getfield 345, 3) := by decide +kernel
theorem dX8_formattedByte_12 : decode cX8_formattedByte 12 = .ok (.iconst 1, 1) := by decide +kernel
theorem dX8_formattedByte_13 : decode cX8_formattedByte 13 = .ok (.isub, 1) := by decide +kernel
theorem dX8_formattedByte_14 : decode cX8_formattedByte 14 = .ok (.i2l, 1) := by decide +kernel
theorem dX8_formattedByte_15 : decode cX8_formattedByte 15 = .ok (.invokestatic 142, 3) := by decide +kernel
theorem dX8_formattedByte_18 : decode cX8_formattedByte 18 = .ok (.ifCond .eq 12, 3) := by decide +kernel
theorem dX8_formattedByte_21 : decode cX8_formattedByte 21 = .ok (.aload_n 0, 1) := by decide +kernel
theorem dX8_formattedByte_22 : decode cX8_formattedByte 22 = .ok (.getfield 45, 3) := by decide +kernel
theorem dX8_formattedByte_25 : decode cX8_formattedByte 25 = .ok (.iload_n 1, 1) := by decide +kernel
theorem dX8_formattedByte_26 : decode cX8_formattedByte 26 = .ok (.iaload, 1) := by decide +kernel
theorem dX8_formattedByte_27 : decode cX8_formattedByte 27 = .ok (.goto 4, 3) := by decide +kernel
theorem dX8_formattedByte_30 : decode cX8_formattedByte 30 = .ok (.iconst (-1), 1) := by decide +kernel
theorem dX8_formattedByte_31 : decode cX8_formattedByte 31 = .ok (.ireturn, 1) := by decide +kernel
theorem dX8_adds_0 : decode cX8_adds 0 = .ok (.aload_n 0, 1) := by decide +kernel
theorem dX8_adds_1 : decode cX8_adds 1 = .ok (.getfield 48, 3) := by decide +kernel
theorem dX8_adds_4 : decode cX8_adds 4 = .ok (.aload_n 0, 1) := by decide +kernel
theorem dX8_adds_5 : decode cX8_adds 5 = .ok (.getfield 367, 3) := by decide +kernel
theorem dX8_adds_8 : decode cX8_adds 8 = .ok (.iload_n 1, 1) := by decide +kernel
theorem dX8_adds_9 : decode cX8_adds 9 = .ok (.iastore, 1) := by decide +kernel
theorem dX8_adds_10 : decode cX8_adds 10 = .ok (.aload_n 0, 1) := by decide +kernel
theorem dX8_adds_11 : decode cX8_adds 11 = .ok (.dup, 1) := by decide +kernel
theorem dX8_adds_12 : decode cX8_adds 12 = .ok (.getfield 367, 3) := by decide +kernel
theorem dX8_adds_15 : decode cX8_adds 15 = .ok (.iconst 1, 1) := by decide +kernel
theorem dX8_adds_16 : decode cX8_adds 16 = .ok (.iadd, 1) := by decide +kernel
theorem dX8_adds_17 : decode cX8_adds 17 = .ok (.putfield 367, 3) := by decide +kernel
theorem dX8_adds_20 : decode cX8_adds 20 = .ok (.return_, 1) := by decide +kernel
theorem dX8_propertyHere_0 : decode cX8_propertyHere 0 = .ok (.aload_n 0, 1) := by decide +kernel
theorem dX8_propertyHere_1 : decode cX8_propertyHere 1 = .ok (.ldc2_w 172, 3) := by decide +kernel
theorem dX8_propertyHere_4 : decode cX8_propertyHere 4 = .ok (.invokevirtual 132, 3) := by decide +kernel
theorem dX8_propertyHere_7 : decode cX8_propertyHere 7 = .ok (.ifCond .eq 5, 3) := by decide +kernel
theorem dX8_propertyHere_10 : decode cX8_propertyHere 10 = .ok (.iconst 0, 1) := by decide +kernel
theorem dX8_propertyHere_11 : decode cX8_propertyHere 11 = .ok (.ireturn, 1) := by decide +kernel
theorem dX8_propertyHere_12 : decode cX8_propertyHere 12 = .ok (.aload_n 0, 1) := by decide +kernel
theorem dX8_propertyHere_13 : decode cX8_propertyHere 13 = .ok (.ldc2_w 177, 3) := by decide +kernel
theorem dX8_propertyHere_16 : decode cX8_propertyHere 16 = .ok (.invokevirtual 132, 3) := by decide +kernel
theorem dX8_propertyHere_19 : decode cX8_propertyHere 19 = .ok (.ifCond .eq 5, 3) := by decide +kernel
theorem dX8_propertyHere_22 : decode cX8_propertyHere 22 = .ok (.iconst 1, 1) := by decide +kernel
theorem dX8_propertyHere_23 : decode cX8_propertyHere 23 = .ok (.ireturn, 1) := by decide +kernel
theorem dX8_propertyHere_24 : decode cX8_propertyHere 24 = .ok (.aload_n 0, 1) := by decide +kernel
theorem dX8_propertyHere_25 : decode cX8_propertyHere 25 = .ok (.ldc2_w 370, 3) := by decide +kernel
theorem dX8_propertyHere_28 : decode cX8_propertyHere 28 = .ok (.invokevirtual 132, 3) := by decide +kernel
theorem dX8_propertyHere_31 : decode cX8_propertyHere 31 = .ok (.ifCond .eq 5, 3) := by decide +kernel
theorem dX8_propertyHere_34 : decode cX8_propertyHere 34 = .ok (.iconst 2, 1) := by decide +kernel
theorem dX8_propertyHere_35 : decode cX8_propertyHere 35 = .ok (.ireturn, 1) := by decide +kernel
theorem dX8_propertyHere_36 : decode cX8_propertyHere 36 = .ok (.aload_n 0, 1) := by decide +kernel
theorem dX8_propertyHere_37 : decode cX8_propertyHere 37 = .ok (.ldc2_w 372, 3) := by decide +kernel
theorem dX8_propertyHere_40 : decode cX8_propertyHere 40 = .ok (.invokevirtual 132, 3) := by decide +kernel
theorem dX8_propertyHere_43 : decode cX8_propertyHere 43 = .ok (.ifCond .eq 5, 3) := by decide +kernel
theorem dX8_propertyHere_46 : decode cX8_propertyHere 46 = .ok (.iconst 3, 1) := by decide +kernel
theorem dX8_propertyHere_47 : decode cX8_propertyHere 47 = .ok (.ireturn, 1) := by decide +kernel
theorem dX8_propertyHere_48 : decode cX8_propertyHere 48 = .ok (.aload_n 0, 1) := by decide +kernel
theorem dX8_propertyHere_49 : decode cX8_propertyHere 49 = .ok (.ldc2_w 374, 3) := by decide +kernel
theorem dX8_propertyHere_52 : decode cX8_propertyHere 52 = .ok (.invokevirtual 132, 3) := by decide +kernel
theorem dX8_propertyHere_55 : decode cX8_propertyHere 55 = .ok (.ifCond .eq 5, 3) := by decide +kernel
theorem dX8_propertyHere_58 : decode cX8_propertyHere 58 = .ok (.iconst 4, 1) := by decide +kernel
theorem dX8_propertyHere_59 : decode cX8_propertyHere 59 = .ok (.ireturn, 1) := by decide +kernel
theorem dX8_propertyHere_60 : decode cX8_propertyHere 60 = .ok (.aload_n 0, 1) := by decide +kernel
theorem dX8_propertyHere_61 : decode cX8_propertyHere 61 = .ok (.ldc2_w 376, 3) := by decide +kernel
theorem dX8_propertyHere_64 : decode cX8_propertyHere 64 = .ok (.invokevirtual 132, 3) := by decide +kernel
theorem dX8_propertyHere_67 : decode cX8_propertyHere 67 = .ok (.ifCond .eq 5, 3) := by decide +kernel
theorem dX8_propertyHere_70 : decode cX8_propertyHere 70 = .ok (.iconst 5, 1) := by decide +kernel
theorem dX8_propertyHere_71 : decode cX8_propertyHere 71 = .ok (.ireturn, 1) := by decide +kernel
theorem dX8_propertyHere_72 : decode cX8_propertyHere 72 = .ok (.aload_n 0, 1) := by decide +kernel
theorem dX8_propertyHere_73 : decode cX8_propertyHere 73 = .ok (.ldc2_w 378, 3) := by decide +kernel
theorem dX8_propertyHere_76 : decode cX8_propertyHere 76 = .ok (.invokevirtual 132, 3) := by decide +kernel
theorem dX8_propertyHere_79 : decode cX8_propertyHere 79 = .ok (.ifCond .eq 6, 3) := by decide +kernel
theorem dX8_propertyHere_82 : decode cX8_propertyHere 82 = .ok (.bipush 6, 2) := by decide +kernel
theorem dX8_propertyHere_84 : decode cX8_propertyHere 84 = .ok (.ireturn, 1) := by decide +kernel
theorem dX8_propertyHere_85 : decode cX8_propertyHere 85 = .ok (.aload_n 0, 1) := by decide +kernel
theorem dX8_propertyHere_86 : decode cX8_propertyHere 86 = .ok (.ldc2_w 380, 3) := by decide +kernel
theorem dX8_propertyHere_89 : decode cX8_propertyHere 89 = .ok (.invokevirtual 132, 3) := by decide +kernel
theorem dX8_propertyHere_92 : decode cX8_propertyHere 92 = .ok (.ifCond .eq 6, 3) := by decide +kernel
theorem dX8_propertyHere_95 : decode cX8_propertyHere 95 = .ok (.bipush 7, 2) := by decide +kernel
theorem dX8_propertyHere_97 : decode cX8_propertyHere 97 = .ok (.ireturn, 1) := by decide +kernel
theorem dX8_propertyHere_98 : decode cX8_propertyHere 98 = .ok (.aload_n 0, 1) := by decide +kernel
theorem dX8_propertyHere_99 : decode cX8_propertyHere 99 = .ok (.ldc2_w 182, 3) := by decide +kernel
theorem dX8_propertyHere_102 : decode cX8_propertyHere 102 = .ok (.invokevirtual 132, 3) := by decide +kernel
theorem dX8_propertyHere_105 : decode cX8_propertyHere 105 = .ok (.ifCond .eq 8, 3) := by decide +kernel
theorem dX8_propertyHere_108 : decode cX8_propertyHere 108 = .ok (.bipush 8, 2) := by decide +kernel
theorem dX8_propertyHere_110 : decode cX8_propertyHere 110 = .ok (.goto 4, 3) := by decide +kernel
theorem dX8_propertyHere_113 : decode cX8_propertyHere 113 = .ok (.iconst (-1), 1) := by decide +kernel
theorem dX8_propertyHere_114 : decode cX8_propertyHere 114 = .ok (.ireturn, 1) := by decide +kernel
theorem dX8_valueRead_0 : decode cX8_valueRead 0 = .ok (.aload_n 0, 1) := by decide +kernel
theorem dX8_valueRead_1 : decode cX8_valueRead 1 = .ok (.invokevirtual 128, 3) := by decide +kernel
theorem dX8_valueRead_4 : decode cX8_valueRead 4 = .ok (.ifCond .ne 4, 3) := by decide +kernel
theorem dX8_valueRead_7 : decode cX8_valueRead 7 = .ok (.return_, 1) := by decide +kernel
theorem dX8_valueRead_8 : decode cX8_valueRead 8 = .ok (.aload_n 0, 1) := by decide +kernel
theorem dX8_valueRead_9 : decode cX8_valueRead 9 = .ok (.getfield 106, 3) := by decide +kernel
theorem dX8_valueRead_12 : decode cX8_valueRead 12 = .ok (.iconst 2, 1) := by decide +kernel
theorem dX8_valueRead_13 : decode cX8_valueRead 13 = .ok (.if_icmp .ne 21, 3) := by decide +kernel
theorem dX8_valueRead_16 : decode cX8_valueRead 16 = .ok (.aload_n 0, 1) := by decide +kernel
theorem dX8_valueRead_17 : decode cX8_valueRead 17 = .ok (.iconst 0, 1) := by decide +kernel
theorem dX8_valueRead_18 : decode cX8_valueRead 18 = .ok (.ldc_w 382, 3) := by decide +kernel
theorem dX8_valueRead_21 : decode cX8_valueRead 21 = .ok (.invokevirtual 146, 3) := by decide +kernel
theorem dX8_valueRead_24 : decode cX8_valueRead 24 = .ok (.istore_n 1, 1) := by decide +kernel
theorem dX8_valueRead_25 : decode cX8_valueRead 25 = .ok (.aload_n 0, 1) := by decide +kernel
theorem dX8_valueRead_26 : decode cX8_valueRead 26 = .ok (.bipush 100, 2) := by decide +kernel
theorem dX8_valueRead_28 : decode cX8_valueRead 28 = .ok (.iload_n 1, 1) := by decide +kernel
theorem dX8_valueRead_29 : decode cX8_valueRead 29 = .ok (.iadd, 1) := by decide +kernel
theorem dX8_valueRead_30 : decode cX8_valueRead 30 = .ok (.invokevirtual 383, 3) := by decide +kernel
theorem dX8_valueRead_33 : decode cX8_valueRead 33 = .ok (.return_, 1) := by decide +kernel
theorem dX8_valueRead_34 : decode cX8_valueRead 34 = .ok (.aload_n 0, 1) := by decide +kernel
theorem dX8_valueRead_35 : decode cX8_valueRead 35 = .ok (.invokevirtual 386, 3) := by decide +kernel
theorem dX8_valueRead_38 : decode cX8_valueRead 38 = .ok (.istore_n 1, 1) := by decide +kernel
theorem dX8_valueRead_39 : decode cX8_valueRead 39 = .ok (.iload_n 1, 1) := by decide +kernel
theorem dX8_valueRead_40 : decode cX8_valueRead 40 = .ok (.iconst (-1), 1) := by decide +kernel
theorem dX8_valueRead_41 : decode cX8_valueRead 41 = .ok (.if_icmp .ne 10, 3) := by decide +kernel
theorem dX8_valueRead_44 : decode cX8_valueRead 44 = .ok (.aload_n 0, 1) := by decide +kernel
theorem dX8_valueRead_45 : decode cX8_valueRead 45 = .ok (.iconst 1, 1) := by decide +kernel
theorem dX8_valueRead_46 : decode cX8_valueRead 46 = .ok (.invokevirtual 139, 3) := by decide +kernel
theorem dX8_valueRead_49 : decode cX8_valueRead 49 = .ok (.pop, 1) := by decide +kernel
theorem dX8_valueRead_50 : decode cX8_valueRead 50 = .ok (.return_, 1) := by decide +kernel
theorem dX8_valueRead_51 : decode cX8_valueRead 51 = .ok (.aload_n 0, 1) := by decide +kernel
theorem dX8_valueRead_52 : decode cX8_valueRead 52 = .ok (.iload_n 1, 1) := by decide +kernel
theorem dX8_valueRead_53 : decode cX8_valueRead 53 = .ok (.invokevirtual 383, 3) := by decide +kernel
theorem dX8_valueRead_56 : decode cX8_valueRead 56 = .ok (.aload_n 0, 1) := by decide +kernel
theorem dX8_valueRead_57 : decode cX8_valueRead 57 = .ok (.invokevirtual 125, 3) := by decide +kernel
theorem dX8_valueRead_60 : decode cX8_valueRead 60 = .ok (.return_, 1) := by decide +kernel
theorem dX8_goesIn_0 : decode cX8_goesIn 0 = .ok (.aload_n 0, 1) := by decide +kernel
theorem dX8_goesIn_1 : decode cX8_goesIn 1 = .ok (.getfield 389, 3) := by decide +kernel
theorem dX8_goesIn_4 : decode cX8_goesIn 4 = .ok (.bipush 6, 2) := by decide +kernel
theorem dX8_goesIn_6 : decode cX8_goesIn 6 = .ok (.if_icmp .ne 9, 3) := by decide +kernel
theorem dX8_goesIn_9 : decode cX8_goesIn 9 = .ok (.aload_n 0, 1) := by decide +kernel
theorem dX8_goesIn_10 : decode cX8_goesIn 10 = .ok (.iconst 3, 1) := by decide +kernel
theorem dX8_goesIn_11 : decode cX8_goesIn 11 = .ok (.invokevirtual 139, 3) := by decide +kernel
theorem dX8_goesIn_14 : decode cX8_goesIn 14 = .ok (.ireturn, 1) := by decide +kernel
theorem dX8_goesIn_15 : decode cX8_goesIn 15 = .ok (.aload_n 0, 1) := by decide +kernel
theorem dX8_goesIn_16 : decode cX8_goesIn 16 = .ok (.dup, 1) := by decide +kernel
theorem dX8_goesIn_17 : decode cX8_goesIn 17 = .ok (.getfield 389, 3) := by decide +kernel
theorem dX8_goesIn_20 : decode cX8_goesIn 20 = .ok (.iconst 1, 1) := by decide +kernel
theorem dX8_goesIn_21 : decode cX8_goesIn 21 = .ok (.iadd, 1) := by decide +kernel
theorem dX8_goesIn_22 : decode cX8_goesIn 22 = .ok (.putfield 389, 3) := by decide +kernel
theorem dX8_goesIn_25 : decode cX8_goesIn 25 = .ok (.aload_n 0, 1) := by decide +kernel
theorem dX8_goesIn_26 : decode cX8_goesIn 26 = .ok (.getfield 51, 3) := by decide +kernel
theorem dX8_goesIn_29 : decode cX8_goesIn 29 = .ok (.aload_n 0, 1) := by decide +kernel
theorem dX8_goesIn_30 : decode cX8_goesIn 30 = .ok (.getfield 392, 3) := by decide +kernel
theorem dX8_goesIn_33 : decode cX8_goesIn 33 = .ok (.iload_n 1, 1) := by decide +kernel
theorem dX8_goesIn_34 : decode cX8_goesIn 34 = .ok (.iastore, 1) := by decide +kernel
theorem dX8_goesIn_35 : decode cX8_goesIn 35 = .ok (.aload_n 0, 1) := by decide +kernel
theorem dX8_goesIn_36 : decode cX8_goesIn 36 = .ok (.dup, 1) := by decide +kernel
theorem dX8_goesIn_37 : decode cX8_goesIn 37 = .ok (.getfield 392, 3) := by decide +kernel
theorem dX8_goesIn_40 : decode cX8_goesIn 40 = .ok (.iconst 1, 1) := by decide +kernel
theorem dX8_goesIn_41 : decode cX8_goesIn 41 = .ok (.iadd, 1) := by decide +kernel
theorem dX8_goesIn_42 : decode cX8_goesIn 42 = .ok (.putfield 392, 3) := by decide +kernel
theorem dX8_goesIn_45 : decode cX8_goesIn 45 = .ok (.aload_n 0, 1) := by decide +kernel
theorem dX8_goesIn_46 : decode cX8_goesIn 46 = .ok (.invokevirtual 125, 3) := by decide +kernel
theorem dX8_goesIn_49 : decode cX8_goesIn 49 = .ok (.iconst 1, 1) := by decide +kernel
theorem dX8_goesIn_50 : decode cX8_goesIn 50 = .ok (.ireturn, 1) := by decide +kernel
theorem dX8_strength_0 : decode cX8_strength 0 = .ok (.iload_n 0, 1) := by decide +kernel
theorem dX8_strength_1 : decode cX8_strength 1 = .ok (.bipush 25, 2) := by decide +kernel
theorem dX8_strength_3 : decode cX8_strength 3 = .ok (.if_icmp .ne 7, 3) := by decide +kernel
theorem dX8_strength_6 : decode cX8_strength 6 = .ok (.iconst 1, 1) := by decide +kernel
theorem dX8_strength_7 : decode cX8_strength 7 = .ok (.goto 24, 3) := by decide +kernel
theorem dX8_strength_10 : decode cX8_strength 10 = .ok (.iload_n 0, 1) := by decide +kernel
theorem dX8_strength_11 : decode cX8_strength 11 = .ok (.bipush 24, 2) := by decide +kernel
theorem dX8_strength_13 : decode cX8_strength 13 = .ok (.if_icmp .ne 7, 3) := by decide +kernel
theorem dX8_strength_16 : decode cX8_strength 16 = .ok (.iconst 2, 1) := by decide +kernel
theorem dX8_strength_17 : decode cX8_strength 17 = .ok (.goto 14, 3) := by decide +kernel
theorem dX8_strength_20 : decode cX8_strength 20 = .ok (.iload_n 0, 1) := by decide +kernel
theorem dX8_strength_21 : decode cX8_strength 21 = .ok (.bipush 23, 2) := by decide +kernel
theorem dX8_strength_23 : decode cX8_strength 23 = .ok (.if_icmp .ne 7, 3) := by decide +kernel
theorem dX8_strength_26 : decode cX8_strength 26 = .ok (.iconst 3, 1) := by decide +kernel
theorem dX8_strength_27 : decode cX8_strength 27 = .ok (.goto 4, 3) := by decide +kernel
theorem dX8_strength_30 : decode cX8_strength 30 = .ok (.iconst 0, 1) := by decide +kernel
theorem dX8_strength_31 : decode cX8_strength 31 = .ok (.ireturn, 1) := by decide +kernel
theorem dX8_settles__0 : decode cX8_settles_ 0 = .ok (.aload_n 0, 1) := by decide +kernel
theorem dX8_settles__1 : decode cX8_settles_ 1 = .ok (.invokevirtual 128, 3) := by decide +kernel
theorem dX8_settles__4 : decode cX8_settles_ 4 = .ok (.ifCond .eq 78, 3) := by decide +kernel
theorem dX8_settles__7 : decode cX8_settles_ 7 = .ok (.aload_n 0, 1) := by decide +kernel
theorem dX8_settles__8 : decode cX8_settles_ 8 = .ok (.getfield 392, 3) := by decide +kernel
theorem dX8_settles__11 : decode cX8_settles_ 11 = .ok (.ifCond .le 71, 3) := by decide +kernel
theorem dX8_settles__14 : decode cX8_settles_ 14 = .ok (.aload_n 0, 1) := by decide +kernel
theorem dX8_settles__15 : decode cX8_settles_ 15 = .ok (.getfield 51, 3) := by decide +kernel
theorem dX8_settles__18 : decode cX8_settles_ 18 = .ok (.aload_n 0, 1) := by decide +kernel
theorem dX8_settles__19 : decode cX8_settles_ 19 = .ok (.getfield 392, 3) := by decide +kernel
theorem dX8_settles__22 : decode cX8_settles_ 22 = .ok (.iconst 1, 1) := by decide +kernel
theorem dX8_settles__23 : decode cX8_settles_ 23 = .ok (.isub, 1) := by decide +kernel
theorem dX8_settles__24 : decode cX8_settles_ 24 = .ok (.iaload, 1) := by decide +kernel
theorem dX8_settles__25 : decode cX8_settles_ 25 = .ok (.invokestatic 395, 3) := by decide +kernel
theorem dX8_settles__28 : decode cX8_settles_ 28 = .ok (.iload_n 1, 1) := by decide +kernel
theorem dX8_settles__29 : decode cX8_settles_ 29 = .ok (.if_icmp .lt 53, 3) := by decide +kernel
theorem dX8_settles__32 : decode cX8_settles_ 32 = .ok (.aload_n 0, 1) := by decide +kernel
theorem dX8_settles__33 : decode cX8_settles_ 33 = .ok (.dup, 1) := by decide +kernel
theorem dX8_settles__34 : decode cX8_settles_ 34 = .ok (.getfield 392, 3) := by decide +kernel
theorem dX8_settles__37 : decode cX8_settles_ 37 = .ok (.iconst 1, 1) := by decide +kernel
theorem dX8_settles__38 : decode cX8_settles_ 38 = .ok (.isub, 1) := by decide +kernel
theorem dX8_settles__39 : decode cX8_settles_ 39 = .ok (.putfield 392, 3) := by decide +kernel
theorem dX8_settles__42 : decode cX8_settles_ 42 = .ok (.aload_n 0, 1) := by decide +kernel
theorem dX8_settles__43 : decode cX8_settles_ 43 = .ok (.aload_n 0, 1) := by decide +kernel
theorem dX8_settles__44 : decode cX8_settles_ 44 = .ok (.getfield 51, 3) := by decide +kernel
theorem dX8_settles__47 : decode cX8_settles_ 47 = .ok (.aload_n 0, 1) := by decide +kernel
theorem dX8_settles__48 : decode cX8_settles_ 48 = .ok (.getfield 392, 3) := by decide +kernel
theorem dX8_settles__51 : decode cX8_settles_ 51 = .ok (.iaload, 1) := by decide +kernel
theorem dX8_settles__52 : decode cX8_settles_ 52 = .ok (.invokevirtual 383, 3) := by decide +kernel
theorem dX8_settles__55 : decode cX8_settles_ 55 = .ok (.aload_n 0, 1) := by decide +kernel
theorem dX8_settles__56 : decode cX8_settles_ 56 = .ok (.getfield 51, 3) := by decide +kernel
theorem dX8_settles__59 : decode cX8_settles_ 59 = .ok (.aload_n 0, 1) := by decide +kernel
theorem dX8_settles__60 : decode cX8_settles_ 60 = .ok (.getfield 392, 3) := by decide +kernel
theorem dX8_settles__63 : decode cX8_settles_ 63 = .ok (.iaload, 1) := by decide +kernel
theorem dX8_settles__64 : decode cX8_settles_ 64 = .ok (.bipush 23, 2) := by decide +kernel
theorem dX8_settles__66 : decode cX8_settles_ 66 = .ok (.if_icmp .ne (-66), 3) := by decide +kernel
theorem dX8_settles__69 : decode cX8_settles_ 69 = .ok (.aload_n 0, 1) := by decide +kernel
theorem dX8_settles__70 : decode cX8_settles_ 70 = .ok (.dup, 1) := by decide +kernel
theorem dX8_settles__71 : decode cX8_settles_ 71 = .ok (.getfield 389, 3) := by decide +kernel
theorem dX8_settles__74 : decode cX8_settles_ 74 = .ok (.iconst 1, 1) := by decide +kernel
theorem dX8_settles__75 : decode cX8_settles_ 75 = .ok (.isub, 1) := by decide +kernel
theorem dX8_settles__76 : decode cX8_settles_ 76 = .ok (.putfield 389, 3) := by decide +kernel
theorem dX8_settles__79 : decode cX8_settles_ 79 = .ok (.goto (-79), 3) := by decide +kernel
theorem dX8_settles__82 : decode cX8_settles_ 82 = .ok (.return_, 1) := by decide +kernel
theorem dX8_isInside_0 : decode cX8_isInside 0 = .ok (.iconst 0, 1) := by decide +kernel
theorem dX8_isInside_1 : decode cX8_isInside 1 = .ok (.istore_n 1, 1) := by decide +kernel
theorem dX8_isInside_2 : decode cX8_isInside 2 = .ok (.iload_n 1, 1) := by decide +kernel
theorem dX8_isInside_3 : decode cX8_isInside 3 = .ok (.aload_n 0, 1) := by decide +kernel
theorem dX8_isInside_4 : decode cX8_isInside 4 = .ok (.getfield 392, 3) := by decide +kernel
theorem dX8_isInside_7 : decode cX8_isInside 7 = .ok (.if_icmp .ge 21, 3) := by decide +kernel
theorem dX8_isInside_10 : decode cX8_isInside 10 = .ok (.aload_n 0, 1) := by decide +kernel
theorem dX8_isInside_11 : decode cX8_isInside 11 = .ok (.getfield 51, 3) := by decide +kernel
theorem dX8_isInside_14 : decode cX8_isInside 14 = .ok (.iload_n 1, 1) := by decide +kernel
theorem dX8_isInside_15 : decode cX8_isInside 15 = .ok (.iaload, 1) := by decide +kernel
theorem dX8_isInside_16 : decode cX8_isInside 16 = .ok (.iconst 1, 1) := by decide +kernel
theorem dX8_isInside_17 : decode cX8_isInside 17 = .ok (.if_icmp .ne 5, 3) := by decide +kernel
theorem dX8_isInside_20 : decode cX8_isInside 20 = .ok (.iconst 1, 1) := by decide +kernel
theorem dX8_isInside_21 : decode cX8_isInside 21 = .ok (.ireturn, 1) := by decide +kernel
theorem dX8_isInside_22 : decode cX8_isInside 22 = .ok (.iinc 1 1, 3) := by decide +kernel
theorem dX8_isInside_25 : decode cX8_isInside 25 = .ok (.goto (-23), 3) := by decide +kernel
theorem dX8_isInside_28 : decode cX8_isInside 28 = .ok (.iconst 0, 1) := by decide +kernel
theorem dX8_isInside_29 : decode cX8_isInside 29 = .ok (.ireturn, 1) := by decide +kernel
theorem dX8_comparisonRead_0 : decode cX8_comparisonRead 0 = .ok (.aload_n 0, 1) := by decide +kernel
theorem dX8_comparisonRead_1 : decode cX8_comparisonRead 1 = .ok (.ldc2_w 398, 3) := by decide +kernel
theorem dX8_comparisonRead_4 : decode cX8_comparisonRead 4 = .ok (.invokevirtual 132, 3) := by decide +kernel
theorem dX8_comparisonRead_7 : decode cX8_comparisonRead 7 = .ok (.ifCond .ne 12, 3) := by decide +kernel
theorem dX8_comparisonRead_10 : decode cX8_comparisonRead 10 = .ok (.aload_n 0, 1) := by decide +kernel
theorem dX8_comparisonRead_11 : decode cX8_comparisonRead 11 = .ok (.bipush 40, 2) := by decide +kernel
theorem dX8_comparisonRead_13 : decode cX8_comparisonRead 13 = .ok (.invokevirtual 136, 3) := by decide +kernel
theorem dX8_comparisonRead_16 : decode cX8_comparisonRead 16 = .ok (.ifCond .eq 27, 3) := by decide +kernel
theorem dX8_comparisonRead_19 : decode cX8_comparisonRead 19 = .ok (.aload_n 0, 1) := by decide +kernel
theorem dX8_comparisonRead_20 : decode cX8_comparisonRead 20 = .ok (.aload_n 0, 1) := by decide +kernel
theorem dX8_comparisonRead_21 : decode cX8_comparisonRead 21 = .ok (.ldc2_w 398, 3) := by decide +kernel
theorem dX8_comparisonRead_24 : decode cX8_comparisonRead 24 = .ok (.invokevirtual 132, 3) := by decide +kernel
theorem dX8_comparisonRead_27 : decode cX8_comparisonRead 27 = .ok (.ifCond .eq 8, 3) := by decide +kernel
theorem dX8_comparisonRead_30 : decode cX8_comparisonRead 30 = .ok (.bipush 23, 2) := by decide +kernel
theorem dX8_comparisonRead_32 : decode cX8_comparisonRead 32 = .ok (.goto 4, 3) := by decide +kernel
theorem dX8_comparisonRead_35 : decode cX8_comparisonRead 35 = .ok (.iconst 1, 1) := by decide +kernel
theorem dX8_comparisonRead_36 : decode cX8_comparisonRead 36 = .ok (.invokevirtual 400, 3) := by decide +kernel
theorem dX8_comparisonRead_39 : decode cX8_comparisonRead 39 = .ok (.ifCond .ne (-39), 3) := by decide +kernel
theorem dX8_comparisonRead_42 : decode cX8_comparisonRead 42 = .ok (.return_, 1) := by decide +kernel
theorem dX8_comparisonRead_43 : decode cX8_comparisonRead 43 = .ok (.aload_n 0, 1) := by decide +kernel
theorem dX8_comparisonRead_44 : decode cX8_comparisonRead 44 = .ok (.invokevirtual 403, 3) := by decide +kernel
theorem dX8_comparisonRead_47 : decode cX8_comparisonRead 47 = .ok (.aload_n 0, 1) := by decide +kernel
theorem dX8_comparisonRead_48 : decode cX8_comparisonRead 48 = .ok (.bipush 60, 2) := by decide +kernel
theorem dX8_comparisonRead_50 : decode cX8_comparisonRead 50 = .ok (.invokevirtual 136, 3) := by decide +kernel
theorem dX8_comparisonRead_53 : decode cX8_comparisonRead 53 = .ok (.ifCond .eq 8, 3) := by decide +kernel
theorem dX8_comparisonRead_56 : decode cX8_comparisonRead 56 = .ok (.bipush 20, 2) := by decide +kernel
theorem dX8_comparisonRead_58 : decode cX8_comparisonRead 58 = .ok (.goto 19, 3) := by decide +kernel
theorem dX8_comparisonRead_61 : decode cX8_comparisonRead 61 = .ok (.aload_n 0, 1) := by decide +kernel
theorem dX8_comparisonRead_62 : decode cX8_comparisonRead 62 = .ok (.bipush 62, 2) := by decide +kernel
theorem dX8_comparisonRead_64 : decode cX8_comparisonRead 64 = .ok (.invokevirtual 136, 3) := by decide +kernel
theorem dX8_comparisonRead_67 : decode cX8_comparisonRead 67 = .ok (.ifCond .eq 8, 3) := by decide +kernel
theorem dX8_comparisonRead_70 : decode cX8_comparisonRead 70 = .ok (.bipush 22, 2) := by decide +kernel
theorem dX8_comparisonRead_72 : decode cX8_comparisonRead 72 = .ok (.goto 5, 3) := by decide +kernel
theorem dX8_comparisonRead_75 : decode cX8_comparisonRead 75 = .ok (.bipush 21, 2) := by decide +kernel
theorem dX8_comparisonRead_77 : decode cX8_comparisonRead 77 = .ok (.istore_n 1, 1) := by decide +kernel
theorem dX8_comparisonRead_78 : decode cX8_comparisonRead 78 = .ok (.iload_n 1, 1) := by decide +kernel
theorem dX8_comparisonRead_79 : decode cX8_comparisonRead 79 = .ok (.bipush 21, 2) := by decide +kernel
theorem dX8_comparisonRead_81 : decode cX8_comparisonRead 81 = .ok (.if_icmp .ne 18, 3) := by decide +kernel
theorem dX8_comparisonRead_84 : decode cX8_comparisonRead 84 = .ok (.aload_n 0, 1) := by decide +kernel
theorem dX8_comparisonRead_85 : decode cX8_comparisonRead 85 = .ok (.bipush 61, 2) := by decide +kernel
theorem dX8_comparisonRead_87 : decode cX8_comparisonRead 87 = .ok (.invokevirtual 136, 3) := by decide +kernel
theorem dX8_comparisonRead_90 : decode cX8_comparisonRead 90 = .ok (.ifCond .ne 9, 3) := by decide +kernel
theorem dX8_comparisonRead_93 : decode cX8_comparisonRead 93 = .ok (.aload_n 0, 1) := by decide +kernel
theorem dX8_comparisonRead_94 : decode cX8_comparisonRead 94 = .ok (.iconst 1, 1) := by decide +kernel
theorem dX8_comparisonRead_95 : decode cX8_comparisonRead 95 = .ok (.invokevirtual 139, 3) := by decide +kernel
theorem dX8_comparisonRead_98 : decode cX8_comparisonRead 98 = .ok (.pop, 1) := by decide +kernel
theorem dX8_comparisonRead_99 : decode cX8_comparisonRead 99 = .ok (.aload_n 0, 1) := by decide +kernel
theorem dX8_comparisonRead_100 : decode cX8_comparisonRead 100 = .ok (.invokevirtual 128, 3) := by decide +kernel
theorem dX8_comparisonRead_103 : decode cX8_comparisonRead 103 = .ok (.ifCond .ne 4, 3) := by decide +kernel
theorem dX8_comparisonRead_106 : decode cX8_comparisonRead 106 = .ok (.return_, 1) := by decide +kernel
theorem dX8_comparisonRead_107 : decode cX8_comparisonRead 107 = .ok (.aload_n 0, 1) := by decide +kernel
theorem dX8_comparisonRead_108 : decode cX8_comparisonRead 108 = .ok (.invokevirtual 125, 3) := by decide +kernel
theorem dX8_comparisonRead_111 : decode cX8_comparisonRead 111 = .ok (.aload_n 0, 1) := by decide +kernel
theorem dX8_comparisonRead_112 : decode cX8_comparisonRead 112 = .ok (.invokevirtual 403, 3) := by decide +kernel
theorem dX8_comparisonRead_115 : decode cX8_comparisonRead 115 = .ok (.aload_n 0, 1) := by decide +kernel
theorem dX8_comparisonRead_116 : decode cX8_comparisonRead 116 = .ok (.invokevirtual 128, 3) := by decide +kernel
theorem dX8_comparisonRead_119 : decode cX8_comparisonRead 119 = .ok (.ifCond .eq 8, 3) := by decide +kernel
theorem dX8_comparisonRead_122 : decode cX8_comparisonRead 122 = .ok (.aload_n 0, 1) := by decide +kernel
theorem dX8_comparisonRead_123 : decode cX8_comparisonRead 123 = .ok (.iload_n 1, 1) := by decide +kernel
theorem dX8_comparisonRead_124 : decode cX8_comparisonRead 124 = .ok (.invokevirtual 383, 3) := by decide +kernel
theorem dX8_comparisonRead_127 : decode cX8_comparisonRead 127 = .ok (.return_, 1) := by decide +kernel
theorem dX8_closes_0 : decode cX8_closes 0 = .ok (.aload_n 0, 1) := by decide +kernel
theorem dX8_closes_1 : decode cX8_closes 1 = .ok (.iconst 3, 1) := by decide +kernel
theorem dX8_closes_2 : decode cX8_closes 2 = .ok (.invokevirtual 406, 3) := by decide +kernel
theorem dX8_closes_5 : decode cX8_closes 5 = .ok (.aload_n 0, 1) := by decide +kernel
theorem dX8_closes_6 : decode cX8_closes 6 = .ok (.bipush 41, 2) := by decide +kernel
theorem dX8_closes_8 : decode cX8_closes 8 = .ok (.invokevirtual 136, 3) := by decide +kernel
theorem dX8_closes_11 : decode cX8_closes 11 = .ok (.ifCond .eq 47, 3) := by decide +kernel
theorem dX8_closes_14 : decode cX8_closes 14 = .ok (.aload_n 0, 1) := by decide +kernel
theorem dX8_closes_15 : decode cX8_closes 15 = .ok (.invokevirtual 408, 3) := by decide +kernel
theorem dX8_closes_18 : decode cX8_closes 18 = .ok (.ifCond .eq 40, 3) := by decide +kernel
theorem dX8_closes_21 : decode cX8_closes 21 = .ok (.aload_n 0, 1) := by decide +kernel
theorem dX8_closes_22 : decode cX8_closes 22 = .ok (.iconst 1, 1) := by decide +kernel
theorem dX8_closes_23 : decode cX8_closes 23 = .ok (.invokevirtual 406, 3) := by decide +kernel
theorem dX8_closes_26 : decode cX8_closes 26 = .ok (.aload_n 0, 1) := by decide +kernel
theorem dX8_closes_27 : decode cX8_closes 27 = .ok (.dup, 1) := by decide +kernel
theorem dX8_closes_28 : decode cX8_closes 28 = .ok (.getfield 392, 3) := by decide +kernel
theorem dX8_closes_31 : decode cX8_closes 31 = .ok (.iconst 1, 1) := by decide +kernel
theorem dX8_closes_32 : decode cX8_closes 32 = .ok (.isub, 1) := by decide +kernel
theorem dX8_closes_33 : decode cX8_closes 33 = .ok (.putfield 392, 3) := by decide +kernel
theorem dX8_closes_36 : decode cX8_closes 36 = .ok (.aload_n 0, 1) := by decide +kernel
theorem dX8_closes_37 : decode cX8_closes 37 = .ok (.dup, 1) := by decide +kernel
theorem dX8_closes_38 : decode cX8_closes 38 = .ok (.getfield 389, 3) := by decide +kernel
theorem dX8_closes_41 : decode cX8_closes 41 = .ok (.iconst 1, 1) := by decide +kernel
theorem dX8_closes_42 : decode cX8_closes 42 = .ok (.isub, 1) := by decide +kernel
theorem dX8_closes_43 : decode cX8_closes 43 = .ok (.putfield 389, 3) := by decide +kernel
theorem dX8_closes_46 : decode cX8_closes 46 = .ok (.aload_n 0, 1) := by decide +kernel
theorem dX8_closes_47 : decode cX8_closes 47 = .ok (.invokevirtual 125, 3) := by decide +kernel
theorem dX8_closes_50 : decode cX8_closes 50 = .ok (.aload_n 0, 1) := by decide +kernel
theorem dX8_closes_51 : decode cX8_closes 51 = .ok (.iconst 3, 1) := by decide +kernel
theorem dX8_closes_52 : decode cX8_closes 52 = .ok (.invokevirtual 406, 3) := by decide +kernel
theorem dX8_closes_55 : decode cX8_closes 55 = .ok (.goto (-50), 3) := by decide +kernel
theorem dX8_closes_58 : decode cX8_closes 58 = .ok (.return_, 1) := by decide +kernel
theorem dX8_reads_0 : decode cX8_reads 0 = .ok (.aload_n 0, 1) := by decide +kernel
theorem dX8_reads_1 : decode cX8_reads 1 = .ok (.iconst 0, 1) := by decide +kernel
theorem dX8_reads_2 : decode cX8_reads 2 = .ok (.putfield 367, 3) := by decide +kernel
theorem dX8_reads_5 : decode cX8_reads 5 = .ok (.aload_n 0, 1) := by decide +kernel
theorem dX8_reads_6 : decode cX8_reads 6 = .ok (.iconst 0, 1) := by decide +kernel
theorem dX8_reads_7 : decode cX8_reads 7 = .ok (.putfield 389, 3) := by decide +kernel
theorem dX8_reads_10 : decode cX8_reads 10 = .ok (.aload_n 0, 1) := by decide +kernel
theorem dX8_reads_11 : decode cX8_reads 11 = .ok (.iconst 0, 1) := by decide +kernel
theorem dX8_reads_12 : decode cX8_reads 12 = .ok (.putfield 392, 3) := by decide +kernel
theorem dX8_reads_15 : decode cX8_reads 15 = .ok (.aload_n 0, 1) := by decide +kernel
theorem dX8_reads_16 : decode cX8_reads 16 = .ok (.invokevirtual 128, 3) := by decide +kernel
theorem dX8_reads_19 : decode cX8_reads 19 = .ok (.istore_n 1, 1) := by decide +kernel
theorem dX8_reads_20 : decode cX8_reads 20 = .ok (.iload_n 1, 1) := by decide +kernel
theorem dX8_reads_21 : decode cX8_reads 21 = .ok (.ifCond .eq 103, 3) := by decide +kernel
theorem dX8_reads_24 : decode cX8_reads 24 = .ok (.aload_n 0, 1) := by decide +kernel
theorem dX8_reads_25 : decode cX8_reads 25 = .ok (.invokevirtual 411, 3) := by decide +kernel
theorem dX8_reads_28 : decode cX8_reads 28 = .ok (.aload_n 0, 1) := by decide +kernel
theorem dX8_reads_29 : decode cX8_reads 29 = .ok (.invokevirtual 128, 3) := by decide +kernel
theorem dX8_reads_32 : decode cX8_reads 32 = .ok (.ifCond .ne 4, 3) := by decide +kernel
theorem dX8_reads_35 : decode cX8_reads 35 = .ok (.return_, 1) := by decide +kernel
theorem dX8_reads_36 : decode cX8_reads 36 = .ok (.aload_n 0, 1) := by decide +kernel
theorem dX8_reads_37 : decode cX8_reads 37 = .ok (.invokevirtual 414, 3) := by decide +kernel
theorem dX8_reads_40 : decode cX8_reads 40 = .ok (.aload_n 0, 1) := by decide +kernel
theorem dX8_reads_41 : decode cX8_reads 41 = .ok (.ldc2_w 417, 3) := by decide +kernel
theorem dX8_reads_44 : decode cX8_reads 44 = .ok (.invokevirtual 132, 3) := by decide +kernel
theorem dX8_reads_47 : decode cX8_reads 47 = .ok (.ifCond .eq 8, 3) := by decide +kernel
theorem dX8_reads_50 : decode cX8_reads 50 = .ok (.bipush 24, 2) := by decide +kernel
theorem dX8_reads_52 : decode cX8_reads 52 = .ok (.goto 19, 3) := by decide +kernel
theorem dX8_reads_55 : decode cX8_reads 55 = .ok (.aload_n 0, 1) := by decide +kernel
theorem dX8_reads_56 : decode cX8_reads 56 = .ok (.ldc2_w 419, 3) := by decide +kernel
theorem dX8_reads_59 : decode cX8_reads 59 = .ok (.invokevirtual 132, 3) := by decide +kernel
theorem dX8_reads_62 : decode cX8_reads 62 = .ok (.ifCond .eq 8, 3) := by decide +kernel
theorem dX8_reads_65 : decode cX8_reads 65 = .ok (.bipush 25, 2) := by decide +kernel
theorem dX8_reads_67 : decode cX8_reads 67 = .ok (.goto 4, 3) := by decide +kernel
theorem dX8_reads_70 : decode cX8_reads 70 = .ok (.iconst 0, 1) := by decide +kernel
theorem dX8_reads_71 : decode cX8_reads 71 = .ok (.istore_n 2, 1) := by decide +kernel
theorem dX8_reads_72 : decode cX8_reads 72 = .ok (.iload_n 2, 1) := by decide +kernel
theorem dX8_reads_73 : decode cX8_reads 73 = .ok (.ifCond .eq 7, 3) := by decide +kernel
theorem dX8_reads_76 : decode cX8_reads 76 = .ok (.iconst 1, 1) := by decide +kernel
theorem dX8_reads_77 : decode cX8_reads 77 = .ok (.goto 4, 3) := by decide +kernel
theorem dX8_reads_80 : decode cX8_reads 80 = .ok (.iconst 0, 1) := by decide +kernel
theorem dX8_reads_81 : decode cX8_reads 81 = .ok (.istore_n 1, 1) := by decide +kernel
theorem dX8_reads_82 : decode cX8_reads 82 = .ok (.iload_n 1, 1) := by decide +kernel
theorem dX8_reads_83 : decode cX8_reads 83 = .ok (.ifCond .ne 6, 3) := by decide +kernel
theorem dX8_reads_86 : decode cX8_reads 86 = .ok (.goto (-66), 3) := by decide +kernel
theorem dX8_reads_89 : decode cX8_reads 89 = .ok (.aload_n 0, 1) := by decide +kernel
theorem dX8_reads_90 : decode cX8_reads 90 = .ok (.iload_n 2, 1) := by decide +kernel
theorem dX8_reads_91 : decode cX8_reads 91 = .ok (.invokestatic 395, 3) := by decide +kernel
theorem dX8_reads_94 : decode cX8_reads 94 = .ok (.invokevirtual 406, 3) := by decide +kernel
theorem dX8_reads_97 : decode cX8_reads 97 = .ok (.aload_n 0, 1) := by decide +kernel
theorem dX8_reads_98 : decode cX8_reads 98 = .ok (.getfield 51, 3) := by decide +kernel
theorem dX8_reads_101 : decode cX8_reads 101 = .ok (.aload_n 0, 1) := by decide +kernel
theorem dX8_reads_102 : decode cX8_reads 102 = .ok (.getfield 392, 3) := by decide +kernel
theorem dX8_reads_105 : decode cX8_reads 105 = .ok (.iload_n 2, 1) := by decide +kernel
theorem dX8_reads_106 : decode cX8_reads 106 = .ok (.iastore, 1) := by decide +kernel
theorem dX8_reads_107 : decode cX8_reads 107 = .ok (.aload_n 0, 1) := by decide +kernel
theorem dX8_reads_108 : decode cX8_reads 108 = .ok (.dup, 1) := by decide +kernel
theorem dX8_reads_109 : decode cX8_reads 109 = .ok (.getfield 392, 3) := by decide +kernel
theorem dX8_reads_112 : decode cX8_reads 112 = .ok (.iconst 1, 1) := by decide +kernel
theorem dX8_reads_113 : decode cX8_reads 113 = .ok (.iadd, 1) := by decide +kernel
theorem dX8_reads_114 : decode cX8_reads 114 = .ok (.putfield 392, 3) := by decide +kernel
theorem dX8_reads_117 : decode cX8_reads 117 = .ok (.aload_n 0, 1) := by decide +kernel
theorem dX8_reads_118 : decode cX8_reads 118 = .ok (.invokevirtual 125, 3) := by decide +kernel
theorem dX8_reads_121 : decode cX8_reads 121 = .ok (.goto (-101), 3) := by decide +kernel
theorem dX8_reads_124 : decode cX8_reads 124 = .ok (.aload_n 0, 1) := by decide +kernel
theorem dX8_reads_125 : decode cX8_reads 125 = .ok (.invokevirtual 128, 3) := by decide +kernel
theorem dX8_reads_128 : decode cX8_reads 128 = .ok (.ifCond .eq 23, 3) := by decide +kernel
theorem dX8_reads_131 : decode cX8_reads 131 = .ok (.aload_n 0, 1) := by decide +kernel
theorem dX8_reads_132 : decode cX8_reads 132 = .ok (.invokevirtual 408, 3) := by decide +kernel
theorem dX8_reads_135 : decode cX8_reads 135 = .ok (.ifCond .ne 10, 3) := by decide +kernel
theorem dX8_reads_138 : decode cX8_reads 138 = .ok (.aload_n 0, 1) := by decide +kernel
theorem dX8_reads_139 : decode cX8_reads 139 = .ok (.getfield 106, 3) := by decide +kernel
theorem dX8_reads_142 : decode cX8_reads 142 = .ok (.ifCond .eq 9, 3) := by decide +kernel
theorem dX8_reads_145 : decode cX8_reads 145 = .ok (.aload_n 0, 1) := by decide +kernel
theorem dX8_reads_146 : decode cX8_reads 146 = .ok (.iconst 1, 1) := by decide +kernel
theorem dX8_reads_147 : decode cX8_reads 147 = .ok (.invokevirtual 139, 3) := by decide +kernel
theorem dX8_reads_150 : decode cX8_reads 150 = .ok (.pop, 1) := by decide +kernel
theorem dX8_reads_151 : decode cX8_reads 151 = .ok (.aload_n 0, 1) := by decide +kernel
theorem dX8_reads_152 : decode cX8_reads 152 = .ok (.iconst 1, 1) := by decide +kernel
theorem dX8_reads_153 : decode cX8_reads 153 = .ok (.invokevirtual 406, 3) := by decide +kernel
theorem dX8_reads_156 : decode cX8_reads 156 = .ok (.return_, 1) := by decide +kernel
theorem dX8_propertyOf_0 : decode cX8_propertyOf 0 = .ok (.iload_n 1, 1) := by decide +kernel
theorem dX8_propertyOf_1 : decode cX8_propertyOf 1 = .ok (.tableswitch 98 0 7 #[47, 49, 56, 63, 70, 77, 84, 92], 47) := by decide +kernel
theorem dX8_propertyOf_48 : decode cX8_propertyOf 48 = .ok (.iload_n 2, 1) := by decide +kernel
theorem dX8_propertyOf_49 : decode cX8_propertyOf 49 = .ok (.ireturn, 1) := by decide +kernel
theorem dX8_propertyOf_50 : decode cX8_propertyOf 50 = .ok (.aload_n 0, 1) := by decide +kernel
theorem dX8_propertyOf_51 : decode cX8_propertyOf 51 = .ok (.iload_n 2, 1) := by decide +kernel
theorem dX8_propertyOf_52 : decode cX8_propertyOf 52 = .ok (.iconst 0, 1) := by decide +kernel
theorem dX8_propertyOf_53 : decode cX8_propertyOf 53 = .ok (.invokevirtual 216, 3) := by decide +kernel
theorem dX8_propertyOf_56 : decode cX8_propertyOf 56 = .ok (.ireturn, 1) := by decide +kernel
theorem dX8_propertyOf_57 : decode cX8_propertyOf 57 = .ok (.aload_n 0, 1) := by decide +kernel
theorem dX8_propertyOf_58 : decode cX8_propertyOf 58 = .ok (.iload_n 2, 1) := by decide +kernel
theorem dX8_propertyOf_59 : decode cX8_propertyOf 59 = .ok (.iconst 1, 1) := by decide +kernel
theorem dX8_propertyOf_60 : decode cX8_propertyOf 60 = .ok (.invokevirtual 216, 3) := by decide +kernel
theorem dX8_propertyOf_63 : decode cX8_propertyOf 63 = .ok (.ireturn, 1) := by decide +kernel
theorem dX8_propertyOf_64 : decode cX8_propertyOf 64 = .ok (.aload_n 0, 1) := by decide +kernel
theorem dX8_propertyOf_65 : decode cX8_propertyOf 65 = .ok (.iload_n 2, 1) := by decide +kernel
theorem dX8_propertyOf_66 : decode cX8_propertyOf 66 = .ok (.iconst 2, 1) := by decide +kernel
theorem dX8_propertyOf_67 : decode cX8_propertyOf 67 = .ok (.invokevirtual 216, 3) := by decide +kernel
theorem dX8_propertyOf_70 : decode cX8_propertyOf 70 = .ok (.ireturn, 1) := by decide +kernel
theorem dX8_propertyOf_71 : decode cX8_propertyOf 71 = .ok (.aload_n 0, 1) := by decide +kernel
theorem dX8_propertyOf_72 : decode cX8_propertyOf 72 = .ok (.iload_n 2, 1) := by decide +kernel
theorem dX8_propertyOf_73 : decode cX8_propertyOf 73 = .ok (.iconst 3, 1) := by decide +kernel
theorem dX8_propertyOf_74 : decode cX8_propertyOf 74 = .ok (.invokevirtual 216, 3) := by decide +kernel
theorem dX8_propertyOf_77 : decode cX8_propertyOf 77 = .ok (.ireturn, 1) := by decide +kernel
theorem dX8_propertyOf_78 : decode cX8_propertyOf 78 = .ok (.aload_n 0, 1) := by decide +kernel
theorem dX8_propertyOf_79 : decode cX8_propertyOf 79 = .ok (.iload_n 2, 1) := by decide +kernel
theorem dX8_propertyOf_80 : decode cX8_propertyOf 80 = .ok (.iconst 4, 1) := by decide +kernel
theorem dX8_propertyOf_81 : decode cX8_propertyOf 81 = .ok (.invokevirtual 216, 3) := by decide +kernel
theorem dX8_propertyOf_84 : decode cX8_propertyOf 84 = .ok (.ireturn, 1) := by decide +kernel
theorem dX8_propertyOf_85 : decode cX8_propertyOf 85 = .ok (.aload_n 0, 1) := by decide +kernel
theorem dX8_propertyOf_86 : decode cX8_propertyOf 86 = .ok (.iload_n 2, 1) := by decide +kernel
theorem dX8_propertyOf_87 : decode cX8_propertyOf 87 = .ok (.bipush 6, 2) := by decide +kernel
theorem dX8_propertyOf_89 : decode cX8_propertyOf 89 = .ok (.invokevirtual 216, 3) := by decide +kernel
theorem dX8_propertyOf_92 : decode cX8_propertyOf 92 = .ok (.ireturn, 1) := by decide +kernel
theorem dX8_propertyOf_93 : decode cX8_propertyOf 93 = .ok (.aload_n 0, 1) := by decide +kernel
theorem dX8_propertyOf_94 : decode cX8_propertyOf 94 = .ok (.iload_n 2, 1) := by decide +kernel
theorem dX8_propertyOf_95 : decode cX8_propertyOf 95 = .ok (.invokevirtual 259, 3) := by decide +kernel
theorem dX8_propertyOf_98 : decode cX8_propertyOf 98 = .ok (.ireturn, 1) := by decide +kernel
theorem dX8_propertyOf_99 : decode cX8_propertyOf 99 = .ok (.aload_n 0, 1) := by decide +kernel
theorem dX8_propertyOf_100 : decode cX8_propertyOf 100 = .ok (.getfield 13, 3) := by decide +kernel
theorem dX8_propertyOf_103 : decode cX8_propertyOf 103 = .ok (.iconst 4, 1) := by decide +kernel
theorem dX8_propertyOf_104 : decode cX8_propertyOf 104 = .ok (.aload_n 0, 1) := by decide +kernel
theorem dX8_propertyOf_105 : decode cX8_propertyOf 105 = .ok (.iload_n 2, 1) := by decide +kernel
theorem dX8_propertyOf_106 : decode cX8_propertyOf 106 = .ok (.iconst 1, 1) := by decide +kernel
theorem dX8_propertyOf_107 : decode cX8_propertyOf 107 = .ok (.invokevirtual 216, 3) := by decide +kernel
theorem dX8_propertyOf_110 : decode cX8_propertyOf 110 = .ok (.iadd, 1) := by decide +kernel
theorem dX8_propertyOf_111 : decode cX8_propertyOf 111 = .ok (.iaload, 1) := by decide +kernel
theorem dX8_propertyOf_112 : decode cX8_propertyOf 112 = .ok (.ireturn, 1) := by decide +kernel
theorem dX8_joined_0 : decode cX8_joined 0 = .ok (.iload_n 0, 1) := by decide +kernel
theorem dX8_joined_1 : decode cX8_joined 1 = .ok (.tableswitch 81 20 24 #[35, 46, 57, 81, 68], 35) := by decide +kernel
theorem dX8_joined_36 : decode cX8_joined 36 = .ok (.iload_n 1, 1) := by decide +kernel
theorem dX8_joined_37 : decode cX8_joined 37 = .ok (.iload_n 2, 1) := by decide +kernel
theorem dX8_joined_38 : decode cX8_joined 38 = .ok (.if_icmp .ge 7, 3) := by decide +kernel
theorem dX8_joined_41 : decode cX8_joined 41 = .ok (.iconst 1, 1) := by decide +kernel
theorem dX8_joined_42 : decode cX8_joined 42 = .ok (.goto 4, 3) := by decide +kernel
theorem dX8_joined_45 : decode cX8_joined 45 = .ok (.iconst 0, 1) := by decide +kernel
theorem dX8_joined_46 : decode cX8_joined 46 = .ok (.ireturn, 1) := by decide +kernel
theorem dX8_joined_47 : decode cX8_joined 47 = .ok (.iload_n 1, 1) := by decide +kernel
theorem dX8_joined_48 : decode cX8_joined 48 = .ok (.iload_n 2, 1) := by decide +kernel
theorem dX8_joined_49 : decode cX8_joined 49 = .ok (.if_icmp .ne 7, 3) := by decide +kernel
theorem dX8_joined_52 : decode cX8_joined 52 = .ok (.iconst 1, 1) := by decide +kernel
theorem dX8_joined_53 : decode cX8_joined 53 = .ok (.goto 4, 3) := by decide +kernel
theorem dX8_joined_56 : decode cX8_joined 56 = .ok (.iconst 0, 1) := by decide +kernel
theorem dX8_joined_57 : decode cX8_joined 57 = .ok (.ireturn, 1) := by decide +kernel
theorem dX8_joined_58 : decode cX8_joined 58 = .ok (.iload_n 1, 1) := by decide +kernel
theorem dX8_joined_59 : decode cX8_joined 59 = .ok (.iload_n 2, 1) := by decide +kernel
theorem dX8_joined_60 : decode cX8_joined 60 = .ok (.if_icmp .le 7, 3) := by decide +kernel
theorem dX8_joined_63 : decode cX8_joined 63 = .ok (.iconst 1, 1) := by decide +kernel
theorem dX8_joined_64 : decode cX8_joined 64 = .ok (.goto 4, 3) := by decide +kernel
theorem dX8_joined_67 : decode cX8_joined 67 = .ok (.iconst 0, 1) := by decide +kernel
theorem dX8_joined_68 : decode cX8_joined 68 = .ok (.ireturn, 1) := by decide +kernel
theorem dX8_joined_69 : decode cX8_joined 69 = .ok (.iload_n 1, 1) := by decide +kernel
theorem dX8_joined_70 : decode cX8_joined 70 = .ok (.iload_n 2, 1) := by decide +kernel
theorem dX8_joined_71 : decode cX8_joined 71 = .ok (.iadd, 1) := by decide +kernel
theorem dX8_joined_72 : decode cX8_joined 72 = .ok (.iconst 2, 1) := by decide +kernel
theorem dX8_joined_73 : decode cX8_joined 73 = .ok (.if_icmp .ne 7, 3) := by decide +kernel
theorem dX8_joined_76 : decode cX8_joined 76 = .ok (.iconst 1, 1) := by decide +kernel
theorem dX8_joined_77 : decode cX8_joined 77 = .ok (.goto 4, 3) := by decide +kernel
theorem dX8_joined_80 : decode cX8_joined 80 = .ok (.iconst 0, 1) := by decide +kernel
theorem dX8_joined_81 : decode cX8_joined 81 = .ok (.ireturn, 1) := by decide +kernel
theorem dX8_joined_82 : decode cX8_joined 82 = .ok (.iload_n 1, 1) := by decide +kernel
theorem dX8_joined_83 : decode cX8_joined 83 = .ok (.iload_n 2, 1) := by decide +kernel
theorem dX8_joined_84 : decode cX8_joined 84 = .ok (.iadd, 1) := by decide +kernel
theorem dX8_joined_85 : decode cX8_joined 85 = .ok (.ifCond .le 7, 3) := by decide +kernel
theorem dX8_joined_88 : decode cX8_joined 88 = .ok (.iconst 1, 1) := by decide +kernel
theorem dX8_joined_89 : decode cX8_joined 89 = .ok (.goto 4, 3) := by decide +kernel
theorem dX8_joined_92 : decode cX8_joined 92 = .ok (.iconst 0, 1) := by decide +kernel
theorem dX8_joined_93 : decode cX8_joined 93 = .ok (.ireturn, 1) := by decide +kernel
theorem dX8_holds_0 : decode cX8_holds 0 = .ok (.iconst 0, 1) := by decide +kernel
theorem dX8_holds_1 : decode cX8_holds 1 = .ok (.istore_n 2, 1) := by decide +kernel
theorem dX8_holds_2 : decode cX8_holds 2 = .ok (.iconst 0, 1) := by decide +kernel
theorem dX8_holds_3 : decode cX8_holds 3 = .ok (.istore_n 3, 1) := by decide +kernel
theorem dX8_holds_4 : decode cX8_holds 4 = .ok (.iload_n 3, 1) := by decide +kernel
theorem dX8_holds_5 : decode cX8_holds 5 = .ok (.aload_n 0, 1) := by decide +kernel
theorem dX8_holds_6 : decode cX8_holds 6 = .ok (.getfield 367, 3) := by decide +kernel
theorem dX8_holds_9 : decode cX8_holds 9 = .ok (.if_icmp .ge 132, 3) := by decide +kernel
theorem dX8_holds_12 : decode cX8_holds 12 = .ok (.aload_n 0, 1) := by decide +kernel
theorem dX8_holds_13 : decode cX8_holds 13 = .ok (.getfield 48, 3) := by decide +kernel
theorem dX8_holds_16 : decode cX8_holds 16 = .ok (.iload_n 3, 1) := by decide +kernel
theorem dX8_holds_17 : decode cX8_holds 17 = .ok (.iaload, 1) := by decide +kernel
theorem dX8_holds_18 : decode cX8_holds 18 = .ok (.istore 4, 2) := by decide +kernel
theorem dX8_holds_20 : decode cX8_holds 20 = .ok (.iload 4, 2) := by decide +kernel
theorem dX8_holds_22 : decode cX8_holds 22 = .ok (.bipush 23, 2) := by decide +kernel
theorem dX8_holds_24 : decode cX8_holds 24 = .ok (.if_icmp .ne 24, 3) := by decide +kernel
theorem dX8_holds_27 : decode cX8_holds 27 = .ok (.aload_n 0, 1) := by decide +kernel
theorem dX8_holds_28 : decode cX8_holds 28 = .ok (.getfield 54, 3) := by decide +kernel
theorem dX8_holds_31 : decode cX8_holds 31 = .ok (.iload_n 2, 1) := by decide +kernel
theorem dX8_holds_32 : decode cX8_holds 32 = .ok (.iconst 1, 1) := by decide +kernel
theorem dX8_holds_33 : decode cX8_holds 33 = .ok (.isub, 1) := by decide +kernel
theorem dX8_holds_34 : decode cX8_holds 34 = .ok (.iconst 1, 1) := by decide +kernel
theorem dX8_holds_35 : decode cX8_holds 35 = .ok (.aload_n 0, 1) := by decide +kernel
theorem dX8_holds_36 : decode cX8_holds 36 = .ok (.getfield 54, 3) := by decide +kernel
theorem dX8_holds_39 : decode cX8_holds 39 = .ok (.iload_n 2, 1) := by decide +kernel
theorem dX8_holds_40 : decode cX8_holds 40 = .ok (.iconst 1, 1) := by decide +kernel
theorem dX8_holds_41 : decode cX8_holds 41 = .ok (.isub, 1) := by decide +kernel
theorem dX8_holds_42 : decode cX8_holds 42 = .ok (.iaload, 1) := by decide +kernel
theorem dX8_holds_43 : decode cX8_holds 43 = .ok (.isub, 1) := by decide +kernel
theorem dX8_holds_44 : decode cX8_holds 44 = .ok (.iastore, 1) := by decide +kernel
theorem dX8_holds_45 : decode cX8_holds 45 = .ok (.goto 90, 3) := by decide +kernel
theorem dX8_holds_48 : decode cX8_holds 48 = .ok (.iload 4, 2) := by decide +kernel
theorem dX8_holds_50 : decode cX8_holds 50 = .ok (.i2l, 1) := by decide +kernel
theorem dX8_holds_51 : decode cX8_holds 51 = .ok (.ldc2_w 341, 3) := by decide +kernel
theorem dX8_holds_54 : decode cX8_holds 54 = .ok (.ldc2_w 421, 3) := by decide +kernel
theorem dX8_holds_57 : decode cX8_holds 57 = .ok (.invokestatic 142, 3) := by decide +kernel
theorem dX8_holds_60 : decode cX8_holds 60 = .ok (.ifCond .eq 44, 3) := by decide +kernel
theorem dX8_holds_63 : decode cX8_holds 63 = .ok (.iinc 2 (-1), 3) := by decide +kernel
theorem dX8_holds_66 : decode cX8_holds 66 = .ok (.aload_n 0, 1) := by decide +kernel
theorem dX8_holds_67 : decode cX8_holds 67 = .ok (.getfield 54, 3) := by decide +kernel
theorem dX8_holds_70 : decode cX8_holds 70 = .ok (.iload_n 2, 1) := by decide +kernel
theorem dX8_holds_71 : decode cX8_holds 71 = .ok (.iconst 1, 1) := by decide +kernel
theorem dX8_holds_72 : decode cX8_holds 72 = .ok (.isub, 1) := by decide +kernel
theorem dX8_holds_73 : decode cX8_holds 73 = .ok (.iload 4, 2) := by decide +kernel
theorem dX8_holds_75 : decode cX8_holds 75 = .ok (.aload_n 0, 1) := by decide +kernel
theorem dX8_holds_76 : decode cX8_holds 76 = .ok (.getfield 54, 3) := by decide +kernel
theorem dX8_holds_79 : decode cX8_holds 79 = .ok (.iload_n 2, 1) := by decide +kernel
theorem dX8_holds_80 : decode cX8_holds 80 = .ok (.iconst 1, 1) := by decide +kernel
theorem dX8_holds_81 : decode cX8_holds 81 = .ok (.isub, 1) := by decide +kernel
theorem dX8_holds_82 : decode cX8_holds 82 = .ok (.iaload, 1) := by decide +kernel
theorem dX8_holds_83 : decode cX8_holds 83 = .ok (.aload_n 0, 1) := by decide +kernel
theorem dX8_holds_84 : decode cX8_holds 84 = .ok (.getfield 54, 3) := by decide +kernel
theorem dX8_holds_87 : decode cX8_holds 87 = .ok (.iload_n 2, 1) := by decide +kernel
theorem dX8_holds_88 : decode cX8_holds 88 = .ok (.iaload, 1) := by decide +kernel
theorem dX8_holds_89 : decode cX8_holds 89 = .ok (.invokestatic 423, 3) := by decide +kernel
theorem dX8_holds_92 : decode cX8_holds 92 = .ok (.ifCond .eq 7, 3) := by decide +kernel
theorem dX8_holds_95 : decode cX8_holds 95 = .ok (.iconst 1, 1) := by decide +kernel
theorem dX8_holds_96 : decode cX8_holds 96 = .ok (.goto 4, 3) := by decide +kernel
theorem dX8_holds_99 : decode cX8_holds 99 = .ok (.iconst 0, 1) := by decide +kernel
theorem dX8_holds_100 : decode cX8_holds 100 = .ok (.iastore, 1) := by decide +kernel
theorem dX8_holds_101 : decode cX8_holds 101 = .ok (.goto 34, 3) := by decide +kernel
theorem dX8_holds_104 : decode cX8_holds 104 = .ok (.aload_n 0, 1) := by decide +kernel
theorem dX8_holds_105 : decode cX8_holds 105 = .ok (.getfield 54, 3) := by decide +kernel
theorem dX8_holds_108 : decode cX8_holds 108 = .ok (.iload_n 2, 1) := by decide +kernel
theorem dX8_holds_109 : decode cX8_holds 109 = .ok (.iload 4, 2) := by decide +kernel
theorem dX8_holds_111 : decode cX8_holds 111 = .ok (.bipush 100, 2) := by decide +kernel
theorem dX8_holds_113 : decode cX8_holds 113 = .ok (.if_icmp .lt 11, 3) := by decide +kernel
theorem dX8_holds_116 : decode cX8_holds 116 = .ok (.iload 4, 2) := by decide +kernel
theorem dX8_holds_118 : decode cX8_holds 118 = .ok (.bipush 100, 2) := by decide +kernel
theorem dX8_holds_120 : decode cX8_holds 120 = .ok (.isub, 1) := by decide +kernel
theorem dX8_holds_121 : decode cX8_holds 121 = .ok (.goto 10, 3) := by decide +kernel
theorem dX8_holds_124 : decode cX8_holds 124 = .ok (.aload_n 0, 1) := by decide +kernel
theorem dX8_holds_125 : decode cX8_holds 125 = .ok (.iload 4, 2) := by decide +kernel
theorem dX8_holds_127 : decode cX8_holds 127 = .ok (.iload_n 1, 1) := by decide +kernel
theorem dX8_holds_128 : decode cX8_holds 128 = .ok (.invokevirtual 427, 3) := by decide +kernel
theorem dX8_holds_131 : decode cX8_holds 131 = .ok (.iastore, 1) := by decide +kernel
theorem dX8_holds_132 : decode cX8_holds 132 = .ok (.iinc 2 1, 3) := by decide +kernel
theorem dX8_holds_135 : decode cX8_holds 135 = .ok (.iinc 3 1, 3) := by decide +kernel
theorem dX8_holds_138 : decode cX8_holds 138 = .ok (.goto (-134), 3) := by decide +kernel
theorem dX8_holds_141 : decode cX8_holds 141 = .ok (.aload_n 0, 1) := by decide +kernel
theorem dX8_holds_142 : decode cX8_holds 142 = .ok (.getfield 54, 3) := by decide +kernel
theorem dX8_holds_145 : decode cX8_holds 145 = .ok (.iconst 0, 1) := by decide +kernel
theorem dX8_holds_146 : decode cX8_holds 146 = .ok (.iaload, 1) := by decide +kernel
theorem dX8_holds_147 : decode cX8_holds 147 = .ok (.iconst 1, 1) := by decide +kernel
theorem dX8_holds_148 : decode cX8_holds 148 = .ok (.if_icmp .ne 7, 3) := by decide +kernel
theorem dX8_holds_151 : decode cX8_holds 151 = .ok (.iconst 1, 1) := by decide +kernel
theorem dX8_holds_152 : decode cX8_holds 152 = .ok (.goto 4, 3) := by decide +kernel
theorem dX8_holds_155 : decode cX8_holds 155 = .ok (.iconst 0, 1) := by decide +kernel
theorem dX8_holds_156 : decode cX8_holds 156 = .ok (.ireturn, 1) := by decide +kernel
theorem dX8_query_0 : decode cX8_query 0 = .ok (.aload_n 0, 1) := by decide +kernel
theorem dX8_query_1 : decode cX8_query 1 = .ok (.iconst 0, 1) := by decide +kernel
theorem dX8_query_2 : decode cX8_query 2 = .ok (.putfield 1, 3) := by decide +kernel
theorem dX8_query_5 : decode cX8_query 5 = .ok (.aload_n 0, 1) := by decide +kernel
theorem dX8_query_6 : decode cX8_query 6 = .ok (.iload_n 1, 1) := by decide +kernel
theorem dX8_query_7 : decode cX8_query 7 = .ok (.i2l, 1) := by decide +kernel
theorem dX8_query_8 : decode cX8_query 8 = .ok (.lconst 0, 1) := by decide +kernel
theorem dX8_query_9 : decode cX8_query 9 = .ok (.aload_n 0, 1) := by decide +kernel
theorem dX8_query_10 : decode cX8_query 10 = .ok (.getfield 74, 3) := by decide +kernel
theorem dX8_query_13 : decode cX8_query 13 = .ok (.sipush 200, 3) := by decide +kernel
theorem dX8_query_16 : decode cX8_query 16 = .ok (.invokestatic 430, 3) := by decide +kernel
theorem dX8_query_19 : decode cX8_query 19 = .ok (.i2l, 1) := by decide +kernel
theorem dX8_query_20 : decode cX8_query 20 = .ok (.invokestatic 142, 3) := by decide +kernel
theorem dX8_query_23 : decode cX8_query 23 = .ok (.iconst 1, 1) := by decide +kernel
theorem dX8_query_24 : decode cX8_query 24 = .ok (.invokevirtual 187, 3) := by decide +kernel
theorem dX8_query_27 : decode cX8_query 27 = .ok (.ifCond .eq 5, 3) := by decide +kernel
theorem dX8_query_30 : decode cX8_query 30 = .ok (.iconst 0, 1) := by decide +kernel
theorem dX8_query_31 : decode cX8_query 31 = .ok (.ireturn, 1) := by decide +kernel
theorem dX8_query_32 : decode cX8_query 32 = .ok (.aload_n 0, 1) := by decide +kernel
theorem dX8_query_33 : decode cX8_query 33 = .ok (.iload_n 1, 1) := by decide +kernel
theorem dX8_query_34 : decode cX8_query 34 = .ok (.invokevirtual 194, 3) := by decide +kernel
theorem dX8_query_37 : decode cX8_query 37 = .ok (.aload_n 0, 1) := by decide +kernel
theorem dX8_query_38 : decode cX8_query 38 = .ok (.ldc2_w 433, 3) := by decide +kernel
theorem dX8_query_41 : decode cX8_query 41 = .ok (.invokevirtual 157, 3) := by decide +kernel
theorem dX8_query_44 : decode cX8_query 44 = .ok (.istore_n 2, 1) := by decide +kernel
theorem dX8_query_45 : decode cX8_query 45 = .ok (.iload_n 2, 1) := by decide +kernel
theorem dX8_query_46 : decode cX8_query 46 = .ok (.ifCond .ne 19, 3) := by decide +kernel
theorem dX8_query_49 : decode cX8_query 49 = .ok (.aload_n 0, 1) := by decide +kernel
theorem dX8_query_50 : decode cX8_query 50 = .ok (.ldc2_w 435, 3) := by decide +kernel
theorem dX8_query_53 : decode cX8_query 53 = .ok (.invokevirtual 157, 3) := by decide +kernel
theorem dX8_query_56 : decode cX8_query 56 = .ok (.ifCond .ne 9, 3) := by decide +kernel
theorem dX8_query_59 : decode cX8_query 59 = .ok (.aload_n 0, 1) := by decide +kernel
theorem dX8_query_60 : decode cX8_query 60 = .ok (.iconst 1, 1) := by decide +kernel
theorem dX8_query_61 : decode cX8_query 61 = .ok (.invokevirtual 139, 3) := by decide +kernel
theorem dX8_query_64 : decode cX8_query 64 = .ok (.pop, 1) := by decide +kernel
theorem dX8_query_65 : decode cX8_query 65 = .ok (.aload_n 0, 1) := by decide +kernel
theorem dX8_query_66 : decode cX8_query 66 = .ok (.invokevirtual 437, 3) := by decide +kernel
theorem dX8_query_69 : decode cX8_query 69 = .ok (.aload_n 0, 1) := by decide +kernel
theorem dX8_query_70 : decode cX8_query 70 = .ok (.invokevirtual 128, 3) := by decide +kernel
theorem dX8_query_73 : decode cX8_query 73 = .ok (.ifCond .ne 12, 3) := by decide +kernel
theorem dX8_query_76 : decode cX8_query 76 = .ok (.ldc_w 297, 3) := by decide +kernel
theorem dX8_query_79 : decode cX8_query 79 = .ok (.aload_n 0, 1) := by decide +kernel
theorem dX8_query_80 : decode cX8_query 80 = .ok (.getfield 122, 3) := by decide +kernel
theorem dX8_query_83 : decode cX8_query 83 = .ok (.isub, 1) := by decide +kernel
theorem dX8_query_84 : decode cX8_query 84 = .ok (.ireturn, 1) := by decide +kernel
theorem dX8_query_85 : decode cX8_query 85 = .ok (.iconst 0, 1) := by decide +kernel
theorem dX8_query_86 : decode cX8_query 86 = .ok (.istore_n 3, 1) := by decide +kernel
theorem dX8_query_87 : decode cX8_query 87 = .ok (.iconst 0, 1) := by decide +kernel
theorem dX8_query_88 : decode cX8_query 88 = .ok (.istore 4, 2) := by decide +kernel
theorem dX8_query_90 : decode cX8_query 90 = .ok (.iload 4, 2) := by decide +kernel
theorem dX8_query_92 : decode cX8_query 92 = .ok (.aload_n 0, 1) := by decide +kernel
theorem dX8_query_93 : decode cX8_query 93 = .ok (.getfield 13, 3) := by decide +kernel
theorem dX8_query_96 : decode cX8_query 96 = .ok (.iconst 2, 1) := by decide +kernel
theorem dX8_query_97 : decode cX8_query 97 = .ok (.iaload, 1) := by decide +kernel
theorem dX8_query_98 : decode cX8_query 98 = .ok (.if_icmp .ge 31, 3) := by decide +kernel
theorem dX8_query_101 : decode cX8_query 101 = .ok (.aload_n 0, 1) := by decide +kernel
theorem dX8_query_102 : decode cX8_query 102 = .ok (.iload 4, 2) := by decide +kernel
theorem dX8_query_104 : decode cX8_query 104 = .ok (.invokevirtual 440, 3) := by decide +kernel
theorem dX8_query_107 : decode cX8_query 107 = .ok (.ifCond .ne 6, 3) := by decide +kernel
theorem dX8_query_110 : decode cX8_query 110 = .ok (.goto 13, 3) := by decide +kernel
theorem dX8_query_113 : decode cX8_query 113 = .ok (.iload_n 2, 1) := by decide +kernel
theorem dX8_query_114 : decode cX8_query 114 = .ok (.ifCond .eq 6, 3) := by decide +kernel
theorem dX8_query_117 : decode cX8_query 117 = .ok (.iload 4, 2) := by decide +kernel
theorem dX8_query_119 : decode cX8_query 119 = .ok (.ireturn, 1) := by decide +kernel
theorem dX8_query_120 : decode cX8_query 120 = .ok (.iinc 3 1, 3) := by decide +kernel
theorem dX8_query_123 : decode cX8_query 123 = .ok (.iinc 4 1, 3) := by decide +kernel
theorem dX8_query_126 : decode cX8_query 126 = .ok (.goto (-36), 3) := by decide +kernel
theorem dX8_query_129 : decode cX8_query 129 = .ok (.iload_n 2, 1) := by decide +kernel
theorem dX8_query_130 : decode cX8_query 130 = .ok (.ifCond .eq 7, 3) := by decide +kernel
theorem dX8_query_133 : decode cX8_query 133 = .ok (.iconst (-1), 1) := by decide +kernel
theorem dX8_query_134 : decode cX8_query 134 = .ok (.goto 4, 3) := by decide +kernel
theorem dX8_query_137 : decode cX8_query 137 = .ok (.iload_n 3, 1) := by decide +kernel
theorem dX8_query_138 : decode cX8_query 138 = .ok (.ireturn, 1) := by decide +kernel
theorem dL_load_0 : decode cL_load 0 = .ok (.aload_n 2, 1) := by decide +kernel
theorem dL_load_1 : decode cL_load 1 = .ok (.iconst 0, 1) := by decide +kernel
theorem dL_load_2 : decode cL_load 2 = .ok (.aload_n 0, 1) := by decide +kernel
theorem dL_load_3 : decode cL_load 3 = .ok (.iload_n 1, 1) := by decide +kernel
theorem dL_load_4 : decode cL_load 4 = .ok (.invokevirtual 7, 3) := by decide +kernel
theorem dL_load_7 : decode cL_load 7 = .ok (.i2l, 1) := by decide +kernel
theorem dL_load_8 : decode cL_load 8 = .ok (.lastore, 1) := by decide +kernel
theorem dL_load_9 : decode cL_load 9 = .ok (.goto 6, 3) := by decide +kernel
theorem dL_load_12 : decode cL_load 12 = .ok (.astore_n 3, 1) := by decide +kernel
theorem dL_load_13 : decode cL_load 13 = .ok (.iconst 1, 1) := by decide +kernel
theorem dL_load_14 : decode cL_load 14 = .ok (.ireturn, 1) := by decide +kernel
theorem dL_load_15 : decode cL_load 15 = .ok (.iconst 0, 1) := by decide +kernel
theorem dL_load_16 : decode cL_load 16 = .ok (.ireturn, 1) := by decide +kernel
theorem dL_size_0 : decode cL_size 0 = .ok (.aload_n 2, 1) := by decide +kernel
theorem dL_size_1 : decode cL_size 1 = .ok (.iconst 0, 1) := by decide +kernel
theorem dL_size_2 : decode cL_size 2 = .ok (.aload_n 0, 1) := by decide +kernel
theorem dL_size_3 : decode cL_size 3 = .ok (.iload_n 1, 1) := by decide +kernel
theorem dL_size_4 : decode cL_size 4 = .ok (.invokevirtual 15, 3) := by decide +kernel
theorem dL_size_7 : decode cL_size 7 = .ok (.i2l, 1) := by decide +kernel
theorem dL_size_8 : decode cL_size 8 = .ok (.lastore, 1) := by decide +kernel
theorem dL_size_9 : decode cL_size 9 = .ok (.goto 6, 3) := by decide +kernel
theorem dL_size_12 : decode cL_size 12 = .ok (.astore_n 3, 1) := by decide +kernel
theorem dL_size_13 : decode cL_size 13 = .ok (.iconst 1, 1) := by decide +kernel
theorem dL_size_14 : decode cL_size 14 = .ok (.ireturn, 1) := by decide +kernel
theorem dL_size_15 : decode cL_size 15 = .ok (.iconst 0, 1) := by decide +kernel
theorem dL_size_16 : decode cL_size 16 = .ok (.ireturn, 1) := by decide +kernel
theorem dL_pressure_0 : decode cL_pressure 0 = .ok (.aload_n 2, 1) := by decide +kernel
theorem dL_pressure_1 : decode cL_pressure 1 = .ok (.iconst 0, 1) := by decide +kernel
theorem dL_pressure_2 : decode cL_pressure 2 = .ok (.aload_n 0, 1) := by decide +kernel
theorem dL_pressure_3 : decode cL_pressure 3 = .ok (.iload_n 1, 1) := by decide +kernel
theorem dL_pressure_4 : decode cL_pressure 4 = .ok (.invokevirtual 20, 3) := by decide +kernel
theorem dL_pressure_7 : decode cL_pressure 7 = .ok (.i2l, 1) := by decide +kernel
theorem dL_pressure_8 : decode cL_pressure 8 = .ok (.lastore, 1) := by decide +kernel
theorem dL_pressure_9 : decode cL_pressure 9 = .ok (.goto 6, 3) := by decide +kernel
theorem dL_pressure_12 : decode cL_pressure 12 = .ok (.astore_n 3, 1) := by decide +kernel
theorem dL_pressure_13 : decode cL_pressure 13 = .ok (.iconst 1, 1) := by decide +kernel
theorem dL_pressure_14 : decode cL_pressure 14 = .ok (.ireturn, 1) := by decide +kernel
theorem dL_pressure_15 : decode cL_pressure 15 = .ok (.iconst 0, 1) := by decide +kernel
theorem dL_pressure_16 : decode cL_pressure 16 = .ok (.ireturn, 1) := by decide +kernel
theorem dL_leg_0 : decode cL_leg 0 = .ok (.aload_n 3, 1) := by decide +kernel
theorem dL_leg_1 : decode cL_leg 1 = .ok (.iconst 0, 1) := by decide +kernel
theorem dL_leg_2 : decode cL_leg 2 = .ok (.aload_n 0, 1) := by decide +kernel
theorem dL_leg_3 : decode cL_leg 3 = .ok (.iload_n 1, 1) := by decide +kernel
theorem dL_leg_4 : decode cL_leg 4 = .ok (.iload_n 2, 1) := by decide +kernel
theorem dL_leg_5 : decode cL_leg 5 = .ok (.invokevirtual 23, 3) := by decide +kernel
theorem dL_leg_8 : decode cL_leg 8 = .ok (.i2l, 1) := by decide +kernel
theorem dL_leg_9 : decode cL_leg 9 = .ok (.lastore, 1) := by decide +kernel
theorem dL_leg_10 : decode cL_leg 10 = .ok (.goto 7, 3) := by decide +kernel
theorem dL_leg_13 : decode cL_leg 13 = .ok (.astore 4, 2) := by decide +kernel
theorem dL_leg_15 : decode cL_leg 15 = .ok (.iconst 1, 1) := by decide +kernel
theorem dL_leg_16 : decode cL_leg 16 = .ok (.ireturn, 1) := by decide +kernel
theorem dL_leg_17 : decode cL_leg 17 = .ok (.iconst 0, 1) := by decide +kernel
theorem dL_leg_18 : decode cL_leg 18 = .ok (.ireturn, 1) := by decide +kernel
theorem dL_account_0 : decode cL_account 0 = .ok (.aload_n 3, 1) := by decide +kernel
theorem dL_account_1 : decode cL_account 1 = .ok (.iconst 0, 1) := by decide +kernel
theorem dL_account_2 : decode cL_account 2 = .ok (.aload_n 0, 1) := by decide +kernel
theorem dL_account_3 : decode cL_account 3 = .ok (.iload_n 1, 1) := by decide +kernel
theorem dL_account_4 : decode cL_account 4 = .ok (.iload_n 2, 1) := by decide +kernel
theorem dL_account_5 : decode cL_account 5 = .ok (.invokevirtual 27, 3) := by decide +kernel
theorem dL_account_8 : decode cL_account 8 = .ok (.lastore, 1) := by decide +kernel
theorem dL_account_9 : decode cL_account 9 = .ok (.goto 7, 3) := by decide +kernel
theorem dL_account_12 : decode cL_account 12 = .ok (.astore 4, 2) := by decide +kernel
theorem dL_account_14 : decode cL_account 14 = .ok (.iconst 1, 1) := by decide +kernel
theorem dL_account_15 : decode cL_account 15 = .ok (.ireturn, 1) := by decide +kernel
theorem dL_account_16 : decode cL_account 16 = .ok (.iconst 0, 1) := by decide +kernel
theorem dL_account_17 : decode cL_account 17 = .ok (.ireturn, 1) := by decide +kernel
theorem dL_tube_0 : decode cL_tube 0 = .ok (.aload_n 3, 1) := by decide +kernel
theorem dL_tube_1 : decode cL_tube 1 = .ok (.iconst 0, 1) := by decide +kernel
theorem dL_tube_2 : decode cL_tube 2 = .ok (.aload_n 0, 1) := by decide +kernel
theorem dL_tube_3 : decode cL_tube 3 = .ok (.iload_n 1, 1) := by decide +kernel
theorem dL_tube_4 : decode cL_tube 4 = .ok (.iload_n 2, 1) := by decide +kernel
theorem dL_tube_5 : decode cL_tube 5 = .ok (.invokevirtual 31, 3) := by decide +kernel
theorem dL_tube_8 : decode cL_tube 8 = .ok (.i2l, 1) := by decide +kernel
theorem dL_tube_9 : decode cL_tube 9 = .ok (.lastore, 1) := by decide +kernel
theorem dL_tube_10 : decode cL_tube 10 = .ok (.goto 7, 3) := by decide +kernel
theorem dL_tube_13 : decode cL_tube 13 = .ok (.astore 4, 2) := by decide +kernel
theorem dL_tube_15 : decode cL_tube 15 = .ok (.iconst 1, 1) := by decide +kernel
theorem dL_tube_16 : decode cL_tube 16 = .ok (.ireturn, 1) := by decide +kernel
theorem dL_tube_17 : decode cL_tube 17 = .ok (.iconst 0, 1) := by decide +kernel
theorem dL_tube_18 : decode cL_tube 18 = .ok (.ireturn, 1) := by decide +kernel
theorem dL_told_0 : decode cL_told 0 = .ok (.aload_n 2, 1) := by decide +kernel
theorem dL_told_1 : decode cL_told 1 = .ok (.iconst 0, 1) := by decide +kernel
theorem dL_told_2 : decode cL_told 2 = .ok (.aload_n 0, 1) := by decide +kernel
theorem dL_told_3 : decode cL_told 3 = .ok (.iload_n 1, 1) := by decide +kernel
theorem dL_told_4 : decode cL_told 4 = .ok (.invokevirtual 34, 3) := by decide +kernel
theorem dL_told_7 : decode cL_told 7 = .ok (.i2l, 1) := by decide +kernel
theorem dL_told_8 : decode cL_told 8 = .ok (.lastore, 1) := by decide +kernel
theorem dL_told_9 : decode cL_told 9 = .ok (.goto 6, 3) := by decide +kernel
theorem dL_told_12 : decode cL_told 12 = .ok (.astore_n 3, 1) := by decide +kernel
theorem dL_told_13 : decode cL_told 13 = .ok (.iconst 1, 1) := by decide +kernel
theorem dL_told_14 : decode cL_told 14 = .ok (.ireturn, 1) := by decide +kernel
theorem dL_told_15 : decode cL_told 15 = .ok (.iconst 0, 1) := by decide +kernel
theorem dL_told_16 : decode cL_told 16 = .ok (.ireturn, 1) := by decide +kernel
theorem dL_off_0 : decode cL_off 0 = .ok (.aload_n 2, 1) := by decide +kernel
theorem dL_off_1 : decode cL_off 1 = .ok (.iconst 0, 1) := by decide +kernel
theorem dL_off_2 : decode cL_off 2 = .ok (.aload_n 0, 1) := by decide +kernel
theorem dL_off_3 : decode cL_off 3 = .ok (.iload_n 1, 1) := by decide +kernel
theorem dL_off_4 : decode cL_off 4 = .ok (.invokevirtual 37, 3) := by decide +kernel
theorem dL_off_7 : decode cL_off 7 = .ok (.i2l, 1) := by decide +kernel
theorem dL_off_8 : decode cL_off 8 = .ok (.lastore, 1) := by decide +kernel
theorem dL_off_9 : decode cL_off 9 = .ok (.goto 6, 3) := by decide +kernel
theorem dL_off_12 : decode cL_off 12 = .ok (.astore_n 3, 1) := by decide +kernel
theorem dL_off_13 : decode cL_off 13 = .ok (.iconst 1, 1) := by decide +kernel
theorem dL_off_14 : decode cL_off 14 = .ok (.ireturn, 1) := by decide +kernel
theorem dL_off_15 : decode cL_off 15 = .ok (.iconst 0, 1) := by decide +kernel
theorem dL_off_16 : decode cL_off 16 = .ok (.ireturn, 1) := by decide +kernel
theorem dL_difference_0 : decode cL_difference 0 = .ok (.aload_n 3, 1) := by decide +kernel
theorem dL_difference_1 : decode cL_difference 1 = .ok (.iconst 0, 1) := by decide +kernel
theorem dL_difference_2 : decode cL_difference 2 = .ok (.aload_n 0, 1) := by decide +kernel
theorem dL_difference_3 : decode cL_difference 3 = .ok (.iload_n 1, 1) := by decide +kernel
theorem dL_difference_4 : decode cL_difference 4 = .ok (.iload_n 2, 1) := by decide +kernel
theorem dL_difference_5 : decode cL_difference 5 = .ok (.invokevirtual 40, 3) := by decide +kernel
theorem dL_difference_8 : decode cL_difference 8 = .ok (.i2l, 1) := by decide +kernel
theorem dL_difference_9 : decode cL_difference 9 = .ok (.lastore, 1) := by decide +kernel
theorem dL_difference_10 : decode cL_difference 10 = .ok (.goto 7, 3) := by decide +kernel
theorem dL_difference_13 : decode cL_difference 13 = .ok (.astore 4, 2) := by decide +kernel
theorem dL_difference_15 : decode cL_difference 15 = .ok (.iconst 1, 1) := by decide +kernel
theorem dL_difference_16 : decode cL_difference 16 = .ok (.ireturn, 1) := by decide +kernel
theorem dL_difference_17 : decode cL_difference 17 = .ok (.iconst 0, 1) := by decide +kernel
theorem dL_difference_18 : decode cL_difference 18 = .ok (.ireturn, 1) := by decide +kernel
theorem dL_room_0 : decode cL_room 0 = .ok (.aload_n 2, 1) := by decide +kernel
theorem dL_room_1 : decode cL_room 1 = .ok (.iconst 0, 1) := by decide +kernel
theorem dL_room_2 : decode cL_room 2 = .ok (.aload_n 0, 1) := by decide +kernel
theorem dL_room_3 : decode cL_room 3 = .ok (.iload_n 1, 1) := by decide +kernel
theorem dL_room_4 : decode cL_room 4 = .ok (.invokevirtual 43, 3) := by decide +kernel
theorem dL_room_7 : decode cL_room 7 = .ok (.i2l, 1) := by decide +kernel
theorem dL_room_8 : decode cL_room 8 = .ok (.lastore, 1) := by decide +kernel
theorem dL_room_9 : decode cL_room 9 = .ok (.goto 6, 3) := by decide +kernel
theorem dL_room_12 : decode cL_room 12 = .ok (.astore_n 3, 1) := by decide +kernel
theorem dL_room_13 : decode cL_room 13 = .ok (.iconst 1, 1) := by decide +kernel
theorem dL_room_14 : decode cL_room 14 = .ok (.ireturn, 1) := by decide +kernel
theorem dL_room_15 : decode cL_room 15 = .ok (.iconst 0, 1) := by decide +kernel
theorem dL_room_16 : decode cL_room 16 = .ok (.ireturn, 1) := by decide +kernel
theorem dL_agree_0 : decode cL_agree 0 = .ok (.aload_n 3, 1) := by decide +kernel
theorem dL_agree_1 : decode cL_agree 1 = .ok (.iconst 0, 1) := by decide +kernel
theorem dL_agree_2 : decode cL_agree 2 = .ok (.aload_n 0, 1) := by decide +kernel
theorem dL_agree_3 : decode cL_agree 3 = .ok (.iload_n 1, 1) := by decide +kernel
theorem dL_agree_4 : decode cL_agree 4 = .ok (.iload_n 2, 1) := by decide +kernel
theorem dL_agree_5 : decode cL_agree 5 = .ok (.invokevirtual 46, 3) := by decide +kernel
theorem dL_agree_8 : decode cL_agree 8 = .ok (.ifCond .eq 7, 3) := by decide +kernel
theorem dL_agree_11 : decode cL_agree 11 = .ok (.lconst 1, 1) := by decide +kernel
theorem dL_agree_12 : decode cL_agree 12 = .ok (.goto 4, 3) := by decide +kernel
theorem dL_agree_15 : decode cL_agree 15 = .ok (.lconst 0, 1) := by decide +kernel
theorem dL_agree_16 : decode cL_agree 16 = .ok (.lastore, 1) := by decide +kernel
theorem dL_agree_17 : decode cL_agree 17 = .ok (.goto 11, 3) := by decide +kernel
theorem dL_agree_20 : decode cL_agree 20 = .ok (.astore 4, 2) := by decide +kernel
theorem dL_agree_22 : decode cL_agree 22 = .ok (.iconst 1, 1) := by decide +kernel
theorem dL_agree_23 : decode cL_agree 23 = .ok (.ireturn, 1) := by decide +kernel
theorem dL_agree_24 : decode cL_agree 24 = .ok (.astore 4, 2) := by decide +kernel
theorem dL_agree_26 : decode cL_agree 26 = .ok (.iconst 2, 1) := by decide +kernel
theorem dL_agree_27 : decode cL_agree 27 = .ok (.ireturn, 1) := by decide +kernel
theorem dL_agree_28 : decode cL_agree 28 = .ok (.iconst 0, 1) := by decide +kernel
theorem dL_agree_29 : decode cL_agree 29 = .ok (.ireturn, 1) := by decide +kernel
theorem dL_wouldBreak_0 : decode cL_wouldBreak 0 = .ok (.aload_n 3, 1) := by decide +kernel
theorem dL_wouldBreak_1 : decode cL_wouldBreak 1 = .ok (.iconst 0, 1) := by decide +kernel
theorem dL_wouldBreak_2 : decode cL_wouldBreak 2 = .ok (.aload_n 0, 1) := by decide +kernel
theorem dL_wouldBreak_3 : decode cL_wouldBreak 3 = .ok (.iload_n 1, 1) := by decide +kernel
theorem dL_wouldBreak_4 : decode cL_wouldBreak 4 = .ok (.iload_n 2, 1) := by decide +kernel
theorem dL_wouldBreak_5 : decode cL_wouldBreak 5 = .ok (.invokevirtual 50, 3) := by decide +kernel
theorem dL_wouldBreak_8 : decode cL_wouldBreak 8 = .ok (.i2l, 1) := by decide +kernel
theorem dL_wouldBreak_9 : decode cL_wouldBreak 9 = .ok (.lastore, 1) := by decide +kernel
theorem dL_wouldBreak_10 : decode cL_wouldBreak 10 = .ok (.goto 11, 3) := by decide +kernel
theorem dL_wouldBreak_13 : decode cL_wouldBreak 13 = .ok (.astore 4, 2) := by decide +kernel
theorem dL_wouldBreak_15 : decode cL_wouldBreak 15 = .ok (.iconst 1, 1) := by decide +kernel
theorem dL_wouldBreak_16 : decode cL_wouldBreak 16 = .ok (.ireturn, 1) := by decide +kernel
theorem dL_wouldBreak_17 : decode cL_wouldBreak 17 = .ok (.astore 4, 2) := by decide +kernel
theorem dL_wouldBreak_19 : decode cL_wouldBreak 19 = .ok (.iconst 2, 1) := by decide +kernel
theorem dL_wouldBreak_20 : decode cL_wouldBreak 20 = .ok (.ireturn, 1) := by decide +kernel
theorem dL_wouldBreak_21 : decode cL_wouldBreak 21 = .ok (.iconst 0, 1) := by decide +kernel
theorem dL_wouldBreak_22 : decode cL_wouldBreak 22 = .ok (.ireturn, 1) := by decide +kernel
theorem dL_readingWith_0 : decode cL_readingWith 0 = .ok (.aload 4, 2) := by decide +kernel
theorem dL_readingWith_2 : decode cL_readingWith 2 = .ok (.iconst 0, 1) := by decide +kernel
theorem dL_readingWith_3 : decode cL_readingWith 3 = .ok (.aload_n 0, 1) := by decide +kernel
theorem dL_readingWith_4 : decode cL_readingWith 4 = .ok (.iload_n 1, 1) := by decide +kernel
theorem dL_readingWith_5 : decode cL_readingWith 5 = .ok (.iload_n 2, 1) := by decide +kernel
theorem dL_readingWith_6 : decode cL_readingWith 6 = .ok (.iload_n 3, 1) := by decide +kernel
theorem dL_readingWith_7 : decode cL_readingWith 7 = .ok (.invokevirtual 53, 3) := by decide +kernel
theorem dL_readingWith_10 : decode cL_readingWith 10 = .ok (.i2l, 1) := by decide +kernel
theorem dL_readingWith_11 : decode cL_readingWith 11 = .ok (.lastore, 1) := by decide +kernel
theorem dL_readingWith_12 : decode cL_readingWith 12 = .ok (.goto 11, 3) := by decide +kernel
theorem dL_readingWith_15 : decode cL_readingWith 15 = .ok (.astore 5, 2) := by decide +kernel
theorem dL_readingWith_17 : decode cL_readingWith 17 = .ok (.iconst 1, 1) := by decide +kernel
theorem dL_readingWith_18 : decode cL_readingWith 18 = .ok (.ireturn, 1) := by decide +kernel
theorem dL_readingWith_19 : decode cL_readingWith 19 = .ok (.astore 5, 2) := by decide +kernel
theorem dL_readingWith_21 : decode cL_readingWith 21 = .ok (.iconst 2, 1) := by decide +kernel
theorem dL_readingWith_22 : decode cL_readingWith 22 = .ok (.ireturn, 1) := by decide +kernel
theorem dL_readingWith_23 : decode cL_readingWith 23 = .ok (.iconst 0, 1) := by decide +kernel
theorem dL_readingWith_24 : decode cL_readingWith 24 = .ok (.ireturn, 1) := by decide +kernel
theorem dL_breaksIn_0 : decode cL_breaksIn 0 = .ok (.aload_n 3, 1) := by decide +kernel
theorem dL_breaksIn_1 : decode cL_breaksIn 1 = .ok (.iconst 0, 1) := by decide +kernel
theorem dL_breaksIn_2 : decode cL_breaksIn 2 = .ok (.aload_n 0, 1) := by decide +kernel
theorem dL_breaksIn_3 : decode cL_breaksIn 3 = .ok (.iload_n 1, 1) := by decide +kernel
theorem dL_breaksIn_4 : decode cL_breaksIn 4 = .ok (.iload_n 2, 1) := by decide +kernel
theorem dL_breaksIn_5 : decode cL_breaksIn 5 = .ok (.invokevirtual 57, 3) := by decide +kernel
theorem dL_breaksIn_8 : decode cL_breaksIn 8 = .ok (.i2l, 1) := by decide +kernel
theorem dL_breaksIn_9 : decode cL_breaksIn 9 = .ok (.lastore, 1) := by decide +kernel
theorem dL_breaksIn_10 : decode cL_breaksIn 10 = .ok (.goto 11, 3) := by decide +kernel
theorem dL_breaksIn_13 : decode cL_breaksIn 13 = .ok (.astore 4, 2) := by decide +kernel
theorem dL_breaksIn_15 : decode cL_breaksIn 15 = .ok (.iconst 1, 1) := by decide +kernel
theorem dL_breaksIn_16 : decode cL_breaksIn 16 = .ok (.ireturn, 1) := by decide +kernel
theorem dL_breaksIn_17 : decode cL_breaksIn 17 = .ok (.astore 4, 2) := by decide +kernel
theorem dL_breaksIn_19 : decode cL_breaksIn 19 = .ok (.iconst 2, 1) := by decide +kernel
theorem dL_breaksIn_20 : decode cL_breaksIn 20 = .ok (.ireturn, 1) := by decide +kernel
theorem dL_breaksIn_21 : decode cL_breaksIn 21 = .ok (.iconst 0, 1) := by decide +kernel
theorem dL_breaksIn_22 : decode cL_breaksIn 22 = .ok (.ireturn, 1) := by decide +kernel
theorem dL_bestSlant_0 : decode cL_bestSlant 0 = .ok (.aload_n 2, 1) := by decide +kernel
theorem dL_bestSlant_1 : decode cL_bestSlant 1 = .ok (.iconst 0, 1) := by decide +kernel
theorem dL_bestSlant_2 : decode cL_bestSlant 2 = .ok (.aload_n 0, 1) := by decide +kernel
theorem dL_bestSlant_3 : decode cL_bestSlant 3 = .ok (.iload_n 1, 1) := by decide +kernel
theorem dL_bestSlant_4 : decode cL_bestSlant 4 = .ok (.invokevirtual 60, 3) := by decide +kernel
theorem dL_bestSlant_7 : decode cL_bestSlant 7 = .ok (.i2l, 1) := by decide +kernel
theorem dL_bestSlant_8 : decode cL_bestSlant 8 = .ok (.lastore, 1) := by decide +kernel
theorem dL_bestSlant_9 : decode cL_bestSlant 9 = .ok (.goto 6, 3) := by decide +kernel
theorem dL_bestSlant_12 : decode cL_bestSlant 12 = .ok (.astore_n 3, 1) := by decide +kernel
theorem dL_bestSlant_13 : decode cL_bestSlant 13 = .ok (.iconst 1, 1) := by decide +kernel
theorem dL_bestSlant_14 : decode cL_bestSlant 14 = .ok (.ireturn, 1) := by decide +kernel
theorem dL_bestSlant_15 : decode cL_bestSlant 15 = .ok (.iconst 0, 1) := by decide +kernel
theorem dL_bestSlant_16 : decode cL_bestSlant 16 = .ok (.ireturn, 1) := by decide +kernel
theorem dL_lostWith_0 : decode cL_lostWith 0 = .ok (.aload_n 2, 1) := by decide +kernel
theorem dL_lostWith_1 : decode cL_lostWith 1 = .ok (.iconst 0, 1) := by decide +kernel
theorem dL_lostWith_2 : decode cL_lostWith 2 = .ok (.aload_n 0, 1) := by decide +kernel
theorem dL_lostWith_3 : decode cL_lostWith 3 = .ok (.iload_n 1, 1) := by decide +kernel
theorem dL_lostWith_4 : decode cL_lostWith 4 = .ok (.invokevirtual 63, 3) := by decide +kernel
theorem dL_lostWith_7 : decode cL_lostWith 7 = .ok (.i2l, 1) := by decide +kernel
theorem dL_lostWith_8 : decode cL_lostWith 8 = .ok (.lastore, 1) := by decide +kernel
theorem dL_lostWith_9 : decode cL_lostWith 9 = .ok (.goto 6, 3) := by decide +kernel
theorem dL_lostWith_12 : decode cL_lostWith 12 = .ok (.astore_n 3, 1) := by decide +kernel
theorem dL_lostWith_13 : decode cL_lostWith 13 = .ok (.iconst 1, 1) := by decide +kernel
theorem dL_lostWith_14 : decode cL_lostWith 14 = .ok (.ireturn, 1) := by decide +kernel
theorem dL_lostWith_15 : decode cL_lostWith 15 = .ok (.iconst 0, 1) := by decide +kernel
theorem dL_lostWith_16 : decode cL_lostWith 16 = .ok (.ireturn, 1) := by decide +kernel
theorem dL_setPressure_0 : decode cL_setPressure 0 = .ok (.aload_n 3, 1) := by decide +kernel
theorem dL_setPressure_1 : decode cL_setPressure 1 = .ok (.iconst 0, 1) := by decide +kernel
theorem dL_setPressure_2 : decode cL_setPressure 2 = .ok (.aload_n 0, 1) := by decide +kernel
theorem dL_setPressure_3 : decode cL_setPressure 3 = .ok (.iload_n 1, 1) := by decide +kernel
theorem dL_setPressure_4 : decode cL_setPressure 4 = .ok (.iload_n 2, 1) := by decide +kernel
theorem dL_setPressure_5 : decode cL_setPressure 5 = .ok (.invokevirtual 66, 3) := by decide +kernel
theorem dL_setPressure_8 : decode cL_setPressure 8 = .ok (.i2l, 1) := by decide +kernel
theorem dL_setPressure_9 : decode cL_setPressure 9 = .ok (.lastore, 1) := by decide +kernel
theorem dL_setPressure_10 : decode cL_setPressure 10 = .ok (.goto 11, 3) := by decide +kernel
theorem dL_setPressure_13 : decode cL_setPressure 13 = .ok (.astore 4, 2) := by decide +kernel
theorem dL_setPressure_15 : decode cL_setPressure 15 = .ok (.iconst 1, 1) := by decide +kernel
theorem dL_setPressure_16 : decode cL_setPressure 16 = .ok (.ireturn, 1) := by decide +kernel
theorem dL_setPressure_17 : decode cL_setPressure 17 = .ok (.astore 4, 2) := by decide +kernel
theorem dL_setPressure_19 : decode cL_setPressure 19 = .ok (.iconst 2, 1) := by decide +kernel
theorem dL_setPressure_20 : decode cL_setPressure 20 = .ok (.ireturn, 1) := by decide +kernel
theorem dL_setPressure_21 : decode cL_setPressure 21 = .ok (.iconst 0, 1) := by decide +kernel
theorem dL_setPressure_22 : decode cL_setPressure 22 = .ok (.ireturn, 1) := by decide +kernel
theorem dL_setReference_0 : decode cL_setReference 0 = .ok (.aload_n 2, 1) := by decide +kernel
theorem dL_setReference_1 : decode cL_setReference 1 = .ok (.iconst 0, 1) := by decide +kernel
theorem dL_setReference_2 : decode cL_setReference 2 = .ok (.aload_n 0, 1) := by decide +kernel
theorem dL_setReference_3 : decode cL_setReference 3 = .ok (.iload_n 1, 1) := by decide +kernel
theorem dL_setReference_4 : decode cL_setReference 4 = .ok (.invokevirtual 69, 3) := by decide +kernel
theorem dL_setReference_7 : decode cL_setReference 7 = .ok (.i2l, 1) := by decide +kernel
theorem dL_setReference_8 : decode cL_setReference 8 = .ok (.lastore, 1) := by decide +kernel
theorem dL_setReference_9 : decode cL_setReference 9 = .ok (.goto 6, 3) := by decide +kernel
theorem dL_setReference_12 : decode cL_setReference 12 = .ok (.astore_n 3, 1) := by decide +kernel
theorem dL_setReference_13 : decode cL_setReference 13 = .ok (.iconst 1, 1) := by decide +kernel
theorem dL_setReference_14 : decode cL_setReference 14 = .ok (.ireturn, 1) := by decide +kernel
theorem dL_setReference_15 : decode cL_setReference 15 = .ok (.iconst 0, 1) := by decide +kernel
theorem dL_setReference_16 : decode cL_setReference 16 = .ok (.ireturn, 1) := by decide +kernel
theorem dL_sweep_0 : decode cL_sweep 0 = .ok (.aload 4, 2) := by decide +kernel
theorem dL_sweep_2 : decode cL_sweep 2 = .ok (.iconst 0, 1) := by decide +kernel
theorem dL_sweep_3 : decode cL_sweep 3 = .ok (.aload_n 0, 1) := by decide +kernel
theorem dL_sweep_4 : decode cL_sweep 4 = .ok (.iload_n 1, 1) := by decide +kernel
theorem dL_sweep_5 : decode cL_sweep 5 = .ok (.iload_n 2, 1) := by decide +kernel
theorem dL_sweep_6 : decode cL_sweep 6 = .ok (.iload_n 3, 1) := by decide +kernel
theorem dL_sweep_7 : decode cL_sweep 7 = .ok (.invokevirtual 72, 3) := by decide +kernel
theorem dL_sweep_10 : decode cL_sweep 10 = .ok (.i2l, 1) := by decide +kernel
theorem dL_sweep_11 : decode cL_sweep 11 = .ok (.lastore, 1) := by decide +kernel
theorem dL_sweep_12 : decode cL_sweep 12 = .ok (.goto 11, 3) := by decide +kernel
theorem dL_sweep_15 : decode cL_sweep 15 = .ok (.astore 5, 2) := by decide +kernel
theorem dL_sweep_17 : decode cL_sweep 17 = .ok (.iconst 1, 1) := by decide +kernel
theorem dL_sweep_18 : decode cL_sweep 18 = .ok (.ireturn, 1) := by decide +kernel
theorem dL_sweep_19 : decode cL_sweep 19 = .ok (.astore 5, 2) := by decide +kernel
theorem dL_sweep_21 : decode cL_sweep 21 = .ok (.iconst 2, 1) := by decide +kernel
theorem dL_sweep_22 : decode cL_sweep 22 = .ok (.ireturn, 1) := by decide +kernel
theorem dL_sweep_23 : decode cL_sweep 23 = .ok (.iconst 0, 1) := by decide +kernel
theorem dL_sweep_24 : decode cL_sweep 24 = .ok (.ireturn, 1) := by decide +kernel
theorem dL_setSlant_0 : decode cL_setSlant 0 = .ok (.aload_n 3, 1) := by decide +kernel
theorem dL_setSlant_1 : decode cL_setSlant 1 = .ok (.iconst 0, 1) := by decide +kernel
theorem dL_setSlant_2 : decode cL_setSlant 2 = .ok (.aload_n 0, 1) := by decide +kernel
theorem dL_setSlant_3 : decode cL_setSlant 3 = .ok (.iload_n 1, 1) := by decide +kernel
theorem dL_setSlant_4 : decode cL_setSlant 4 = .ok (.iload_n 2, 1) := by decide +kernel
theorem dL_setSlant_5 : decode cL_setSlant 5 = .ok (.invokevirtual 75, 3) := by decide +kernel
theorem dL_setSlant_8 : decode cL_setSlant 8 = .ok (.i2l, 1) := by decide +kernel
theorem dL_setSlant_9 : decode cL_setSlant 9 = .ok (.lastore, 1) := by decide +kernel
theorem dL_setSlant_10 : decode cL_setSlant 10 = .ok (.goto 11, 3) := by decide +kernel
theorem dL_setSlant_13 : decode cL_setSlant 13 = .ok (.astore 4, 2) := by decide +kernel
theorem dL_setSlant_15 : decode cL_setSlant 15 = .ok (.iconst 1, 1) := by decide +kernel
theorem dL_setSlant_16 : decode cL_setSlant 16 = .ok (.ireturn, 1) := by decide +kernel
theorem dL_setSlant_17 : decode cL_setSlant 17 = .ok (.astore 4, 2) := by decide +kernel
theorem dL_setSlant_19 : decode cL_setSlant 19 = .ok (.iconst 2, 1) := by decide +kernel
theorem dL_setSlant_20 : decode cL_setSlant 20 = .ok (.ireturn, 1) := by decide +kernel
theorem dL_setSlant_21 : decode cL_setSlant 21 = .ok (.iconst 0, 1) := by decide +kernel
theorem dL_setSlant_22 : decode cL_setSlant 22 = .ok (.ireturn, 1) := by decide +kernel
theorem dL_setMark_0 : decode cL_setMark 0 = .ok (.aload_n 2, 1) := by decide +kernel
theorem dL_setMark_1 : decode cL_setMark 1 = .ok (.iconst 0, 1) := by decide +kernel
theorem dL_setMark_2 : decode cL_setMark 2 = .ok (.aload_n 0, 1) := by decide +kernel
theorem dL_setMark_3 : decode cL_setMark 3 = .ok (.iload_n 1, 1) := by decide +kernel
theorem dL_setMark_4 : decode cL_setMark 4 = .ok (.invokevirtual 78, 3) := by decide +kernel
theorem dL_setMark_7 : decode cL_setMark 7 = .ok (.i2l, 1) := by decide +kernel
theorem dL_setMark_8 : decode cL_setMark 8 = .ok (.lastore, 1) := by decide +kernel
theorem dL_setMark_9 : decode cL_setMark 9 = .ok (.goto 6, 3) := by decide +kernel
theorem dL_setMark_12 : decode cL_setMark 12 = .ok (.astore_n 3, 1) := by decide +kernel
theorem dL_setMark_13 : decode cL_setMark 13 = .ok (.iconst 1, 1) := by decide +kernel
theorem dL_setMark_14 : decode cL_setMark 14 = .ok (.ireturn, 1) := by decide +kernel
theorem dL_setMark_15 : decode cL_setMark 15 = .ok (.iconst 0, 1) := by decide +kernel
theorem dL_setMark_16 : decode cL_setMark 16 = .ok (.ireturn, 1) := by decide +kernel
theorem dL_setCurve_0 : decode cL_setCurve 0 = .ok (.aload_n 3, 1) := by decide +kernel
theorem dL_setCurve_1 : decode cL_setCurve 1 = .ok (.iconst 0, 1) := by decide +kernel
theorem dL_setCurve_2 : decode cL_setCurve 2 = .ok (.aload_n 0, 1) := by decide +kernel
theorem dL_setCurve_3 : decode cL_setCurve 3 = .ok (.iload_n 1, 1) := by decide +kernel
theorem dL_setCurve_4 : decode cL_setCurve 4 = .ok (.iload_n 2, 1) := by decide +kernel
theorem dL_setCurve_5 : decode cL_setCurve 5 = .ok (.invokevirtual 81, 3) := by decide +kernel
theorem dL_setCurve_8 : decode cL_setCurve 8 = .ok (.i2l, 1) := by decide +kernel
theorem dL_setCurve_9 : decode cL_setCurve 9 = .ok (.lastore, 1) := by decide +kernel
theorem dL_setCurve_10 : decode cL_setCurve 10 = .ok (.goto 11, 3) := by decide +kernel
theorem dL_setCurve_13 : decode cL_setCurve 13 = .ok (.astore 4, 2) := by decide +kernel
theorem dL_setCurve_15 : decode cL_setCurve 15 = .ok (.iconst 1, 1) := by decide +kernel
theorem dL_setCurve_16 : decode cL_setCurve 16 = .ok (.ireturn, 1) := by decide +kernel
theorem dL_setCurve_17 : decode cL_setCurve 17 = .ok (.astore 4, 2) := by decide +kernel
theorem dL_setCurve_19 : decode cL_setCurve 19 = .ok (.iconst 2, 1) := by decide +kernel
theorem dL_setCurve_20 : decode cL_setCurve 20 = .ok (.ireturn, 1) := by decide +kernel
theorem dL_setCurve_21 : decode cL_setCurve 21 = .ok (.iconst 0, 1) := by decide +kernel
theorem dL_setCurve_22 : decode cL_setCurve 22 = .ok (.ireturn, 1) := by decide +kernel
theorem dL_mend_0 : decode cL_mend 0 = .ok (.aload_n 2, 1) := by decide +kernel
theorem dL_mend_1 : decode cL_mend 1 = .ok (.iconst 0, 1) := by decide +kernel
theorem dL_mend_2 : decode cL_mend 2 = .ok (.aload_n 0, 1) := by decide +kernel
theorem dL_mend_3 : decode cL_mend 3 = .ok (.iload_n 1, 1) := by decide +kernel
theorem dL_mend_4 : decode cL_mend 4 = .ok (.invokevirtual 84, 3) := by decide +kernel
theorem dL_mend_7 : decode cL_mend 7 = .ok (.i2l, 1) := by decide +kernel
theorem dL_mend_8 : decode cL_mend 8 = .ok (.lastore, 1) := by decide +kernel
theorem dL_mend_9 : decode cL_mend 9 = .ok (.goto 6, 3) := by decide +kernel
theorem dL_mend_12 : decode cL_mend 12 = .ok (.astore_n 3, 1) := by decide +kernel
theorem dL_mend_13 : decode cL_mend 13 = .ok (.iconst 1, 1) := by decide +kernel
theorem dL_mend_14 : decode cL_mend 14 = .ok (.ireturn, 1) := by decide +kernel
theorem dL_mend_15 : decode cL_mend 15 = .ok (.iconst 0, 1) := by decide +kernel
theorem dL_mend_16 : decode cL_mend 16 = .ok (.ireturn, 1) := by decide +kernel
theorem dL_refill_0 : decode cL_refill 0 = .ok (.aload_n 3, 1) := by decide +kernel
theorem dL_refill_1 : decode cL_refill 1 = .ok (.iconst 0, 1) := by decide +kernel
theorem dL_refill_2 : decode cL_refill 2 = .ok (.aload_n 0, 1) := by decide +kernel
theorem dL_refill_3 : decode cL_refill 3 = .ok (.iload_n 1, 1) := by decide +kernel
theorem dL_refill_4 : decode cL_refill 4 = .ok (.iload_n 2, 1) := by decide +kernel
theorem dL_refill_5 : decode cL_refill 5 = .ok (.invokevirtual 87, 3) := by decide +kernel
theorem dL_refill_8 : decode cL_refill 8 = .ok (.i2l, 1) := by decide +kernel
theorem dL_refill_9 : decode cL_refill 9 = .ok (.lastore, 1) := by decide +kernel
theorem dL_refill_10 : decode cL_refill 10 = .ok (.goto 11, 3) := by decide +kernel
theorem dL_refill_13 : decode cL_refill 13 = .ok (.astore 4, 2) := by decide +kernel
theorem dL_refill_15 : decode cL_refill 15 = .ok (.iconst 1, 1) := by decide +kernel
theorem dL_refill_16 : decode cL_refill 16 = .ok (.ireturn, 1) := by decide +kernel
theorem dL_refill_17 : decode cL_refill 17 = .ok (.astore 4, 2) := by decide +kernel
theorem dL_refill_19 : decode cL_refill 19 = .ok (.iconst 2, 1) := by decide +kernel
theorem dL_refill_20 : decode cL_refill 20 = .ok (.ireturn, 1) := by decide +kernel
theorem dL_refill_21 : decode cL_refill 21 = .ok (.iconst 0, 1) := by decide +kernel
theorem dL_refill_22 : decode cL_refill 22 = .ok (.ireturn, 1) := by decide +kernel
theorem dL_addTube_0 : decode cL_addTube 0 = .ok (.aload 6, 2) := by decide +kernel
theorem dL_addTube_2 : decode cL_addTube 2 = .ok (.iconst 0, 1) := by decide +kernel
theorem dL_addTube_3 : decode cL_addTube 3 = .ok (.aload_n 0, 1) := by decide +kernel
theorem dL_addTube_4 : decode cL_addTube 4 = .ok (.iload_n 1, 1) := by decide +kernel
theorem dL_addTube_5 : decode cL_addTube 5 = .ok (.iload_n 2, 1) := by decide +kernel
theorem dL_addTube_6 : decode cL_addTube 6 = .ok (.iload_n 3, 1) := by decide +kernel
theorem dL_addTube_7 : decode cL_addTube 7 = .ok (.iload 4, 2) := by decide +kernel
theorem dL_addTube_9 : decode cL_addTube 9 = .ok (.iload 5, 2) := by decide +kernel
theorem dL_addTube_11 : decode cL_addTube 11 = .ok (.invokevirtual 90, 3) := by decide +kernel
theorem dL_addTube_14 : decode cL_addTube 14 = .ok (.i2l, 1) := by decide +kernel
theorem dL_addTube_15 : decode cL_addTube 15 = .ok (.lastore, 1) := by decide +kernel
theorem dL_addTube_16 : decode cL_addTube 16 = .ok (.goto 11, 3) := by decide +kernel
theorem dL_addTube_19 : decode cL_addTube 19 = .ok (.astore 7, 2) := by decide +kernel
theorem dL_addTube_21 : decode cL_addTube 21 = .ok (.iconst 1, 1) := by decide +kernel
theorem dL_addTube_22 : decode cL_addTube 22 = .ok (.ireturn, 1) := by decide +kernel
theorem dL_addTube_23 : decode cL_addTube 23 = .ok (.astore 7, 2) := by decide +kernel
theorem dL_addTube_25 : decode cL_addTube 25 = .ok (.iconst 2, 1) := by decide +kernel
theorem dL_addTube_26 : decode cL_addTube 26 = .ok (.ireturn, 1) := by decide +kernel
theorem dL_addTube_27 : decode cL_addTube 27 = .ok (.iconst 0, 1) := by decide +kernel
theorem dL_addTube_28 : decode cL_addTube 28 = .ok (.ireturn, 1) := by decide +kernel
theorem dL_dropTube_0 : decode cL_dropTube 0 = .ok (.aload_n 2, 1) := by decide +kernel
theorem dL_dropTube_1 : decode cL_dropTube 1 = .ok (.iconst 0, 1) := by decide +kernel
theorem dL_dropTube_2 : decode cL_dropTube 2 = .ok (.aload_n 0, 1) := by decide +kernel
theorem dL_dropTube_3 : decode cL_dropTube 3 = .ok (.iload_n 1, 1) := by decide +kernel
theorem dL_dropTube_4 : decode cL_dropTube 4 = .ok (.invokevirtual 94, 3) := by decide +kernel
theorem dL_dropTube_7 : decode cL_dropTube 7 = .ok (.i2l, 1) := by decide +kernel
theorem dL_dropTube_8 : decode cL_dropTube 8 = .ok (.lastore, 1) := by decide +kernel
theorem dL_dropTube_9 : decode cL_dropTube 9 = .ok (.goto 6, 3) := by decide +kernel
theorem dL_dropTube_12 : decode cL_dropTube 12 = .ok (.astore_n 3, 1) := by decide +kernel
theorem dL_dropTube_13 : decode cL_dropTube 13 = .ok (.iconst 1, 1) := by decide +kernel
theorem dL_dropTube_14 : decode cL_dropTube 14 = .ok (.ireturn, 1) := by decide +kernel
theorem dL_dropTube_15 : decode cL_dropTube 15 = .ok (.iconst 0, 1) := by decide +kernel
theorem dL_dropTube_16 : decode cL_dropTube 16 = .ok (.ireturn, 1) := by decide +kernel
theorem dL_format_0 : decode cL_format 0 = .ok (.aload_n 2, 1) := by decide +kernel
theorem dL_format_1 : decode cL_format 1 = .ok (.iconst 0, 1) := by decide +kernel
theorem dL_format_2 : decode cL_format 2 = .ok (.aload_n 0, 1) := by decide +kernel
theorem dL_format_3 : decode cL_format 3 = .ok (.iload_n 1, 1) := by decide +kernel
theorem dL_format_4 : decode cL_format 4 = .ok (.invokevirtual 97, 3) := by decide +kernel
theorem dL_format_7 : decode cL_format 7 = .ok (.i2l, 1) := by decide +kernel
theorem dL_format_8 : decode cL_format 8 = .ok (.lastore, 1) := by decide +kernel
theorem dL_format_9 : decode cL_format 9 = .ok (.goto 6, 3) := by decide +kernel
theorem dL_format_12 : decode cL_format 12 = .ok (.astore_n 3, 1) := by decide +kernel
theorem dL_format_13 : decode cL_format 13 = .ok (.iconst 1, 1) := by decide +kernel
theorem dL_format_14 : decode cL_format 14 = .ok (.ireturn, 1) := by decide +kernel
theorem dL_format_15 : decode cL_format 15 = .ok (.iconst 0, 1) := by decide +kernel
theorem dL_format_16 : decode cL_format 16 = .ok (.ireturn, 1) := by decide +kernel
theorem dL_query_0 : decode cL_query 0 = .ok (.aload_n 2, 1) := by decide +kernel
theorem dL_query_1 : decode cL_query 1 = .ok (.iconst 0, 1) := by decide +kernel
theorem dL_query_2 : decode cL_query 2 = .ok (.aload_n 0, 1) := by decide +kernel
theorem dL_query_3 : decode cL_query 3 = .ok (.iload_n 1, 1) := by decide +kernel
theorem dL_query_4 : decode cL_query 4 = .ok (.invokevirtual 100, 3) := by decide +kernel
theorem dL_query_7 : decode cL_query 7 = .ok (.i2l, 1) := by decide +kernel
theorem dL_query_8 : decode cL_query 8 = .ok (.lastore, 1) := by decide +kernel
theorem dL_query_9 : decode cL_query 9 = .ok (.goto 6, 3) := by decide +kernel
theorem dL_query_12 : decode cL_query 12 = .ok (.astore_n 3, 1) := by decide +kernel
theorem dL_query_13 : decode cL_query 13 = .ok (.iconst 1, 1) := by decide +kernel
theorem dL_query_14 : decode cL_query 14 = .ok (.ireturn, 1) := by decide +kernel
theorem dL_query_15 : decode cL_query 15 = .ok (.iconst 0, 1) := by decide +kernel
theorem dL_query_16 : decode cL_query 16 = .ok (.ireturn, 1) := by decide +kernel
theorem dL_law_0 : decode cL_law 0 = .ok (.new 8, 3) := by decide +kernel
theorem dL_law_3 : decode cL_law 3 = .ok (.dup, 1) := by decide +kernel
theorem dL_law_4 : decode cL_law 4 = .ok (.invokespecial 103, 3) := by decide +kernel
theorem dL_law_7 : decode cL_law 7 = .ok (.astore_n 1, 1) := by decide +kernel
theorem dL_law_8 : decode cL_law 8 = .ok (.new 104, 3) := by decide +kernel
theorem dL_law_11 : decode cL_law 11 = .ok (.dup, 1) := by decide +kernel
theorem dL_law_12 : decode cL_law 12 = .ok (.invokespecial 106, 3) := by decide +kernel
theorem dL_law_15 : decode cL_law 15 = .ok (.astore_n 2, 1) := by decide +kernel
theorem dL_law_16 : decode cL_law 16 = .ok (.iconst 1, 1) := by decide +kernel
theorem dL_law_17 : decode cL_law 17 = .ok (.newarray .long, 2) := by decide +kernel
theorem dL_law_19 : decode cL_law 19 = .ok (.astore_n 3, 1) := by decide +kernel
theorem dL_law_20 : decode cL_law 20 = .ok (.iconst 0, 1) := by decide +kernel
theorem dL_law_21 : decode cL_law 21 = .ok (.istore 4, 2) := by decide +kernel
theorem dL_law_23 : decode cL_law 23 = .ok (.iload 4, 2) := by decide +kernel
theorem dL_law_25 : decode cL_law 25 = .ok (.aload_n 0, 1) := by decide +kernel
theorem dL_law_26 : decode cL_law 26 = .ok (.arraylength, 1) := by decide +kernel
theorem dL_law_27 : decode cL_law 27 = .ok (.bipush 6, 2) := by decide +kernel
theorem dL_law_29 : decode cL_law 29 = .ok (.isub, 1) := by decide +kernel
theorem dL_law_30 : decode cL_law 30 = .ok (.if_icmp .gt 2278, 3) := by decide +kernel
theorem dL_law_33 : decode cL_law 33 = .ok (.aload_n 0, 1) := by decide +kernel
theorem dL_law_34 : decode cL_law 34 = .ok (.iload 4, 2) := by decide +kernel
theorem dL_law_36 : decode cL_law 36 = .ok (.iaload, 1) := by decide +kernel
theorem dL_law_37 : decode cL_law 37 = .ok (.bipush 63, 2) := by decide +kernel
theorem dL_law_39 : decode cL_law 39 = .ok (.iand, 1) := by decide +kernel
theorem dL_law_40 : decode cL_law 40 = .ok (.tableswitch 2262 0 39 #[176, 249, 305, 318, 374, 430, 498, 565, 633, 689, 745, 813, 826, 882, 895, 908, 983, 1051, 1131, 1199, 1255, 1311, 1352, 1395, 1463, 1519, 1599, 1667, 1723, 1791, 1847, 1915, 2019, 2075, 2131, 2156, 2169, 2182, 2193, 2206], 176) := by decide +kernel
theorem dL_law_216 : decode cL_law 216 = .ok (.aload_n 1, 1) := by decide +kernel
theorem dL_law_217 : decode cL_law 217 = .ok (.aload_n 0, 1) := by decide +kernel
theorem dL_law_218 : decode cL_law 218 = .ok (.iload 4, 2) := by decide +kernel
theorem dL_law_220 : decode cL_law 220 = .ok (.iconst 1, 1) := by decide +kernel
theorem dL_law_221 : decode cL_law 221 = .ok (.iadd, 1) := by decide +kernel
theorem dL_law_222 : decode cL_law 222 = .ok (.iaload, 1) := by decide +kernel
theorem dL_law_223 : decode cL_law 223 = .ok (.aload_n 0, 1) := by decide +kernel
theorem dL_law_224 : decode cL_law 224 = .ok (.iload 4, 2) := by decide +kernel
theorem dL_law_226 : decode cL_law 226 = .ok (.iconst 2, 1) := by decide +kernel
theorem dL_law_227 : decode cL_law 227 = .ok (.iadd, 1) := by decide +kernel
theorem dL_law_228 : decode cL_law 228 = .ok (.iaload, 1) := by decide +kernel
theorem dL_law_229 : decode cL_law 229 = .ok (.aload_n 0, 1) := by decide +kernel
theorem dL_law_230 : decode cL_law 230 = .ok (.iload 4, 2) := by decide +kernel
theorem dL_law_232 : decode cL_law 232 = .ok (.iconst 3, 1) := by decide +kernel
theorem dL_law_233 : decode cL_law 233 = .ok (.iadd, 1) := by decide +kernel
theorem dL_law_234 : decode cL_law 234 = .ok (.iaload, 1) := by decide +kernel
theorem dL_law_235 : decode cL_law 235 = .ok (.aload_n 0, 1) := by decide +kernel
theorem dL_law_236 : decode cL_law 236 = .ok (.iload 4, 2) := by decide +kernel
theorem dL_law_238 : decode cL_law 238 = .ok (.iconst 4, 1) := by decide +kernel
theorem dL_law_239 : decode cL_law 239 = .ok (.iadd, 1) := by decide +kernel
theorem dL_law_240 : decode cL_law 240 = .ok (.iaload, 1) := by decide +kernel
theorem dL_law_241 : decode cL_law 241 = .ok (.aload_n 0, 1) := by decide +kernel
theorem dL_law_242 : decode cL_law 242 = .ok (.iload 4, 2) := by decide +kernel
theorem dL_law_244 : decode cL_law 244 = .ok (.iconst 5, 1) := by decide +kernel
theorem dL_law_245 : decode cL_law 245 = .ok (.iadd, 1) := by decide +kernel
theorem dL_law_246 : decode cL_law 246 = .ok (.iaload, 1) := by decide +kernel
theorem dL_law_247 : decode cL_law 247 = .ok (.invokevirtual 107, 3) := by decide +kernel
theorem dL_law_250 : decode cL_law 250 = .ok (.aload_n 2, 1) := by decide +kernel
theorem dL_law_251 : decode cL_law 251 = .ok (.aload_n 0, 1) := by decide +kernel
theorem dL_law_252 : decode cL_law 252 = .ok (.iload 4, 2) := by decide +kernel
theorem dL_law_254 : decode cL_law 254 = .ok (.iconst 1, 1) := by decide +kernel
theorem dL_law_255 : decode cL_law 255 = .ok (.iadd, 1) := by decide +kernel
theorem dL_law_256 : decode cL_law 256 = .ok (.iaload, 1) := by decide +kernel
theorem dL_law_257 : decode cL_law 257 = .ok (.aload_n 0, 1) := by decide +kernel
theorem dL_law_258 : decode cL_law 258 = .ok (.iload 4, 2) := by decide +kernel
theorem dL_law_260 : decode cL_law 260 = .ok (.iconst 2, 1) := by decide +kernel
theorem dL_law_261 : decode cL_law 261 = .ok (.iadd, 1) := by decide +kernel
theorem dL_law_262 : decode cL_law 262 = .ok (.iaload, 1) := by decide +kernel
theorem dL_law_263 : decode cL_law 263 = .ok (.aload_n 0, 1) := by decide +kernel
theorem dL_law_264 : decode cL_law 264 = .ok (.iload 4, 2) := by decide +kernel
theorem dL_law_266 : decode cL_law 266 = .ok (.iconst 3, 1) := by decide +kernel
theorem dL_law_267 : decode cL_law 267 = .ok (.iadd, 1) := by decide +kernel
theorem dL_law_268 : decode cL_law 268 = .ok (.iaload, 1) := by decide +kernel
theorem dL_law_269 : decode cL_law 269 = .ok (.aload_n 0, 1) := by decide +kernel
theorem dL_law_270 : decode cL_law 270 = .ok (.iload 4, 2) := by decide +kernel
theorem dL_law_272 : decode cL_law 272 = .ok (.iconst 4, 1) := by decide +kernel
theorem dL_law_273 : decode cL_law 273 = .ok (.iadd, 1) := by decide +kernel
theorem dL_law_274 : decode cL_law 274 = .ok (.iaload, 1) := by decide +kernel
theorem dL_law_275 : decode cL_law 275 = .ok (.aload_n 0, 1) := by decide +kernel
theorem dL_law_276 : decode cL_law 276 = .ok (.iload 4, 2) := by decide +kernel
theorem dL_law_278 : decode cL_law 278 = .ok (.iconst 5, 1) := by decide +kernel
theorem dL_law_279 : decode cL_law 279 = .ok (.iadd, 1) := by decide +kernel
theorem dL_law_280 : decode cL_law 280 = .ok (.iaload, 1) := by decide +kernel
theorem dL_law_281 : decode cL_law 281 = .ok (.invokevirtual 110, 3) := by decide +kernel
theorem dL_law_284 : decode cL_law 284 = .ok (.if_icmp .eq 2018, 3) := by decide +kernel
theorem dL_law_287 : decode cL_law 287 = .ok (.iconst 0, 1) := by decide +kernel
theorem dL_law_288 : decode cL_law 288 = .ok (.ireturn, 1) := by decide +kernel
theorem dL_law_289 : decode cL_law 289 = .ok (.aload_n 1, 1) := by decide +kernel
theorem dL_law_290 : decode cL_law 290 = .ok (.aload_n 0, 1) := by decide +kernel
theorem dL_law_291 : decode cL_law 291 = .ok (.iload 4, 2) := by decide +kernel
theorem dL_law_293 : decode cL_law 293 = .ok (.iconst 1, 1) := by decide +kernel
theorem dL_law_294 : decode cL_law 294 = .ok (.iadd, 1) := by decide +kernel
theorem dL_law_295 : decode cL_law 295 = .ok (.iaload, 1) := by decide +kernel
theorem dL_law_296 : decode cL_law 296 = .ok (.aload_n 3, 1) := by decide +kernel
theorem dL_law_297 : decode cL_law 297 = .ok (.invokestatic 111, 3) := by decide +kernel
theorem dL_law_300 : decode cL_law 300 = .ok (.istore 5, 2) := by decide +kernel
theorem dL_law_302 : decode cL_law 302 = .ok (.aload_n 2, 1) := by decide +kernel
theorem dL_law_303 : decode cL_law 303 = .ok (.aload_n 0, 1) := by decide +kernel
theorem dL_law_304 : decode cL_law 304 = .ok (.iload 4, 2) := by decide +kernel
theorem dL_law_306 : decode cL_law 306 = .ok (.iconst 1, 1) := by decide +kernel
theorem dL_law_307 : decode cL_law 307 = .ok (.iadd, 1) := by decide +kernel
theorem dL_law_308 : decode cL_law 308 = .ok (.iaload, 1) := by decide +kernel
theorem dL_law_309 : decode cL_law 309 = .ok (.invokevirtual 116, 3) := by decide +kernel
theorem dL_law_312 : decode cL_law 312 = .ok (.istore 6, 2) := by decide +kernel
theorem dL_law_314 : decode cL_law 314 = .ok (.aload_n 2, 1) := by decide +kernel
theorem dL_law_315 : decode cL_law 315 = .ok (.invokevirtual 117, 3) := by decide +kernel
theorem dL_law_318 : decode cL_law 318 = .ok (.iload 5, 2) := by decide +kernel
theorem dL_law_320 : decode cL_law 320 = .ok (.if_icmp .eq 5, 3) := by decide +kernel
theorem dL_law_323 : decode cL_law 323 = .ok (.iconst 0, 1) := by decide +kernel
theorem dL_law_324 : decode cL_law 324 = .ok (.ireturn, 1) := by decide +kernel
theorem dL_law_325 : decode cL_law 325 = .ok (.iload 5, 2) := by decide +kernel
theorem dL_law_327 : decode cL_law 327 = .ok (.ifCond .ne 15, 3) := by decide +kernel
theorem dL_law_330 : decode cL_law 330 = .ok (.aload_n 3, 1) := by decide +kernel
theorem dL_law_331 : decode cL_law 331 = .ok (.iconst 0, 1) := by decide +kernel
theorem dL_law_332 : decode cL_law 332 = .ok (.laload, 1) := by decide +kernel
theorem dL_law_333 : decode cL_law 333 = .ok (.iload 6, 2) := by decide +kernel
theorem dL_law_335 : decode cL_law 335 = .ok (.i2l, 1) := by decide +kernel
theorem dL_law_336 : decode cL_law 336 = .ok (.lcmp, 1) := by decide +kernel
theorem dL_law_337 : decode cL_law 337 = .ok (.ifCond .eq 5, 3) := by decide +kernel
theorem dL_law_340 : decode cL_law 340 = .ok (.iconst 0, 1) := by decide +kernel
theorem dL_law_341 : decode cL_law 341 = .ok (.ireturn, 1) := by decide +kernel
theorem dL_law_342 : decode cL_law 342 = .ok (.goto 1960, 3) := by decide +kernel
theorem dL_law_345 : decode cL_law 345 = .ok (.aload_n 1, 1) := by decide +kernel
theorem dL_law_346 : decode cL_law 346 = .ok (.invokevirtual 121, 3) := by decide +kernel
theorem dL_law_349 : decode cL_law 349 = .ok (.aload_n 2, 1) := by decide +kernel
theorem dL_law_350 : decode cL_law 350 = .ok (.invokevirtual 124, 3) := by decide +kernel
theorem dL_law_353 : decode cL_law 353 = .ok (.if_icmp .eq 1949, 3) := by decide +kernel
theorem dL_law_356 : decode cL_law 356 = .ok (.iconst 0, 1) := by decide +kernel
theorem dL_law_357 : decode cL_law 357 = .ok (.ireturn, 1) := by decide +kernel
theorem dL_law_358 : decode cL_law 358 = .ok (.aload_n 1, 1) := by decide +kernel
theorem dL_law_359 : decode cL_law 359 = .ok (.aload_n 0, 1) := by decide +kernel
theorem dL_law_360 : decode cL_law 360 = .ok (.iload 4, 2) := by decide +kernel
theorem dL_law_362 : decode cL_law 362 = .ok (.iconst 1, 1) := by decide +kernel
theorem dL_law_363 : decode cL_law 363 = .ok (.iadd, 1) := by decide +kernel
theorem dL_law_364 : decode cL_law 364 = .ok (.iaload, 1) := by decide +kernel
theorem dL_law_365 : decode cL_law 365 = .ok (.aload_n 3, 1) := by decide +kernel
theorem dL_law_366 : decode cL_law 366 = .ok (.invokestatic 125, 3) := by decide +kernel
theorem dL_law_369 : decode cL_law 369 = .ok (.istore 5, 2) := by decide +kernel
theorem dL_law_371 : decode cL_law 371 = .ok (.aload_n 2, 1) := by decide +kernel
theorem dL_law_372 : decode cL_law 372 = .ok (.aload_n 0, 1) := by decide +kernel
theorem dL_law_373 : decode cL_law 373 = .ok (.iload 4, 2) := by decide +kernel
theorem dL_law_375 : decode cL_law 375 = .ok (.iconst 1, 1) := by decide +kernel
theorem dL_law_376 : decode cL_law 376 = .ok (.iadd, 1) := by decide +kernel
theorem dL_law_377 : decode cL_law 377 = .ok (.iaload, 1) := by decide +kernel
theorem dL_law_378 : decode cL_law 378 = .ok (.invokevirtual 127, 3) := by decide +kernel
theorem dL_law_381 : decode cL_law 381 = .ok (.istore 6, 2) := by decide +kernel
theorem dL_law_383 : decode cL_law 383 = .ok (.aload_n 2, 1) := by decide +kernel
theorem dL_law_384 : decode cL_law 384 = .ok (.invokevirtual 117, 3) := by decide +kernel
theorem dL_law_387 : decode cL_law 387 = .ok (.iload 5, 2) := by decide +kernel
theorem dL_law_389 : decode cL_law 389 = .ok (.if_icmp .eq 5, 3) := by decide +kernel
theorem dL_law_392 : decode cL_law 392 = .ok (.iconst 0, 1) := by decide +kernel
theorem dL_law_393 : decode cL_law 393 = .ok (.ireturn, 1) := by decide +kernel
theorem dL_law_394 : decode cL_law 394 = .ok (.iload 5, 2) := by decide +kernel
theorem dL_law_396 : decode cL_law 396 = .ok (.ifCond .ne 15, 3) := by decide +kernel
theorem dL_law_399 : decode cL_law 399 = .ok (.aload_n 3, 1) := by decide +kernel
theorem dL_law_400 : decode cL_law 400 = .ok (.iconst 0, 1) := by decide +kernel
theorem dL_law_401 : decode cL_law 401 = .ok (.laload, 1) := by decide +kernel
theorem dL_law_402 : decode cL_law 402 = .ok (.iload 6, 2) := by decide +kernel
theorem dL_law_404 : decode cL_law 404 = .ok (.i2l, 1) := by decide +kernel
theorem dL_law_405 : decode cL_law 405 = .ok (.lcmp, 1) := by decide +kernel
theorem dL_law_406 : decode cL_law 406 = .ok (.ifCond .eq 5, 3) := by decide +kernel
theorem dL_law_409 : decode cL_law 409 = .ok (.iconst 0, 1) := by decide +kernel
theorem dL_law_410 : decode cL_law 410 = .ok (.ireturn, 1) := by decide +kernel
theorem dL_law_411 : decode cL_law 411 = .ok (.goto 1891, 3) := by decide +kernel
theorem dL_law_414 : decode cL_law 414 = .ok (.aload_n 1, 1) := by decide +kernel
theorem dL_law_415 : decode cL_law 415 = .ok (.aload_n 0, 1) := by decide +kernel
theorem dL_law_416 : decode cL_law 416 = .ok (.iload 4, 2) := by decide +kernel
theorem dL_law_418 : decode cL_law 418 = .ok (.iconst 1, 1) := by decide +kernel
theorem dL_law_419 : decode cL_law 419 = .ok (.iadd, 1) := by decide +kernel
theorem dL_law_420 : decode cL_law 420 = .ok (.iaload, 1) := by decide +kernel
theorem dL_law_421 : decode cL_law 421 = .ok (.aload_n 3, 1) := by decide +kernel
theorem dL_law_422 : decode cL_law 422 = .ok (.invokestatic 128, 3) := by decide +kernel
theorem dL_law_425 : decode cL_law 425 = .ok (.istore 5, 2) := by decide +kernel
theorem dL_law_427 : decode cL_law 427 = .ok (.aload_n 2, 1) := by decide +kernel
theorem dL_law_428 : decode cL_law 428 = .ok (.aload_n 0, 1) := by decide +kernel
theorem dL_law_429 : decode cL_law 429 = .ok (.iload 4, 2) := by decide +kernel
theorem dL_law_431 : decode cL_law 431 = .ok (.iconst 1, 1) := by decide +kernel
theorem dL_law_432 : decode cL_law 432 = .ok (.iadd, 1) := by decide +kernel
theorem dL_law_433 : decode cL_law 433 = .ok (.iaload, 1) := by decide +kernel
theorem dL_law_434 : decode cL_law 434 = .ok (.invokevirtual 130, 3) := by decide +kernel
theorem dL_law_437 : decode cL_law 437 = .ok (.istore 6, 2) := by decide +kernel
theorem dL_law_439 : decode cL_law 439 = .ok (.aload_n 2, 1) := by decide +kernel
theorem dL_law_440 : decode cL_law 440 = .ok (.invokevirtual 117, 3) := by decide +kernel
theorem dL_law_443 : decode cL_law 443 = .ok (.iload 5, 2) := by decide +kernel
theorem dL_law_445 : decode cL_law 445 = .ok (.if_icmp .eq 5, 3) := by decide +kernel
theorem dL_law_448 : decode cL_law 448 = .ok (.iconst 0, 1) := by decide +kernel
theorem dL_law_449 : decode cL_law 449 = .ok (.ireturn, 1) := by decide +kernel
theorem dL_law_450 : decode cL_law 450 = .ok (.iload 5, 2) := by decide +kernel
theorem dL_law_452 : decode cL_law 452 = .ok (.ifCond .ne 15, 3) := by decide +kernel
theorem dL_law_455 : decode cL_law 455 = .ok (.aload_n 3, 1) := by decide +kernel
theorem dL_law_456 : decode cL_law 456 = .ok (.iconst 0, 1) := by decide +kernel
theorem dL_law_457 : decode cL_law 457 = .ok (.laload, 1) := by decide +kernel
theorem dL_law_458 : decode cL_law 458 = .ok (.iload 6, 2) := by decide +kernel
theorem dL_law_460 : decode cL_law 460 = .ok (.i2l, 1) := by decide +kernel
theorem dL_law_461 : decode cL_law 461 = .ok (.lcmp, 1) := by decide +kernel
theorem dL_law_462 : decode cL_law 462 = .ok (.ifCond .eq 5, 3) := by decide +kernel
theorem dL_law_465 : decode cL_law 465 = .ok (.iconst 0, 1) := by decide +kernel
theorem dL_law_466 : decode cL_law 466 = .ok (.ireturn, 1) := by decide +kernel
theorem dL_law_467 : decode cL_law 467 = .ok (.goto 1835, 3) := by decide +kernel
theorem dL_law_470 : decode cL_law 470 = .ok (.aload_n 1, 1) := by decide +kernel
theorem dL_law_471 : decode cL_law 471 = .ok (.aload_n 0, 1) := by decide +kernel
theorem dL_law_472 : decode cL_law 472 = .ok (.iload 4, 2) := by decide +kernel
theorem dL_law_474 : decode cL_law 474 = .ok (.iconst 1, 1) := by decide +kernel
theorem dL_law_475 : decode cL_law 475 = .ok (.iadd, 1) := by decide +kernel
theorem dL_law_476 : decode cL_law 476 = .ok (.iaload, 1) := by decide +kernel
theorem dL_law_477 : decode cL_law 477 = .ok (.aload_n 0, 1) := by decide +kernel
theorem dL_law_478 : decode cL_law 478 = .ok (.iload 4, 2) := by decide +kernel
theorem dL_law_480 : decode cL_law 480 = .ok (.iconst 2, 1) := by decide +kernel
theorem dL_law_481 : decode cL_law 481 = .ok (.iadd, 1) := by decide +kernel
theorem dL_law_482 : decode cL_law 482 = .ok (.iaload, 1) := by decide +kernel
theorem dL_law_483 : decode cL_law 483 = .ok (.aload_n 3, 1) := by decide +kernel
theorem dL_law_484 : decode cL_law 484 = .ok (.invokestatic 131, 3) := by decide +kernel
theorem dL_law_487 : decode cL_law 487 = .ok (.istore 5, 2) := by decide +kernel
theorem dL_law_489 : decode cL_law 489 = .ok (.aload_n 2, 1) := by decide +kernel
theorem dL_law_490 : decode cL_law 490 = .ok (.aload_n 0, 1) := by decide +kernel
theorem dL_law_491 : decode cL_law 491 = .ok (.iload 4, 2) := by decide +kernel
theorem dL_law_493 : decode cL_law 493 = .ok (.iconst 1, 1) := by decide +kernel
theorem dL_law_494 : decode cL_law 494 = .ok (.iadd, 1) := by decide +kernel
theorem dL_law_495 : decode cL_law 495 = .ok (.iaload, 1) := by decide +kernel
theorem dL_law_496 : decode cL_law 496 = .ok (.aload_n 0, 1) := by decide +kernel
theorem dL_law_497 : decode cL_law 497 = .ok (.iload 4, 2) := by decide +kernel
theorem dL_law_499 : decode cL_law 499 = .ok (.iconst 2, 1) := by decide +kernel
theorem dL_law_500 : decode cL_law 500 = .ok (.iadd, 1) := by decide +kernel
theorem dL_law_501 : decode cL_law 501 = .ok (.iaload, 1) := by decide +kernel
theorem dL_law_502 : decode cL_law 502 = .ok (.invokevirtual 134, 3) := by decide +kernel
theorem dL_law_505 : decode cL_law 505 = .ok (.istore 6, 2) := by decide +kernel
theorem dL_law_507 : decode cL_law 507 = .ok (.aload_n 2, 1) := by decide +kernel
theorem dL_law_508 : decode cL_law 508 = .ok (.invokevirtual 117, 3) := by decide +kernel
theorem dL_law_511 : decode cL_law 511 = .ok (.iload 5, 2) := by decide +kernel
theorem dL_law_513 : decode cL_law 513 = .ok (.if_icmp .eq 5, 3) := by decide +kernel
theorem dL_law_516 : decode cL_law 516 = .ok (.iconst 0, 1) := by decide +kernel
theorem dL_law_517 : decode cL_law 517 = .ok (.ireturn, 1) := by decide +kernel
theorem dL_law_518 : decode cL_law 518 = .ok (.iload 5, 2) := by decide +kernel
theorem dL_law_520 : decode cL_law 520 = .ok (.ifCond .ne 15, 3) := by decide +kernel
theorem dL_law_523 : decode cL_law 523 = .ok (.aload_n 3, 1) := by decide +kernel
theorem dL_law_524 : decode cL_law 524 = .ok (.iconst 0, 1) := by decide +kernel
theorem dL_law_525 : decode cL_law 525 = .ok (.laload, 1) := by decide +kernel
theorem dL_law_526 : decode cL_law 526 = .ok (.iload 6, 2) := by decide +kernel
theorem dL_law_528 : decode cL_law 528 = .ok (.i2l, 1) := by decide +kernel
theorem dL_law_529 : decode cL_law 529 = .ok (.lcmp, 1) := by decide +kernel
theorem dL_law_530 : decode cL_law 530 = .ok (.ifCond .eq 5, 3) := by decide +kernel
theorem dL_law_533 : decode cL_law 533 = .ok (.iconst 0, 1) := by decide +kernel
theorem dL_law_534 : decode cL_law 534 = .ok (.ireturn, 1) := by decide +kernel
theorem dL_law_535 : decode cL_law 535 = .ok (.goto 1767, 3) := by decide +kernel
theorem dL_law_538 : decode cL_law 538 = .ok (.aload_n 1, 1) := by decide +kernel
theorem dL_law_539 : decode cL_law 539 = .ok (.aload_n 0, 1) := by decide +kernel
theorem dL_law_540 : decode cL_law 540 = .ok (.iload 4, 2) := by decide +kernel
theorem dL_law_542 : decode cL_law 542 = .ok (.iconst 1, 1) := by decide +kernel
theorem dL_law_543 : decode cL_law 543 = .ok (.iadd, 1) := by decide +kernel
theorem dL_law_544 : decode cL_law 544 = .ok (.iaload, 1) := by decide +kernel
theorem dL_law_545 : decode cL_law 545 = .ok (.aload_n 0, 1) := by decide +kernel
theorem dL_law_546 : decode cL_law 546 = .ok (.iload 4, 2) := by decide +kernel
theorem dL_law_548 : decode cL_law 548 = .ok (.iconst 2, 1) := by decide +kernel
theorem dL_law_549 : decode cL_law 549 = .ok (.iadd, 1) := by decide +kernel
theorem dL_law_550 : decode cL_law 550 = .ok (.iaload, 1) := by decide +kernel
theorem dL_law_551 : decode cL_law 551 = .ok (.aload_n 3, 1) := by decide +kernel
theorem dL_law_552 : decode cL_law 552 = .ok (.invokestatic 135, 3) := by decide +kernel
theorem dL_law_555 : decode cL_law 555 = .ok (.istore 5, 2) := by decide +kernel
theorem dL_law_557 : decode cL_law 557 = .ok (.aload_n 2, 1) := by decide +kernel
theorem dL_law_558 : decode cL_law 558 = .ok (.aload_n 0, 1) := by decide +kernel
theorem dL_law_559 : decode cL_law 559 = .ok (.iload 4, 2) := by decide +kernel
theorem dL_law_561 : decode cL_law 561 = .ok (.iconst 1, 1) := by decide +kernel
theorem dL_law_562 : decode cL_law 562 = .ok (.iadd, 1) := by decide +kernel
theorem dL_law_563 : decode cL_law 563 = .ok (.iaload, 1) := by decide +kernel
theorem dL_law_564 : decode cL_law 564 = .ok (.aload_n 0, 1) := by decide +kernel
theorem dL_law_565 : decode cL_law 565 = .ok (.iload 4, 2) := by decide +kernel
theorem dL_law_567 : decode cL_law 567 = .ok (.iconst 2, 1) := by decide +kernel
theorem dL_law_568 : decode cL_law 568 = .ok (.iadd, 1) := by decide +kernel
theorem dL_law_569 : decode cL_law 569 = .ok (.iaload, 1) := by decide +kernel
theorem dL_law_570 : decode cL_law 570 = .ok (.invokevirtual 137, 3) := by decide +kernel
theorem dL_law_573 : decode cL_law 573 = .ok (.lstore 6, 2) := by decide +kernel
theorem dL_law_575 : decode cL_law 575 = .ok (.aload_n 2, 1) := by decide +kernel
theorem dL_law_576 : decode cL_law 576 = .ok (.invokevirtual 117, 3) := by decide +kernel
theorem dL_law_579 : decode cL_law 579 = .ok (.iload 5, 2) := by decide +kernel
theorem dL_law_581 : decode cL_law 581 = .ok (.if_icmp .eq 5, 3) := by decide +kernel
theorem dL_law_584 : decode cL_law 584 = .ok (.iconst 0, 1) := by decide +kernel
theorem dL_law_585 : decode cL_law 585 = .ok (.ireturn, 1) := by decide +kernel
theorem dL_law_586 : decode cL_law 586 = .ok (.iload 5, 2) := by decide +kernel
theorem dL_law_588 : decode cL_law 588 = .ok (.ifCond .ne 14, 3) := by decide +kernel
theorem dL_law_591 : decode cL_law 591 = .ok (.aload_n 3, 1) := by decide +kernel
theorem dL_law_592 : decode cL_law 592 = .ok (.iconst 0, 1) := by decide +kernel
theorem dL_law_593 : decode cL_law 593 = .ok (.laload, 1) := by decide +kernel
theorem dL_law_594 : decode cL_law 594 = .ok (.lload 6, 2) := by decide +kernel
theorem dL_law_596 : decode cL_law 596 = .ok (.lcmp, 1) := by decide +kernel
theorem dL_law_597 : decode cL_law 597 = .ok (.ifCond .eq 5, 3) := by decide +kernel
theorem dL_law_600 : decode cL_law 600 = .ok (.iconst 0, 1) := by decide +kernel
theorem dL_law_601 : decode cL_law 601 = .ok (.ireturn, 1) := by decide +kernel
theorem dL_law_602 : decode cL_law 602 = .ok (.goto 1700, 3) := by decide +kernel
theorem dL_law_605 : decode cL_law 605 = .ok (.aload_n 1, 1) := by decide +kernel
theorem dL_law_606 : decode cL_law 606 = .ok (.aload_n 0, 1) := by decide +kernel
theorem dL_law_607 : decode cL_law 607 = .ok (.iload 4, 2) := by decide +kernel
theorem dL_law_609 : decode cL_law 609 = .ok (.iconst 1, 1) := by decide +kernel
theorem dL_law_610 : decode cL_law 610 = .ok (.iadd, 1) := by decide +kernel
theorem dL_law_611 : decode cL_law 611 = .ok (.iaload, 1) := by decide +kernel
theorem dL_law_612 : decode cL_law 612 = .ok (.aload_n 0, 1) := by decide +kernel
theorem dL_law_613 : decode cL_law 613 = .ok (.iload 4, 2) := by decide +kernel
theorem dL_law_615 : decode cL_law 615 = .ok (.iconst 2, 1) := by decide +kernel
theorem dL_law_616 : decode cL_law 616 = .ok (.iadd, 1) := by decide +kernel
theorem dL_law_617 : decode cL_law 617 = .ok (.iaload, 1) := by decide +kernel
theorem dL_law_618 : decode cL_law 618 = .ok (.aload_n 3, 1) := by decide +kernel
theorem dL_law_619 : decode cL_law 619 = .ok (.invokestatic 138, 3) := by decide +kernel
theorem dL_law_622 : decode cL_law 622 = .ok (.istore 5, 2) := by decide +kernel
theorem dL_law_624 : decode cL_law 624 = .ok (.aload_n 2, 1) := by decide +kernel
theorem dL_law_625 : decode cL_law 625 = .ok (.aload_n 0, 1) := by decide +kernel
theorem dL_law_626 : decode cL_law 626 = .ok (.iload 4, 2) := by decide +kernel
theorem dL_law_628 : decode cL_law 628 = .ok (.iconst 1, 1) := by decide +kernel
theorem dL_law_629 : decode cL_law 629 = .ok (.iadd, 1) := by decide +kernel
theorem dL_law_630 : decode cL_law 630 = .ok (.iaload, 1) := by decide +kernel
theorem dL_law_631 : decode cL_law 631 = .ok (.aload_n 0, 1) := by decide +kernel
theorem dL_law_632 : decode cL_law 632 = .ok (.iload 4, 2) := by decide +kernel
theorem dL_law_634 : decode cL_law 634 = .ok (.iconst 2, 1) := by decide +kernel
theorem dL_law_635 : decode cL_law 635 = .ok (.iadd, 1) := by decide +kernel
theorem dL_law_636 : decode cL_law 636 = .ok (.iaload, 1) := by decide +kernel
theorem dL_law_637 : decode cL_law 637 = .ok (.invokevirtual 140, 3) := by decide +kernel
theorem dL_law_640 : decode cL_law 640 = .ok (.istore 6, 2) := by decide +kernel
theorem dL_law_642 : decode cL_law 642 = .ok (.aload_n 2, 1) := by decide +kernel
theorem dL_law_643 : decode cL_law 643 = .ok (.invokevirtual 117, 3) := by decide +kernel
theorem dL_law_646 : decode cL_law 646 = .ok (.iload 5, 2) := by decide +kernel
theorem dL_law_648 : decode cL_law 648 = .ok (.if_icmp .eq 5, 3) := by decide +kernel
theorem dL_law_651 : decode cL_law 651 = .ok (.iconst 0, 1) := by decide +kernel
theorem dL_law_652 : decode cL_law 652 = .ok (.ireturn, 1) := by decide +kernel
theorem dL_law_653 : decode cL_law 653 = .ok (.iload 5, 2) := by decide +kernel
theorem dL_law_655 : decode cL_law 655 = .ok (.ifCond .ne 15, 3) := by decide +kernel
theorem dL_law_658 : decode cL_law 658 = .ok (.aload_n 3, 1) := by decide +kernel
theorem dL_law_659 : decode cL_law 659 = .ok (.iconst 0, 1) := by decide +kernel
theorem dL_law_660 : decode cL_law 660 = .ok (.laload, 1) := by decide +kernel
theorem dL_law_661 : decode cL_law 661 = .ok (.iload 6, 2) := by decide +kernel
theorem dL_law_663 : decode cL_law 663 = .ok (.i2l, 1) := by decide +kernel
theorem dL_law_664 : decode cL_law 664 = .ok (.lcmp, 1) := by decide +kernel
theorem dL_law_665 : decode cL_law 665 = .ok (.ifCond .eq 5, 3) := by decide +kernel
theorem dL_law_668 : decode cL_law 668 = .ok (.iconst 0, 1) := by decide +kernel
theorem dL_law_669 : decode cL_law 669 = .ok (.ireturn, 1) := by decide +kernel
theorem dL_law_670 : decode cL_law 670 = .ok (.goto 1632, 3) := by decide +kernel
theorem dL_law_673 : decode cL_law 673 = .ok (.aload_n 1, 1) := by decide +kernel
theorem dL_law_674 : decode cL_law 674 = .ok (.aload_n 0, 1) := by decide +kernel
theorem dL_law_675 : decode cL_law 675 = .ok (.iload 4, 2) := by decide +kernel
theorem dL_law_677 : decode cL_law 677 = .ok (.iconst 1, 1) := by decide +kernel
theorem dL_law_678 : decode cL_law 678 = .ok (.iadd, 1) := by decide +kernel
theorem dL_law_679 : decode cL_law 679 = .ok (.iaload, 1) := by decide +kernel
theorem dL_law_680 : decode cL_law 680 = .ok (.aload_n 3, 1) := by decide +kernel
theorem dL_law_681 : decode cL_law 681 = .ok (.invokestatic 141, 3) := by decide +kernel
theorem dL_law_684 : decode cL_law 684 = .ok (.istore 5, 2) := by decide +kernel
theorem dL_law_686 : decode cL_law 686 = .ok (.aload_n 2, 1) := by decide +kernel
theorem dL_law_687 : decode cL_law 687 = .ok (.aload_n 0, 1) := by decide +kernel
theorem dL_law_688 : decode cL_law 688 = .ok (.iload 4, 2) := by decide +kernel
theorem dL_law_690 : decode cL_law 690 = .ok (.iconst 1, 1) := by decide +kernel
theorem dL_law_691 : decode cL_law 691 = .ok (.iadd, 1) := by decide +kernel
theorem dL_law_692 : decode cL_law 692 = .ok (.iaload, 1) := by decide +kernel
theorem dL_law_693 : decode cL_law 693 = .ok (.invokevirtual 143, 3) := by decide +kernel
theorem dL_law_696 : decode cL_law 696 = .ok (.istore 6, 2) := by decide +kernel
theorem dL_law_698 : decode cL_law 698 = .ok (.aload_n 2, 1) := by decide +kernel
theorem dL_law_699 : decode cL_law 699 = .ok (.invokevirtual 117, 3) := by decide +kernel
theorem dL_law_702 : decode cL_law 702 = .ok (.iload 5, 2) := by decide +kernel
theorem dL_law_704 : decode cL_law 704 = .ok (.if_icmp .eq 5, 3) := by decide +kernel
theorem dL_law_707 : decode cL_law 707 = .ok (.iconst 0, 1) := by decide +kernel
theorem dL_law_708 : decode cL_law 708 = .ok (.ireturn, 1) := by decide +kernel
theorem dL_law_709 : decode cL_law 709 = .ok (.iload 5, 2) := by decide +kernel
theorem dL_law_711 : decode cL_law 711 = .ok (.ifCond .ne 15, 3) := by decide +kernel
theorem dL_law_714 : decode cL_law 714 = .ok (.aload_n 3, 1) := by decide +kernel
theorem dL_law_715 : decode cL_law 715 = .ok (.iconst 0, 1) := by decide +kernel
theorem dL_law_716 : decode cL_law 716 = .ok (.laload, 1) := by decide +kernel
theorem dL_law_717 : decode cL_law 717 = .ok (.iload 6, 2) := by decide +kernel
theorem dL_law_719 : decode cL_law 719 = .ok (.i2l, 1) := by decide +kernel
theorem dL_law_720 : decode cL_law 720 = .ok (.lcmp, 1) := by decide +kernel
theorem dL_law_721 : decode cL_law 721 = .ok (.ifCond .eq 5, 3) := by decide +kernel
theorem dL_law_724 : decode cL_law 724 = .ok (.iconst 0, 1) := by decide +kernel
theorem dL_law_725 : decode cL_law 725 = .ok (.ireturn, 1) := by decide +kernel
theorem dL_law_726 : decode cL_law 726 = .ok (.goto 1576, 3) := by decide +kernel
theorem dL_law_729 : decode cL_law 729 = .ok (.aload_n 1, 1) := by decide +kernel
theorem dL_law_730 : decode cL_law 730 = .ok (.aload_n 0, 1) := by decide +kernel
theorem dL_law_731 : decode cL_law 731 = .ok (.iload 4, 2) := by decide +kernel
theorem dL_law_733 : decode cL_law 733 = .ok (.iconst 1, 1) := by decide +kernel
theorem dL_law_734 : decode cL_law 734 = .ok (.iadd, 1) := by decide +kernel
theorem dL_law_735 : decode cL_law 735 = .ok (.iaload, 1) := by decide +kernel
theorem dL_law_736 : decode cL_law 736 = .ok (.aload_n 3, 1) := by decide +kernel
theorem dL_law_737 : decode cL_law 737 = .ok (.invokestatic 144, 3) := by decide +kernel
theorem dL_law_740 : decode cL_law 740 = .ok (.istore 5, 2) := by decide +kernel
theorem dL_law_742 : decode cL_law 742 = .ok (.aload_n 2, 1) := by decide +kernel
theorem dL_law_743 : decode cL_law 743 = .ok (.aload_n 0, 1) := by decide +kernel
theorem dL_law_744 : decode cL_law 744 = .ok (.iload 4, 2) := by decide +kernel
theorem dL_law_746 : decode cL_law 746 = .ok (.iconst 1, 1) := by decide +kernel
theorem dL_law_747 : decode cL_law 747 = .ok (.iadd, 1) := by decide +kernel
theorem dL_law_748 : decode cL_law 748 = .ok (.iaload, 1) := by decide +kernel
theorem dL_law_749 : decode cL_law 749 = .ok (.invokevirtual 146, 3) := by decide +kernel
theorem dL_law_752 : decode cL_law 752 = .ok (.istore 6, 2) := by decide +kernel
theorem dL_law_754 : decode cL_law 754 = .ok (.aload_n 2, 1) := by decide +kernel
theorem dL_law_755 : decode cL_law 755 = .ok (.invokevirtual 117, 3) := by decide +kernel
theorem dL_law_758 : decode cL_law 758 = .ok (.iload 5, 2) := by decide +kernel
theorem dL_law_760 : decode cL_law 760 = .ok (.if_icmp .eq 5, 3) := by decide +kernel
theorem dL_law_763 : decode cL_law 763 = .ok (.iconst 0, 1) := by decide +kernel
theorem dL_law_764 : decode cL_law 764 = .ok (.ireturn, 1) := by decide +kernel
theorem dL_law_765 : decode cL_law 765 = .ok (.iload 5, 2) := by decide +kernel
theorem dL_law_767 : decode cL_law 767 = .ok (.ifCond .ne 15, 3) := by decide +kernel
theorem dL_law_770 : decode cL_law 770 = .ok (.aload_n 3, 1) := by decide +kernel
theorem dL_law_771 : decode cL_law 771 = .ok (.iconst 0, 1) := by decide +kernel
theorem dL_law_772 : decode cL_law 772 = .ok (.laload, 1) := by decide +kernel
theorem dL_law_773 : decode cL_law 773 = .ok (.iload 6, 2) := by decide +kernel
theorem dL_law_775 : decode cL_law 775 = .ok (.i2l, 1) := by decide +kernel
theorem dL_law_776 : decode cL_law 776 = .ok (.lcmp, 1) := by decide +kernel
theorem dL_law_777 : decode cL_law 777 = .ok (.ifCond .eq 5, 3) := by decide +kernel
theorem dL_law_780 : decode cL_law 780 = .ok (.iconst 0, 1) := by decide +kernel
theorem dL_law_781 : decode cL_law 781 = .ok (.ireturn, 1) := by decide +kernel
theorem dL_law_782 : decode cL_law 782 = .ok (.goto 1520, 3) := by decide +kernel
theorem dL_law_785 : decode cL_law 785 = .ok (.aload_n 1, 1) := by decide +kernel
theorem dL_law_786 : decode cL_law 786 = .ok (.aload_n 0, 1) := by decide +kernel
theorem dL_law_787 : decode cL_law 787 = .ok (.iload 4, 2) := by decide +kernel
theorem dL_law_789 : decode cL_law 789 = .ok (.iconst 1, 1) := by decide +kernel
theorem dL_law_790 : decode cL_law 790 = .ok (.iadd, 1) := by decide +kernel
theorem dL_law_791 : decode cL_law 791 = .ok (.iaload, 1) := by decide +kernel
theorem dL_law_792 : decode cL_law 792 = .ok (.aload_n 0, 1) := by decide +kernel
theorem dL_law_793 : decode cL_law 793 = .ok (.iload 4, 2) := by decide +kernel
theorem dL_law_795 : decode cL_law 795 = .ok (.iconst 2, 1) := by decide +kernel
theorem dL_law_796 : decode cL_law 796 = .ok (.iadd, 1) := by decide +kernel
theorem dL_law_797 : decode cL_law 797 = .ok (.iaload, 1) := by decide +kernel
theorem dL_law_798 : decode cL_law 798 = .ok (.aload_n 3, 1) := by decide +kernel
theorem dL_law_799 : decode cL_law 799 = .ok (.invokestatic 147, 3) := by decide +kernel
theorem dL_law_802 : decode cL_law 802 = .ok (.istore 5, 2) := by decide +kernel
theorem dL_law_804 : decode cL_law 804 = .ok (.aload_n 2, 1) := by decide +kernel
theorem dL_law_805 : decode cL_law 805 = .ok (.aload_n 0, 1) := by decide +kernel
theorem dL_law_806 : decode cL_law 806 = .ok (.iload 4, 2) := by decide +kernel
theorem dL_law_808 : decode cL_law 808 = .ok (.iconst 1, 1) := by decide +kernel
theorem dL_law_809 : decode cL_law 809 = .ok (.iadd, 1) := by decide +kernel
theorem dL_law_810 : decode cL_law 810 = .ok (.iaload, 1) := by decide +kernel
theorem dL_law_811 : decode cL_law 811 = .ok (.aload_n 0, 1) := by decide +kernel
theorem dL_law_812 : decode cL_law 812 = .ok (.iload 4, 2) := by decide +kernel
theorem dL_law_814 : decode cL_law 814 = .ok (.iconst 2, 1) := by decide +kernel
theorem dL_law_815 : decode cL_law 815 = .ok (.iadd, 1) := by decide +kernel
theorem dL_law_816 : decode cL_law 816 = .ok (.iaload, 1) := by decide +kernel
theorem dL_law_817 : decode cL_law 817 = .ok (.invokevirtual 149, 3) := by decide +kernel
theorem dL_law_820 : decode cL_law 820 = .ok (.istore 6, 2) := by decide +kernel
theorem dL_law_822 : decode cL_law 822 = .ok (.aload_n 2, 1) := by decide +kernel
theorem dL_law_823 : decode cL_law 823 = .ok (.invokevirtual 117, 3) := by decide +kernel
theorem dL_law_826 : decode cL_law 826 = .ok (.iload 5, 2) := by decide +kernel
theorem dL_law_828 : decode cL_law 828 = .ok (.if_icmp .eq 5, 3) := by decide +kernel
theorem dL_law_831 : decode cL_law 831 = .ok (.iconst 0, 1) := by decide +kernel
theorem dL_law_832 : decode cL_law 832 = .ok (.ireturn, 1) := by decide +kernel
theorem dL_law_833 : decode cL_law 833 = .ok (.iload 5, 2) := by decide +kernel
theorem dL_law_835 : decode cL_law 835 = .ok (.ifCond .ne 15, 3) := by decide +kernel
theorem dL_law_838 : decode cL_law 838 = .ok (.aload_n 3, 1) := by decide +kernel
theorem dL_law_839 : decode cL_law 839 = .ok (.iconst 0, 1) := by decide +kernel
theorem dL_law_840 : decode cL_law 840 = .ok (.laload, 1) := by decide +kernel
theorem dL_law_841 : decode cL_law 841 = .ok (.iload 6, 2) := by decide +kernel
theorem dL_law_843 : decode cL_law 843 = .ok (.i2l, 1) := by decide +kernel
theorem dL_law_844 : decode cL_law 844 = .ok (.lcmp, 1) := by decide +kernel
theorem dL_law_845 : decode cL_law 845 = .ok (.ifCond .eq 5, 3) := by decide +kernel
theorem dL_law_848 : decode cL_law 848 = .ok (.iconst 0, 1) := by decide +kernel
theorem dL_law_849 : decode cL_law 849 = .ok (.ireturn, 1) := by decide +kernel
theorem dL_law_850 : decode cL_law 850 = .ok (.goto 1452, 3) := by decide +kernel
theorem dL_law_853 : decode cL_law 853 = .ok (.aload_n 1, 1) := by decide +kernel
theorem dL_law_854 : decode cL_law 854 = .ok (.invokevirtual 150, 3) := by decide +kernel
theorem dL_law_857 : decode cL_law 857 = .ok (.aload_n 2, 1) := by decide +kernel
theorem dL_law_858 : decode cL_law 858 = .ok (.invokevirtual 153, 3) := by decide +kernel
theorem dL_law_861 : decode cL_law 861 = .ok (.if_icmp .eq 1441, 3) := by decide +kernel
theorem dL_law_864 : decode cL_law 864 = .ok (.iconst 0, 1) := by decide +kernel
theorem dL_law_865 : decode cL_law 865 = .ok (.ireturn, 1) := by decide +kernel
theorem dL_law_866 : decode cL_law 866 = .ok (.aload_n 1, 1) := by decide +kernel
theorem dL_law_867 : decode cL_law 867 = .ok (.aload_n 0, 1) := by decide +kernel
theorem dL_law_868 : decode cL_law 868 = .ok (.iload 4, 2) := by decide +kernel
theorem dL_law_870 : decode cL_law 870 = .ok (.iconst 1, 1) := by decide +kernel
theorem dL_law_871 : decode cL_law 871 = .ok (.iadd, 1) := by decide +kernel
theorem dL_law_872 : decode cL_law 872 = .ok (.iaload, 1) := by decide +kernel
theorem dL_law_873 : decode cL_law 873 = .ok (.aload_n 3, 1) := by decide +kernel
theorem dL_law_874 : decode cL_law 874 = .ok (.invokestatic 154, 3) := by decide +kernel
theorem dL_law_877 : decode cL_law 877 = .ok (.istore 5, 2) := by decide +kernel
theorem dL_law_879 : decode cL_law 879 = .ok (.aload_n 2, 1) := by decide +kernel
theorem dL_law_880 : decode cL_law 880 = .ok (.aload_n 0, 1) := by decide +kernel
theorem dL_law_881 : decode cL_law 881 = .ok (.iload 4, 2) := by decide +kernel
theorem dL_law_883 : decode cL_law 883 = .ok (.iconst 1, 1) := by decide +kernel
theorem dL_law_884 : decode cL_law 884 = .ok (.iadd, 1) := by decide +kernel
theorem dL_law_885 : decode cL_law 885 = .ok (.iaload, 1) := by decide +kernel
theorem dL_law_886 : decode cL_law 886 = .ok (.invokevirtual 156, 3) := by decide +kernel
theorem dL_law_889 : decode cL_law 889 = .ok (.istore 6, 2) := by decide +kernel
theorem dL_law_891 : decode cL_law 891 = .ok (.aload_n 2, 1) := by decide +kernel
theorem dL_law_892 : decode cL_law 892 = .ok (.invokevirtual 117, 3) := by decide +kernel
theorem dL_law_895 : decode cL_law 895 = .ok (.iload 5, 2) := by decide +kernel
theorem dL_law_897 : decode cL_law 897 = .ok (.if_icmp .eq 5, 3) := by decide +kernel
theorem dL_law_900 : decode cL_law 900 = .ok (.iconst 0, 1) := by decide +kernel
theorem dL_law_901 : decode cL_law 901 = .ok (.ireturn, 1) := by decide +kernel
theorem dL_law_902 : decode cL_law 902 = .ok (.iload 5, 2) := by decide +kernel
theorem dL_law_904 : decode cL_law 904 = .ok (.ifCond .ne 15, 3) := by decide +kernel
theorem dL_law_907 : decode cL_law 907 = .ok (.aload_n 3, 1) := by decide +kernel
theorem dL_law_908 : decode cL_law 908 = .ok (.iconst 0, 1) := by decide +kernel
theorem dL_law_909 : decode cL_law 909 = .ok (.laload, 1) := by decide +kernel
theorem dL_law_910 : decode cL_law 910 = .ok (.iload 6, 2) := by decide +kernel
theorem dL_law_912 : decode cL_law 912 = .ok (.i2l, 1) := by decide +kernel
theorem dL_law_913 : decode cL_law 913 = .ok (.lcmp, 1) := by decide +kernel
theorem dL_law_914 : decode cL_law 914 = .ok (.ifCond .eq 5, 3) := by decide +kernel
theorem dL_law_917 : decode cL_law 917 = .ok (.iconst 0, 1) := by decide +kernel
theorem dL_law_918 : decode cL_law 918 = .ok (.ireturn, 1) := by decide +kernel
theorem dL_law_919 : decode cL_law 919 = .ok (.goto 1383, 3) := by decide +kernel
theorem dL_law_922 : decode cL_law 922 = .ok (.aload_n 1, 1) := by decide +kernel
theorem dL_law_923 : decode cL_law 923 = .ok (.invokevirtual 157, 3) := by decide +kernel
theorem dL_law_926 : decode cL_law 926 = .ok (.aload_n 2, 1) := by decide +kernel
theorem dL_law_927 : decode cL_law 927 = .ok (.invokevirtual 160, 3) := by decide +kernel
theorem dL_law_930 : decode cL_law 930 = .ok (.if_icmp .eq 1372, 3) := by decide +kernel
theorem dL_law_933 : decode cL_law 933 = .ok (.iconst 0, 1) := by decide +kernel
theorem dL_law_934 : decode cL_law 934 = .ok (.ireturn, 1) := by decide +kernel
theorem dL_law_935 : decode cL_law 935 = .ok (.aload_n 1, 1) := by decide +kernel
theorem dL_law_936 : decode cL_law 936 = .ok (.invokevirtual 161, 3) := by decide +kernel
theorem dL_law_939 : decode cL_law 939 = .ok (.aload_n 2, 1) := by decide +kernel
theorem dL_law_940 : decode cL_law 940 = .ok (.invokevirtual 164, 3) := by decide +kernel
theorem dL_law_943 : decode cL_law 943 = .ok (.if_icmp .eq 1359, 3) := by decide +kernel
theorem dL_law_946 : decode cL_law 946 = .ok (.iconst 0, 1) := by decide +kernel
theorem dL_law_947 : decode cL_law 947 = .ok (.ireturn, 1) := by decide +kernel
theorem dL_law_948 : decode cL_law 948 = .ok (.aload_n 1, 1) := by decide +kernel
theorem dL_law_949 : decode cL_law 949 = .ok (.aload_n 0, 1) := by decide +kernel
theorem dL_law_950 : decode cL_law 950 = .ok (.iload 4, 2) := by decide +kernel
theorem dL_law_952 : decode cL_law 952 = .ok (.iconst 1, 1) := by decide +kernel
theorem dL_law_953 : decode cL_law 953 = .ok (.iadd, 1) := by decide +kernel
theorem dL_law_954 : decode cL_law 954 = .ok (.iaload, 1) := by decide +kernel
theorem dL_law_955 : decode cL_law 955 = .ok (.aload_n 0, 1) := by decide +kernel
theorem dL_law_956 : decode cL_law 956 = .ok (.iload 4, 2) := by decide +kernel
theorem dL_law_958 : decode cL_law 958 = .ok (.iconst 2, 1) := by decide +kernel
theorem dL_law_959 : decode cL_law 959 = .ok (.iadd, 1) := by decide +kernel
theorem dL_law_960 : decode cL_law 960 = .ok (.iaload, 1) := by decide +kernel
theorem dL_law_961 : decode cL_law 961 = .ok (.aload_n 3, 1) := by decide +kernel
theorem dL_law_962 : decode cL_law 962 = .ok (.invokestatic 165, 3) := by decide +kernel
theorem dL_law_965 : decode cL_law 965 = .ok (.istore 5, 2) := by decide +kernel
theorem dL_law_967 : decode cL_law 967 = .ok (.aload_n 2, 1) := by decide +kernel
theorem dL_law_968 : decode cL_law 968 = .ok (.aload_n 0, 1) := by decide +kernel
theorem dL_law_969 : decode cL_law 969 = .ok (.iload 4, 2) := by decide +kernel
theorem dL_law_971 : decode cL_law 971 = .ok (.iconst 1, 1) := by decide +kernel
theorem dL_law_972 : decode cL_law 972 = .ok (.iadd, 1) := by decide +kernel
theorem dL_law_973 : decode cL_law 973 = .ok (.iaload, 1) := by decide +kernel
theorem dL_law_974 : decode cL_law 974 = .ok (.aload_n 0, 1) := by decide +kernel
theorem dL_law_975 : decode cL_law 975 = .ok (.iload 4, 2) := by decide +kernel
theorem dL_law_977 : decode cL_law 977 = .ok (.iconst 2, 1) := by decide +kernel
theorem dL_law_978 : decode cL_law 978 = .ok (.iadd, 1) := by decide +kernel
theorem dL_law_979 : decode cL_law 979 = .ok (.iaload, 1) := by decide +kernel
theorem dL_law_980 : decode cL_law 980 = .ok (.invokevirtual 167, 3) := by decide +kernel
theorem dL_law_983 : decode cL_law 983 = .ok (.istore 6, 2) := by decide +kernel
theorem dL_law_985 : decode cL_law 985 = .ok (.aload_n 2, 1) := by decide +kernel
theorem dL_law_986 : decode cL_law 986 = .ok (.invokevirtual 117, 3) := by decide +kernel
theorem dL_law_989 : decode cL_law 989 = .ok (.iload 5, 2) := by decide +kernel
theorem dL_law_991 : decode cL_law 991 = .ok (.if_icmp .eq 5, 3) := by decide +kernel
theorem dL_law_994 : decode cL_law 994 = .ok (.iconst 0, 1) := by decide +kernel
theorem dL_law_995 : decode cL_law 995 = .ok (.ireturn, 1) := by decide +kernel
theorem dL_law_996 : decode cL_law 996 = .ok (.iload 5, 2) := by decide +kernel
theorem dL_law_998 : decode cL_law 998 = .ok (.ifCond .ne 22, 3) := by decide +kernel
theorem dL_law_1001 : decode cL_law 1001 = .ok (.aload_n 3, 1) := by decide +kernel
theorem dL_law_1002 : decode cL_law 1002 = .ok (.iconst 0, 1) := by decide +kernel
theorem dL_law_1003 : decode cL_law 1003 = .ok (.laload, 1) := by decide +kernel
theorem dL_law_1004 : decode cL_law 1004 = .ok (.iload 6, 2) := by decide +kernel
theorem dL_law_1006 : decode cL_law 1006 = .ok (.ifCond .eq 7, 3) := by decide +kernel
theorem dL_law_1009 : decode cL_law 1009 = .ok (.lconst 1, 1) := by decide +kernel
theorem dL_law_1010 : decode cL_law 1010 = .ok (.goto 4, 3) := by decide +kernel
theorem dL_law_1013 : decode cL_law 1013 = .ok (.lconst 0, 1) := by decide +kernel
theorem dL_law_1014 : decode cL_law 1014 = .ok (.lcmp, 1) := by decide +kernel
theorem dL_law_1015 : decode cL_law 1015 = .ok (.ifCond .eq 5, 3) := by decide +kernel
theorem dL_law_1018 : decode cL_law 1018 = .ok (.iconst 0, 1) := by decide +kernel
theorem dL_law_1019 : decode cL_law 1019 = .ok (.ireturn, 1) := by decide +kernel
theorem dL_law_1020 : decode cL_law 1020 = .ok (.goto 1282, 3) := by decide +kernel
theorem dL_law_1023 : decode cL_law 1023 = .ok (.aload_n 1, 1) := by decide +kernel
theorem dL_law_1024 : decode cL_law 1024 = .ok (.aload_n 0, 1) := by decide +kernel
theorem dL_law_1025 : decode cL_law 1025 = .ok (.iload 4, 2) := by decide +kernel
theorem dL_law_1027 : decode cL_law 1027 = .ok (.iconst 1, 1) := by decide +kernel
theorem dL_law_1028 : decode cL_law 1028 = .ok (.iadd, 1) := by decide +kernel
theorem dL_law_1029 : decode cL_law 1029 = .ok (.iaload, 1) := by decide +kernel
theorem dL_law_1030 : decode cL_law 1030 = .ok (.aload_n 0, 1) := by decide +kernel
theorem dL_law_1031 : decode cL_law 1031 = .ok (.iload 4, 2) := by decide +kernel
theorem dL_law_1033 : decode cL_law 1033 = .ok (.iconst 2, 1) := by decide +kernel
theorem dL_law_1034 : decode cL_law 1034 = .ok (.iadd, 1) := by decide +kernel
theorem dL_law_1035 : decode cL_law 1035 = .ok (.iaload, 1) := by decide +kernel
theorem dL_law_1036 : decode cL_law 1036 = .ok (.aload_n 3, 1) := by decide +kernel
theorem dL_law_1037 : decode cL_law 1037 = .ok (.invokestatic 168, 3) := by decide +kernel
theorem dL_law_1040 : decode cL_law 1040 = .ok (.istore 5, 2) := by decide +kernel
theorem dL_law_1042 : decode cL_law 1042 = .ok (.aload_n 2, 1) := by decide +kernel
theorem dL_law_1043 : decode cL_law 1043 = .ok (.aload_n 0, 1) := by decide +kernel
theorem dL_law_1044 : decode cL_law 1044 = .ok (.iload 4, 2) := by decide +kernel
theorem dL_law_1046 : decode cL_law 1046 = .ok (.iconst 1, 1) := by decide +kernel
theorem dL_law_1047 : decode cL_law 1047 = .ok (.iadd, 1) := by decide +kernel
theorem dL_law_1048 : decode cL_law 1048 = .ok (.iaload, 1) := by decide +kernel
theorem dL_law_1049 : decode cL_law 1049 = .ok (.aload_n 0, 1) := by decide +kernel
theorem dL_law_1050 : decode cL_law 1050 = .ok (.iload 4, 2) := by decide +kernel
theorem dL_law_1052 : decode cL_law 1052 = .ok (.iconst 2, 1) := by decide +kernel
theorem dL_law_1053 : decode cL_law 1053 = .ok (.iadd, 1) := by decide +kernel
theorem dL_law_1054 : decode cL_law 1054 = .ok (.iaload, 1) := by decide +kernel
theorem dL_law_1055 : decode cL_law 1055 = .ok (.invokevirtual 170, 3) := by decide +kernel
theorem dL_law_1058 : decode cL_law 1058 = .ok (.istore 6, 2) := by decide +kernel
theorem dL_law_1060 : decode cL_law 1060 = .ok (.aload_n 2, 1) := by decide +kernel
theorem dL_law_1061 : decode cL_law 1061 = .ok (.invokevirtual 117, 3) := by decide +kernel
theorem dL_law_1064 : decode cL_law 1064 = .ok (.iload 5, 2) := by decide +kernel
theorem dL_law_1066 : decode cL_law 1066 = .ok (.if_icmp .eq 5, 3) := by decide +kernel
theorem dL_law_1069 : decode cL_law 1069 = .ok (.iconst 0, 1) := by decide +kernel
theorem dL_law_1070 : decode cL_law 1070 = .ok (.ireturn, 1) := by decide +kernel
theorem dL_law_1071 : decode cL_law 1071 = .ok (.iload 5, 2) := by decide +kernel
theorem dL_law_1073 : decode cL_law 1073 = .ok (.ifCond .ne 15, 3) := by decide +kernel
theorem dL_law_1076 : decode cL_law 1076 = .ok (.aload_n 3, 1) := by decide +kernel
theorem dL_law_1077 : decode cL_law 1077 = .ok (.iconst 0, 1) := by decide +kernel
theorem dL_law_1078 : decode cL_law 1078 = .ok (.laload, 1) := by decide +kernel
theorem dL_law_1079 : decode cL_law 1079 = .ok (.iload 6, 2) := by decide +kernel
theorem dL_law_1081 : decode cL_law 1081 = .ok (.i2l, 1) := by decide +kernel
theorem dL_law_1082 : decode cL_law 1082 = .ok (.lcmp, 1) := by decide +kernel
theorem dL_law_1083 : decode cL_law 1083 = .ok (.ifCond .eq 5, 3) := by decide +kernel
theorem dL_law_1086 : decode cL_law 1086 = .ok (.iconst 0, 1) := by decide +kernel
theorem dL_law_1087 : decode cL_law 1087 = .ok (.ireturn, 1) := by decide +kernel
theorem dL_law_1088 : decode cL_law 1088 = .ok (.goto 1214, 3) := by decide +kernel
theorem dL_law_1091 : decode cL_law 1091 = .ok (.aload_n 1, 1) := by decide +kernel
theorem dL_law_1092 : decode cL_law 1092 = .ok (.aload_n 0, 1) := by decide +kernel
theorem dL_law_1093 : decode cL_law 1093 = .ok (.iload 4, 2) := by decide +kernel
theorem dL_law_1095 : decode cL_law 1095 = .ok (.iconst 1, 1) := by decide +kernel
theorem dL_law_1096 : decode cL_law 1096 = .ok (.iadd, 1) := by decide +kernel
theorem dL_law_1097 : decode cL_law 1097 = .ok (.iaload, 1) := by decide +kernel
theorem dL_law_1098 : decode cL_law 1098 = .ok (.aload_n 0, 1) := by decide +kernel
theorem dL_law_1099 : decode cL_law 1099 = .ok (.iload 4, 2) := by decide +kernel
theorem dL_law_1101 : decode cL_law 1101 = .ok (.iconst 2, 1) := by decide +kernel
theorem dL_law_1102 : decode cL_law 1102 = .ok (.iadd, 1) := by decide +kernel
theorem dL_law_1103 : decode cL_law 1103 = .ok (.iaload, 1) := by decide +kernel
theorem dL_law_1104 : decode cL_law 1104 = .ok (.aload_n 0, 1) := by decide +kernel
theorem dL_law_1105 : decode cL_law 1105 = .ok (.iload 4, 2) := by decide +kernel
theorem dL_law_1107 : decode cL_law 1107 = .ok (.iconst 3, 1) := by decide +kernel
theorem dL_law_1108 : decode cL_law 1108 = .ok (.iadd, 1) := by decide +kernel
theorem dL_law_1109 : decode cL_law 1109 = .ok (.iaload, 1) := by decide +kernel
theorem dL_law_1110 : decode cL_law 1110 = .ok (.aload_n 3, 1) := by decide +kernel
theorem dL_law_1111 : decode cL_law 1111 = .ok (.invokestatic 171, 3) := by decide +kernel
theorem dL_law_1114 : decode cL_law 1114 = .ok (.istore 5, 2) := by decide +kernel
theorem dL_law_1116 : decode cL_law 1116 = .ok (.aload_n 2, 1) := by decide +kernel
theorem dL_law_1117 : decode cL_law 1117 = .ok (.aload_n 0, 1) := by decide +kernel
theorem dL_law_1118 : decode cL_law 1118 = .ok (.iload 4, 2) := by decide +kernel
theorem dL_law_1120 : decode cL_law 1120 = .ok (.iconst 1, 1) := by decide +kernel
theorem dL_law_1121 : decode cL_law 1121 = .ok (.iadd, 1) := by decide +kernel
theorem dL_law_1122 : decode cL_law 1122 = .ok (.iaload, 1) := by decide +kernel
theorem dL_law_1123 : decode cL_law 1123 = .ok (.aload_n 0, 1) := by decide +kernel
theorem dL_law_1124 : decode cL_law 1124 = .ok (.iload 4, 2) := by decide +kernel
theorem dL_law_1126 : decode cL_law 1126 = .ok (.iconst 2, 1) := by decide +kernel
theorem dL_law_1127 : decode cL_law 1127 = .ok (.iadd, 1) := by decide +kernel
theorem dL_law_1128 : decode cL_law 1128 = .ok (.iaload, 1) := by decide +kernel
theorem dL_law_1129 : decode cL_law 1129 = .ok (.aload_n 0, 1) := by decide +kernel
theorem dL_law_1130 : decode cL_law 1130 = .ok (.iload 4, 2) := by decide +kernel
theorem dL_law_1132 : decode cL_law 1132 = .ok (.iconst 3, 1) := by decide +kernel
theorem dL_law_1133 : decode cL_law 1133 = .ok (.iadd, 1) := by decide +kernel
theorem dL_law_1134 : decode cL_law 1134 = .ok (.iaload, 1) := by decide +kernel
theorem dL_law_1135 : decode cL_law 1135 = .ok (.invokevirtual 174, 3) := by decide +kernel
theorem dL_law_1138 : decode cL_law 1138 = .ok (.istore 6, 2) := by decide +kernel
theorem dL_law_1140 : decode cL_law 1140 = .ok (.aload_n 2, 1) := by decide +kernel
theorem dL_law_1141 : decode cL_law 1141 = .ok (.invokevirtual 117, 3) := by decide +kernel
theorem dL_law_1144 : decode cL_law 1144 = .ok (.iload 5, 2) := by decide +kernel
theorem dL_law_1146 : decode cL_law 1146 = .ok (.if_icmp .eq 5, 3) := by decide +kernel
theorem dL_law_1149 : decode cL_law 1149 = .ok (.iconst 0, 1) := by decide +kernel
theorem dL_law_1150 : decode cL_law 1150 = .ok (.ireturn, 1) := by decide +kernel
theorem dL_law_1151 : decode cL_law 1151 = .ok (.iload 5, 2) := by decide +kernel
theorem dL_law_1153 : decode cL_law 1153 = .ok (.ifCond .ne 15, 3) := by decide +kernel
theorem dL_law_1156 : decode cL_law 1156 = .ok (.aload_n 3, 1) := by decide +kernel
theorem dL_law_1157 : decode cL_law 1157 = .ok (.iconst 0, 1) := by decide +kernel
theorem dL_law_1158 : decode cL_law 1158 = .ok (.laload, 1) := by decide +kernel
theorem dL_law_1159 : decode cL_law 1159 = .ok (.iload 6, 2) := by decide +kernel
theorem dL_law_1161 : decode cL_law 1161 = .ok (.i2l, 1) := by decide +kernel
theorem dL_law_1162 : decode cL_law 1162 = .ok (.lcmp, 1) := by decide +kernel
theorem dL_law_1163 : decode cL_law 1163 = .ok (.ifCond .eq 5, 3) := by decide +kernel
theorem dL_law_1166 : decode cL_law 1166 = .ok (.iconst 0, 1) := by decide +kernel
theorem dL_law_1167 : decode cL_law 1167 = .ok (.ireturn, 1) := by decide +kernel
theorem dL_law_1168 : decode cL_law 1168 = .ok (.goto 1134, 3) := by decide +kernel
theorem dL_law_1171 : decode cL_law 1171 = .ok (.aload_n 1, 1) := by decide +kernel
theorem dL_law_1172 : decode cL_law 1172 = .ok (.aload_n 0, 1) := by decide +kernel
theorem dL_law_1173 : decode cL_law 1173 = .ok (.iload 4, 2) := by decide +kernel
theorem dL_law_1175 : decode cL_law 1175 = .ok (.iconst 1, 1) := by decide +kernel
theorem dL_law_1176 : decode cL_law 1176 = .ok (.iadd, 1) := by decide +kernel
theorem dL_law_1177 : decode cL_law 1177 = .ok (.iaload, 1) := by decide +kernel
theorem dL_law_1178 : decode cL_law 1178 = .ok (.aload_n 0, 1) := by decide +kernel
theorem dL_law_1179 : decode cL_law 1179 = .ok (.iload 4, 2) := by decide +kernel
theorem dL_law_1181 : decode cL_law 1181 = .ok (.iconst 2, 1) := by decide +kernel
theorem dL_law_1182 : decode cL_law 1182 = .ok (.iadd, 1) := by decide +kernel
theorem dL_law_1183 : decode cL_law 1183 = .ok (.iaload, 1) := by decide +kernel
theorem dL_law_1184 : decode cL_law 1184 = .ok (.aload_n 3, 1) := by decide +kernel
theorem dL_law_1185 : decode cL_law 1185 = .ok (.invokestatic 175, 3) := by decide +kernel
theorem dL_law_1188 : decode cL_law 1188 = .ok (.istore 5, 2) := by decide +kernel
theorem dL_law_1190 : decode cL_law 1190 = .ok (.aload_n 2, 1) := by decide +kernel
theorem dL_law_1191 : decode cL_law 1191 = .ok (.aload_n 0, 1) := by decide +kernel
theorem dL_law_1192 : decode cL_law 1192 = .ok (.iload 4, 2) := by decide +kernel
theorem dL_law_1194 : decode cL_law 1194 = .ok (.iconst 1, 1) := by decide +kernel
theorem dL_law_1195 : decode cL_law 1195 = .ok (.iadd, 1) := by decide +kernel
theorem dL_law_1196 : decode cL_law 1196 = .ok (.iaload, 1) := by decide +kernel
theorem dL_law_1197 : decode cL_law 1197 = .ok (.aload_n 0, 1) := by decide +kernel
theorem dL_law_1198 : decode cL_law 1198 = .ok (.iload 4, 2) := by decide +kernel
theorem dL_law_1200 : decode cL_law 1200 = .ok (.iconst 2, 1) := by decide +kernel
theorem dL_law_1201 : decode cL_law 1201 = .ok (.iadd, 1) := by decide +kernel
theorem dL_law_1202 : decode cL_law 1202 = .ok (.iaload, 1) := by decide +kernel
theorem dL_law_1203 : decode cL_law 1203 = .ok (.invokevirtual 177, 3) := by decide +kernel
theorem dL_law_1206 : decode cL_law 1206 = .ok (.istore 6, 2) := by decide +kernel
theorem dL_law_1208 : decode cL_law 1208 = .ok (.aload_n 2, 1) := by decide +kernel
theorem dL_law_1209 : decode cL_law 1209 = .ok (.invokevirtual 117, 3) := by decide +kernel
theorem dL_law_1212 : decode cL_law 1212 = .ok (.iload 5, 2) := by decide +kernel
theorem dL_law_1214 : decode cL_law 1214 = .ok (.if_icmp .eq 5, 3) := by decide +kernel
theorem dL_law_1217 : decode cL_law 1217 = .ok (.iconst 0, 1) := by decide +kernel
theorem dL_law_1218 : decode cL_law 1218 = .ok (.ireturn, 1) := by decide +kernel
theorem dL_law_1219 : decode cL_law 1219 = .ok (.iload 5, 2) := by decide +kernel
theorem dL_law_1221 : decode cL_law 1221 = .ok (.ifCond .ne 15, 3) := by decide +kernel
theorem dL_law_1224 : decode cL_law 1224 = .ok (.aload_n 3, 1) := by decide +kernel
theorem dL_law_1225 : decode cL_law 1225 = .ok (.iconst 0, 1) := by decide +kernel
theorem dL_law_1226 : decode cL_law 1226 = .ok (.laload, 1) := by decide +kernel
theorem dL_law_1227 : decode cL_law 1227 = .ok (.iload 6, 2) := by decide +kernel
theorem dL_law_1229 : decode cL_law 1229 = .ok (.i2l, 1) := by decide +kernel
theorem dL_law_1230 : decode cL_law 1230 = .ok (.lcmp, 1) := by decide +kernel
theorem dL_law_1231 : decode cL_law 1231 = .ok (.ifCond .eq 5, 3) := by decide +kernel
theorem dL_law_1234 : decode cL_law 1234 = .ok (.iconst 0, 1) := by decide +kernel
theorem dL_law_1235 : decode cL_law 1235 = .ok (.ireturn, 1) := by decide +kernel
theorem dL_law_1236 : decode cL_law 1236 = .ok (.goto 1066, 3) := by decide +kernel
theorem dL_law_1239 : decode cL_law 1239 = .ok (.aload_n 1, 1) := by decide +kernel
theorem dL_law_1240 : decode cL_law 1240 = .ok (.aload_n 0, 1) := by decide +kernel
theorem dL_law_1241 : decode cL_law 1241 = .ok (.iload 4, 2) := by decide +kernel
theorem dL_law_1243 : decode cL_law 1243 = .ok (.iconst 1, 1) := by decide +kernel
theorem dL_law_1244 : decode cL_law 1244 = .ok (.iadd, 1) := by decide +kernel
theorem dL_law_1245 : decode cL_law 1245 = .ok (.iaload, 1) := by decide +kernel
theorem dL_law_1246 : decode cL_law 1246 = .ok (.aload_n 3, 1) := by decide +kernel
theorem dL_law_1247 : decode cL_law 1247 = .ok (.invokestatic 178, 3) := by decide +kernel
theorem dL_law_1250 : decode cL_law 1250 = .ok (.istore 5, 2) := by decide +kernel
theorem dL_law_1252 : decode cL_law 1252 = .ok (.aload_n 2, 1) := by decide +kernel
theorem dL_law_1253 : decode cL_law 1253 = .ok (.aload_n 0, 1) := by decide +kernel
theorem dL_law_1254 : decode cL_law 1254 = .ok (.iload 4, 2) := by decide +kernel
theorem dL_law_1256 : decode cL_law 1256 = .ok (.iconst 1, 1) := by decide +kernel
theorem dL_law_1257 : decode cL_law 1257 = .ok (.iadd, 1) := by decide +kernel
theorem dL_law_1258 : decode cL_law 1258 = .ok (.iaload, 1) := by decide +kernel
theorem dL_law_1259 : decode cL_law 1259 = .ok (.invokevirtual 180, 3) := by decide +kernel
theorem dL_law_1262 : decode cL_law 1262 = .ok (.istore 6, 2) := by decide +kernel
theorem dL_law_1264 : decode cL_law 1264 = .ok (.aload_n 2, 1) := by decide +kernel
theorem dL_law_1265 : decode cL_law 1265 = .ok (.invokevirtual 117, 3) := by decide +kernel
theorem dL_law_1268 : decode cL_law 1268 = .ok (.iload 5, 2) := by decide +kernel
theorem dL_law_1270 : decode cL_law 1270 = .ok (.if_icmp .eq 5, 3) := by decide +kernel
theorem dL_law_1273 : decode cL_law 1273 = .ok (.iconst 0, 1) := by decide +kernel
theorem dL_law_1274 : decode cL_law 1274 = .ok (.ireturn, 1) := by decide +kernel
theorem dL_law_1275 : decode cL_law 1275 = .ok (.iload 5, 2) := by decide +kernel
theorem dL_law_1277 : decode cL_law 1277 = .ok (.ifCond .ne 15, 3) := by decide +kernel
theorem dL_law_1280 : decode cL_law 1280 = .ok (.aload_n 3, 1) := by decide +kernel
theorem dL_law_1281 : decode cL_law 1281 = .ok (.iconst 0, 1) := by decide +kernel
theorem dL_law_1282 : decode cL_law 1282 = .ok (.laload, 1) := by decide +kernel
theorem dL_law_1283 : decode cL_law 1283 = .ok (.iload 6, 2) := by decide +kernel
theorem dL_law_1285 : decode cL_law 1285 = .ok (.i2l, 1) := by decide +kernel
theorem dL_law_1286 : decode cL_law 1286 = .ok (.lcmp, 1) := by decide +kernel
theorem dL_law_1287 : decode cL_law 1287 = .ok (.ifCond .eq 5, 3) := by decide +kernel
theorem dL_law_1290 : decode cL_law 1290 = .ok (.iconst 0, 1) := by decide +kernel
theorem dL_law_1291 : decode cL_law 1291 = .ok (.ireturn, 1) := by decide +kernel
theorem dL_law_1292 : decode cL_law 1292 = .ok (.goto 1010, 3) := by decide +kernel
theorem dL_law_1295 : decode cL_law 1295 = .ok (.aload_n 1, 1) := by decide +kernel
theorem dL_law_1296 : decode cL_law 1296 = .ok (.aload_n 0, 1) := by decide +kernel
theorem dL_law_1297 : decode cL_law 1297 = .ok (.iload 4, 2) := by decide +kernel
theorem dL_law_1299 : decode cL_law 1299 = .ok (.iconst 1, 1) := by decide +kernel
theorem dL_law_1300 : decode cL_law 1300 = .ok (.iadd, 1) := by decide +kernel
theorem dL_law_1301 : decode cL_law 1301 = .ok (.iaload, 1) := by decide +kernel
theorem dL_law_1302 : decode cL_law 1302 = .ok (.aload_n 3, 1) := by decide +kernel
theorem dL_law_1303 : decode cL_law 1303 = .ok (.invokestatic 181, 3) := by decide +kernel
theorem dL_law_1306 : decode cL_law 1306 = .ok (.istore 5, 2) := by decide +kernel
theorem dL_law_1308 : decode cL_law 1308 = .ok (.aload_n 2, 1) := by decide +kernel
theorem dL_law_1309 : decode cL_law 1309 = .ok (.aload_n 0, 1) := by decide +kernel
theorem dL_law_1310 : decode cL_law 1310 = .ok (.iload 4, 2) := by decide +kernel
theorem dL_law_1312 : decode cL_law 1312 = .ok (.iconst 1, 1) := by decide +kernel
theorem dL_law_1313 : decode cL_law 1313 = .ok (.iadd, 1) := by decide +kernel
theorem dL_law_1314 : decode cL_law 1314 = .ok (.iaload, 1) := by decide +kernel
theorem dL_law_1315 : decode cL_law 1315 = .ok (.invokevirtual 183, 3) := by decide +kernel
theorem dL_law_1318 : decode cL_law 1318 = .ok (.istore 6, 2) := by decide +kernel
theorem dL_law_1320 : decode cL_law 1320 = .ok (.aload_n 2, 1) := by decide +kernel
theorem dL_law_1321 : decode cL_law 1321 = .ok (.invokevirtual 117, 3) := by decide +kernel
theorem dL_law_1324 : decode cL_law 1324 = .ok (.iload 5, 2) := by decide +kernel
theorem dL_law_1326 : decode cL_law 1326 = .ok (.if_icmp .eq 5, 3) := by decide +kernel
theorem dL_law_1329 : decode cL_law 1329 = .ok (.iconst 0, 1) := by decide +kernel
theorem dL_law_1330 : decode cL_law 1330 = .ok (.ireturn, 1) := by decide +kernel
theorem dL_law_1331 : decode cL_law 1331 = .ok (.iload 5, 2) := by decide +kernel
theorem dL_law_1333 : decode cL_law 1333 = .ok (.ifCond .ne 15, 3) := by decide +kernel
theorem dL_law_1336 : decode cL_law 1336 = .ok (.aload_n 3, 1) := by decide +kernel
theorem dL_law_1337 : decode cL_law 1337 = .ok (.iconst 0, 1) := by decide +kernel
theorem dL_law_1338 : decode cL_law 1338 = .ok (.laload, 1) := by decide +kernel
theorem dL_law_1339 : decode cL_law 1339 = .ok (.iload 6, 2) := by decide +kernel
theorem dL_law_1341 : decode cL_law 1341 = .ok (.i2l, 1) := by decide +kernel
theorem dL_law_1342 : decode cL_law 1342 = .ok (.lcmp, 1) := by decide +kernel
theorem dL_law_1343 : decode cL_law 1343 = .ok (.ifCond .eq 5, 3) := by decide +kernel
theorem dL_law_1346 : decode cL_law 1346 = .ok (.iconst 0, 1) := by decide +kernel
theorem dL_law_1347 : decode cL_law 1347 = .ok (.ireturn, 1) := by decide +kernel
theorem dL_law_1348 : decode cL_law 1348 = .ok (.goto 954, 3) := by decide +kernel
theorem dL_law_1351 : decode cL_law 1351 = .ok (.aload_n 1, 1) := by decide +kernel
theorem dL_law_1352 : decode cL_law 1352 = .ok (.invokevirtual 184, 3) := by decide +kernel
theorem dL_law_1355 : decode cL_law 1355 = .ok (.dstore 5, 2) := by decide +kernel
theorem dL_law_1357 : decode cL_law 1357 = .ok (.aload_n 2, 1) := by decide +kernel
theorem dL_law_1358 : decode cL_law 1358 = .ok (.invokevirtual 188, 3) := by decide +kernel
theorem dL_law_1361 : decode cL_law 1361 = .ok (.dstore 7, 2) := by decide +kernel
theorem dL_law_1363 : decode cL_law 1363 = .ok (.dload 5, 2) := by decide +kernel
theorem dL_law_1365 : decode cL_law 1365 = .ok (.dload 7, 2) := by decide +kernel
theorem dL_law_1367 : decode cL_law 1367 = .ok (.dcmp .l, 1) := by decide +kernel
theorem dL_law_1368 : decode cL_law 1368 = .ok (.ifCond .eq 21, 3) := by decide +kernel
theorem dL_law_1371 : decode cL_law 1371 = .ok (.dload 5, 2) := by decide +kernel
theorem dL_law_1373 : decode cL_law 1373 = .ok (.dload 5, 2) := by decide +kernel
theorem dL_law_1375 : decode cL_law 1375 = .ok (.dcmp .l, 1) := by decide +kernel
theorem dL_law_1376 : decode cL_law 1376 = .ok (.ifCond .eq 11, 3) := by decide +kernel
theorem dL_law_1379 : decode cL_law 1379 = .ok (.dload 7, 2) := by decide +kernel
theorem dL_law_1381 : decode cL_law 1381 = .ok (.dload 7, 2) := by decide +kernel
theorem dL_law_1383 : decode cL_law 1383 = .ok (.dcmp .l, 1) := by decide +kernel
theorem dL_law_1384 : decode cL_law 1384 = .ok (.ifCond .ne 5, 3) := by decide +kernel
theorem dL_law_1387 : decode cL_law 1387 = .ok (.iconst 0, 1) := by decide +kernel
theorem dL_law_1388 : decode cL_law 1388 = .ok (.ireturn, 1) := by decide +kernel
theorem dL_law_1389 : decode cL_law 1389 = .ok (.goto 913, 3) := by decide +kernel
theorem dL_law_1392 : decode cL_law 1392 = .ok (.aload_n 1, 1) := by decide +kernel
theorem dL_law_1393 : decode cL_law 1393 = .ok (.invokevirtual 189, 3) := by decide +kernel
theorem dL_law_1396 : decode cL_law 1396 = .ok (.f2d, 1) := by decide +kernel
theorem dL_law_1397 : decode cL_law 1397 = .ok (.dstore 5, 2) := by decide +kernel
theorem dL_law_1399 : decode cL_law 1399 = .ok (.aload_n 2, 1) := by decide +kernel
theorem dL_law_1400 : decode cL_law 1400 = .ok (.invokevirtual 193, 3) := by decide +kernel
theorem dL_law_1403 : decode cL_law 1403 = .ok (.f2d, 1) := by decide +kernel
theorem dL_law_1404 : decode cL_law 1404 = .ok (.dstore 7, 2) := by decide +kernel
theorem dL_law_1406 : decode cL_law 1406 = .ok (.dload 5, 2) := by decide +kernel
theorem dL_law_1408 : decode cL_law 1408 = .ok (.dload 7, 2) := by decide +kernel
theorem dL_law_1410 : decode cL_law 1410 = .ok (.dcmp .l, 1) := by decide +kernel
theorem dL_law_1411 : decode cL_law 1411 = .ok (.ifCond .eq 21, 3) := by decide +kernel
theorem dL_law_1414 : decode cL_law 1414 = .ok (.dload 5, 2) := by decide +kernel
theorem dL_law_1416 : decode cL_law 1416 = .ok (.dload 5, 2) := by decide +kernel
theorem dL_law_1418 : decode cL_law 1418 = .ok (.dcmp .l, 1) := by decide +kernel
theorem dL_law_1419 : decode cL_law 1419 = .ok (.ifCond .eq 11, 3) := by decide +kernel
theorem dL_law_1422 : decode cL_law 1422 = .ok (.dload 7, 2) := by decide +kernel
theorem dL_law_1424 : decode cL_law 1424 = .ok (.dload 7, 2) := by decide +kernel
theorem dL_law_1426 : decode cL_law 1426 = .ok (.dcmp .l, 1) := by decide +kernel
theorem dL_law_1427 : decode cL_law 1427 = .ok (.ifCond .ne 5, 3) := by decide +kernel
theorem dL_law_1430 : decode cL_law 1430 = .ok (.iconst 0, 1) := by decide +kernel
theorem dL_law_1431 : decode cL_law 1431 = .ok (.ireturn, 1) := by decide +kernel
theorem dL_law_1432 : decode cL_law 1432 = .ok (.goto 870, 3) := by decide +kernel
theorem dL_law_1435 : decode cL_law 1435 = .ok (.aload_n 1, 1) := by decide +kernel
theorem dL_law_1436 : decode cL_law 1436 = .ok (.aload_n 0, 1) := by decide +kernel
theorem dL_law_1437 : decode cL_law 1437 = .ok (.iload 4, 2) := by decide +kernel
theorem dL_law_1439 : decode cL_law 1439 = .ok (.iconst 1, 1) := by decide +kernel
theorem dL_law_1440 : decode cL_law 1440 = .ok (.iadd, 1) := by decide +kernel
theorem dL_law_1441 : decode cL_law 1441 = .ok (.iaload, 1) := by decide +kernel
theorem dL_law_1442 : decode cL_law 1442 = .ok (.aload_n 0, 1) := by decide +kernel
theorem dL_law_1443 : decode cL_law 1443 = .ok (.iload 4, 2) := by decide +kernel
theorem dL_law_1445 : decode cL_law 1445 = .ok (.iconst 2, 1) := by decide +kernel
theorem dL_law_1446 : decode cL_law 1446 = .ok (.iadd, 1) := by decide +kernel
theorem dL_law_1447 : decode cL_law 1447 = .ok (.iaload, 1) := by decide +kernel
theorem dL_law_1448 : decode cL_law 1448 = .ok (.aload_n 3, 1) := by decide +kernel
theorem dL_law_1449 : decode cL_law 1449 = .ok (.invokestatic 194, 3) := by decide +kernel
theorem dL_law_1452 : decode cL_law 1452 = .ok (.istore 5, 2) := by decide +kernel
theorem dL_law_1454 : decode cL_law 1454 = .ok (.aload_n 2, 1) := by decide +kernel
theorem dL_law_1455 : decode cL_law 1455 = .ok (.aload_n 0, 1) := by decide +kernel
theorem dL_law_1456 : decode cL_law 1456 = .ok (.iload 4, 2) := by decide +kernel
theorem dL_law_1458 : decode cL_law 1458 = .ok (.iconst 1, 1) := by decide +kernel
theorem dL_law_1459 : decode cL_law 1459 = .ok (.iadd, 1) := by decide +kernel
theorem dL_law_1460 : decode cL_law 1460 = .ok (.iaload, 1) := by decide +kernel
theorem dL_law_1461 : decode cL_law 1461 = .ok (.aload_n 0, 1) := by decide +kernel
theorem dL_law_1462 : decode cL_law 1462 = .ok (.iload 4, 2) := by decide +kernel
theorem dL_law_1464 : decode cL_law 1464 = .ok (.iconst 2, 1) := by decide +kernel
theorem dL_law_1465 : decode cL_law 1465 = .ok (.iadd, 1) := by decide +kernel
theorem dL_law_1466 : decode cL_law 1466 = .ok (.iaload, 1) := by decide +kernel
theorem dL_law_1467 : decode cL_law 1467 = .ok (.invokevirtual 196, 3) := by decide +kernel
theorem dL_law_1470 : decode cL_law 1470 = .ok (.istore 6, 2) := by decide +kernel
theorem dL_law_1472 : decode cL_law 1472 = .ok (.aload_n 2, 1) := by decide +kernel
theorem dL_law_1473 : decode cL_law 1473 = .ok (.invokevirtual 117, 3) := by decide +kernel
theorem dL_law_1476 : decode cL_law 1476 = .ok (.iload 5, 2) := by decide +kernel
theorem dL_law_1478 : decode cL_law 1478 = .ok (.if_icmp .eq 5, 3) := by decide +kernel
theorem dL_law_1481 : decode cL_law 1481 = .ok (.iconst 0, 1) := by decide +kernel
theorem dL_law_1482 : decode cL_law 1482 = .ok (.ireturn, 1) := by decide +kernel
theorem dL_law_1483 : decode cL_law 1483 = .ok (.iload 5, 2) := by decide +kernel
theorem dL_law_1485 : decode cL_law 1485 = .ok (.ifCond .ne 15, 3) := by decide +kernel
theorem dL_law_1488 : decode cL_law 1488 = .ok (.aload_n 3, 1) := by decide +kernel
theorem dL_law_1489 : decode cL_law 1489 = .ok (.iconst 0, 1) := by decide +kernel
theorem dL_law_1490 : decode cL_law 1490 = .ok (.laload, 1) := by decide +kernel
theorem dL_law_1491 : decode cL_law 1491 = .ok (.iload 6, 2) := by decide +kernel
theorem dL_law_1493 : decode cL_law 1493 = .ok (.i2l, 1) := by decide +kernel
theorem dL_law_1494 : decode cL_law 1494 = .ok (.lcmp, 1) := by decide +kernel
theorem dL_law_1495 : decode cL_law 1495 = .ok (.ifCond .eq 5, 3) := by decide +kernel
theorem dL_law_1498 : decode cL_law 1498 = .ok (.iconst 0, 1) := by decide +kernel
theorem dL_law_1499 : decode cL_law 1499 = .ok (.ireturn, 1) := by decide +kernel
theorem dL_law_1500 : decode cL_law 1500 = .ok (.goto 802, 3) := by decide +kernel
theorem dL_law_1503 : decode cL_law 1503 = .ok (.aload_n 1, 1) := by decide +kernel
theorem dL_law_1504 : decode cL_law 1504 = .ok (.aload_n 0, 1) := by decide +kernel
theorem dL_law_1505 : decode cL_law 1505 = .ok (.iload 4, 2) := by decide +kernel
theorem dL_law_1507 : decode cL_law 1507 = .ok (.iconst 1, 1) := by decide +kernel
theorem dL_law_1508 : decode cL_law 1508 = .ok (.iadd, 1) := by decide +kernel
theorem dL_law_1509 : decode cL_law 1509 = .ok (.iaload, 1) := by decide +kernel
theorem dL_law_1510 : decode cL_law 1510 = .ok (.aload_n 3, 1) := by decide +kernel
theorem dL_law_1511 : decode cL_law 1511 = .ok (.invokestatic 197, 3) := by decide +kernel
theorem dL_law_1514 : decode cL_law 1514 = .ok (.istore 5, 2) := by decide +kernel
theorem dL_law_1516 : decode cL_law 1516 = .ok (.aload_n 2, 1) := by decide +kernel
theorem dL_law_1517 : decode cL_law 1517 = .ok (.aload_n 0, 1) := by decide +kernel
theorem dL_law_1518 : decode cL_law 1518 = .ok (.iload 4, 2) := by decide +kernel
theorem dL_law_1520 : decode cL_law 1520 = .ok (.iconst 1, 1) := by decide +kernel
theorem dL_law_1521 : decode cL_law 1521 = .ok (.iadd, 1) := by decide +kernel
theorem dL_law_1522 : decode cL_law 1522 = .ok (.iaload, 1) := by decide +kernel
theorem dL_law_1523 : decode cL_law 1523 = .ok (.invokevirtual 199, 3) := by decide +kernel
theorem dL_law_1526 : decode cL_law 1526 = .ok (.istore 6, 2) := by decide +kernel
theorem dL_law_1528 : decode cL_law 1528 = .ok (.aload_n 2, 1) := by decide +kernel
theorem dL_law_1529 : decode cL_law 1529 = .ok (.invokevirtual 117, 3) := by decide +kernel
theorem dL_law_1532 : decode cL_law 1532 = .ok (.iload 5, 2) := by decide +kernel
theorem dL_law_1534 : decode cL_law 1534 = .ok (.if_icmp .eq 5, 3) := by decide +kernel
theorem dL_law_1537 : decode cL_law 1537 = .ok (.iconst 0, 1) := by decide +kernel
theorem dL_law_1538 : decode cL_law 1538 = .ok (.ireturn, 1) := by decide +kernel
theorem dL_law_1539 : decode cL_law 1539 = .ok (.iload 5, 2) := by decide +kernel
theorem dL_law_1541 : decode cL_law 1541 = .ok (.ifCond .ne 15, 3) := by decide +kernel
theorem dL_law_1544 : decode cL_law 1544 = .ok (.aload_n 3, 1) := by decide +kernel
theorem dL_law_1545 : decode cL_law 1545 = .ok (.iconst 0, 1) := by decide +kernel
theorem dL_law_1546 : decode cL_law 1546 = .ok (.laload, 1) := by decide +kernel
theorem dL_law_1547 : decode cL_law 1547 = .ok (.iload 6, 2) := by decide +kernel
theorem dL_law_1549 : decode cL_law 1549 = .ok (.i2l, 1) := by decide +kernel
theorem dL_law_1550 : decode cL_law 1550 = .ok (.lcmp, 1) := by decide +kernel
theorem dL_law_1551 : decode cL_law 1551 = .ok (.ifCond .eq 5, 3) := by decide +kernel
theorem dL_law_1554 : decode cL_law 1554 = .ok (.iconst 0, 1) := by decide +kernel
theorem dL_law_1555 : decode cL_law 1555 = .ok (.ireturn, 1) := by decide +kernel
theorem dL_law_1556 : decode cL_law 1556 = .ok (.goto 746, 3) := by decide +kernel
theorem dL_law_1559 : decode cL_law 1559 = .ok (.aload_n 1, 1) := by decide +kernel
theorem dL_law_1560 : decode cL_law 1560 = .ok (.aload_n 0, 1) := by decide +kernel
theorem dL_law_1561 : decode cL_law 1561 = .ok (.iload 4, 2) := by decide +kernel
theorem dL_law_1563 : decode cL_law 1563 = .ok (.iconst 1, 1) := by decide +kernel
theorem dL_law_1564 : decode cL_law 1564 = .ok (.iadd, 1) := by decide +kernel
theorem dL_law_1565 : decode cL_law 1565 = .ok (.iaload, 1) := by decide +kernel
theorem dL_law_1566 : decode cL_law 1566 = .ok (.aload_n 0, 1) := by decide +kernel
theorem dL_law_1567 : decode cL_law 1567 = .ok (.iload 4, 2) := by decide +kernel
theorem dL_law_1569 : decode cL_law 1569 = .ok (.iconst 2, 1) := by decide +kernel
theorem dL_law_1570 : decode cL_law 1570 = .ok (.iadd, 1) := by decide +kernel
theorem dL_law_1571 : decode cL_law 1571 = .ok (.iaload, 1) := by decide +kernel
theorem dL_law_1572 : decode cL_law 1572 = .ok (.aload_n 0, 1) := by decide +kernel
theorem dL_law_1573 : decode cL_law 1573 = .ok (.iload 4, 2) := by decide +kernel
theorem dL_law_1575 : decode cL_law 1575 = .ok (.iconst 3, 1) := by decide +kernel
theorem dL_law_1576 : decode cL_law 1576 = .ok (.iadd, 1) := by decide +kernel
theorem dL_law_1577 : decode cL_law 1577 = .ok (.iaload, 1) := by decide +kernel
theorem dL_law_1578 : decode cL_law 1578 = .ok (.aload_n 3, 1) := by decide +kernel
theorem dL_law_1579 : decode cL_law 1579 = .ok (.invokestatic 200, 3) := by decide +kernel
theorem dL_law_1582 : decode cL_law 1582 = .ok (.istore 5, 2) := by decide +kernel
theorem dL_law_1584 : decode cL_law 1584 = .ok (.aload_n 2, 1) := by decide +kernel
theorem dL_law_1585 : decode cL_law 1585 = .ok (.aload_n 0, 1) := by decide +kernel
theorem dL_law_1586 : decode cL_law 1586 = .ok (.iload 4, 2) := by decide +kernel
theorem dL_law_1588 : decode cL_law 1588 = .ok (.iconst 1, 1) := by decide +kernel
theorem dL_law_1589 : decode cL_law 1589 = .ok (.iadd, 1) := by decide +kernel
theorem dL_law_1590 : decode cL_law 1590 = .ok (.iaload, 1) := by decide +kernel
theorem dL_law_1591 : decode cL_law 1591 = .ok (.aload_n 0, 1) := by decide +kernel
theorem dL_law_1592 : decode cL_law 1592 = .ok (.iload 4, 2) := by decide +kernel
theorem dL_law_1594 : decode cL_law 1594 = .ok (.iconst 2, 1) := by decide +kernel
theorem dL_law_1595 : decode cL_law 1595 = .ok (.iadd, 1) := by decide +kernel
theorem dL_law_1596 : decode cL_law 1596 = .ok (.iaload, 1) := by decide +kernel
theorem dL_law_1597 : decode cL_law 1597 = .ok (.aload_n 0, 1) := by decide +kernel
theorem dL_law_1598 : decode cL_law 1598 = .ok (.iload 4, 2) := by decide +kernel
theorem dL_law_1600 : decode cL_law 1600 = .ok (.iconst 3, 1) := by decide +kernel
theorem dL_law_1601 : decode cL_law 1601 = .ok (.iadd, 1) := by decide +kernel
theorem dL_law_1602 : decode cL_law 1602 = .ok (.iaload, 1) := by decide +kernel
theorem dL_law_1603 : decode cL_law 1603 = .ok (.invokevirtual 202, 3) := by decide +kernel
theorem dL_law_1606 : decode cL_law 1606 = .ok (.istore 6, 2) := by decide +kernel
theorem dL_law_1608 : decode cL_law 1608 = .ok (.aload_n 2, 1) := by decide +kernel
theorem dL_law_1609 : decode cL_law 1609 = .ok (.invokevirtual 117, 3) := by decide +kernel
theorem dL_law_1612 : decode cL_law 1612 = .ok (.iload 5, 2) := by decide +kernel
theorem dL_law_1614 : decode cL_law 1614 = .ok (.if_icmp .eq 5, 3) := by decide +kernel
theorem dL_law_1617 : decode cL_law 1617 = .ok (.iconst 0, 1) := by decide +kernel
theorem dL_law_1618 : decode cL_law 1618 = .ok (.ireturn, 1) := by decide +kernel
theorem dL_law_1619 : decode cL_law 1619 = .ok (.iload 5, 2) := by decide +kernel
theorem dL_law_1621 : decode cL_law 1621 = .ok (.ifCond .ne 15, 3) := by decide +kernel
theorem dL_law_1624 : decode cL_law 1624 = .ok (.aload_n 3, 1) := by decide +kernel
theorem dL_law_1625 : decode cL_law 1625 = .ok (.iconst 0, 1) := by decide +kernel
theorem dL_law_1626 : decode cL_law 1626 = .ok (.laload, 1) := by decide +kernel
theorem dL_law_1627 : decode cL_law 1627 = .ok (.iload 6, 2) := by decide +kernel
theorem dL_law_1629 : decode cL_law 1629 = .ok (.i2l, 1) := by decide +kernel
theorem dL_law_1630 : decode cL_law 1630 = .ok (.lcmp, 1) := by decide +kernel
theorem dL_law_1631 : decode cL_law 1631 = .ok (.ifCond .eq 5, 3) := by decide +kernel
theorem dL_law_1634 : decode cL_law 1634 = .ok (.iconst 0, 1) := by decide +kernel
theorem dL_law_1635 : decode cL_law 1635 = .ok (.ireturn, 1) := by decide +kernel
theorem dL_law_1636 : decode cL_law 1636 = .ok (.goto 666, 3) := by decide +kernel
theorem dL_law_1639 : decode cL_law 1639 = .ok (.aload_n 1, 1) := by decide +kernel
theorem dL_law_1640 : decode cL_law 1640 = .ok (.aload_n 0, 1) := by decide +kernel
theorem dL_law_1641 : decode cL_law 1641 = .ok (.iload 4, 2) := by decide +kernel
theorem dL_law_1643 : decode cL_law 1643 = .ok (.iconst 1, 1) := by decide +kernel
theorem dL_law_1644 : decode cL_law 1644 = .ok (.iadd, 1) := by decide +kernel
theorem dL_law_1645 : decode cL_law 1645 = .ok (.iaload, 1) := by decide +kernel
theorem dL_law_1646 : decode cL_law 1646 = .ok (.aload_n 0, 1) := by decide +kernel
theorem dL_law_1647 : decode cL_law 1647 = .ok (.iload 4, 2) := by decide +kernel
theorem dL_law_1649 : decode cL_law 1649 = .ok (.iconst 2, 1) := by decide +kernel
theorem dL_law_1650 : decode cL_law 1650 = .ok (.iadd, 1) := by decide +kernel
theorem dL_law_1651 : decode cL_law 1651 = .ok (.iaload, 1) := by decide +kernel
theorem dL_law_1652 : decode cL_law 1652 = .ok (.aload_n 3, 1) := by decide +kernel
theorem dL_law_1653 : decode cL_law 1653 = .ok (.invokestatic 203, 3) := by decide +kernel
theorem dL_law_1656 : decode cL_law 1656 = .ok (.istore 5, 2) := by decide +kernel
theorem dL_law_1658 : decode cL_law 1658 = .ok (.aload_n 2, 1) := by decide +kernel
theorem dL_law_1659 : decode cL_law 1659 = .ok (.aload_n 0, 1) := by decide +kernel
theorem dL_law_1660 : decode cL_law 1660 = .ok (.iload 4, 2) := by decide +kernel
theorem dL_law_1662 : decode cL_law 1662 = .ok (.iconst 1, 1) := by decide +kernel
theorem dL_law_1663 : decode cL_law 1663 = .ok (.iadd, 1) := by decide +kernel
theorem dL_law_1664 : decode cL_law 1664 = .ok (.iaload, 1) := by decide +kernel
theorem dL_law_1665 : decode cL_law 1665 = .ok (.aload_n 0, 1) := by decide +kernel
theorem dL_law_1666 : decode cL_law 1666 = .ok (.iload 4, 2) := by decide +kernel
theorem dL_law_1668 : decode cL_law 1668 = .ok (.iconst 2, 1) := by decide +kernel
theorem dL_law_1669 : decode cL_law 1669 = .ok (.iadd, 1) := by decide +kernel
theorem dL_law_1670 : decode cL_law 1670 = .ok (.iaload, 1) := by decide +kernel
theorem dL_law_1671 : decode cL_law 1671 = .ok (.invokevirtual 205, 3) := by decide +kernel
theorem dL_law_1674 : decode cL_law 1674 = .ok (.istore 6, 2) := by decide +kernel
theorem dL_law_1676 : decode cL_law 1676 = .ok (.aload_n 2, 1) := by decide +kernel
theorem dL_law_1677 : decode cL_law 1677 = .ok (.invokevirtual 117, 3) := by decide +kernel
theorem dL_law_1680 : decode cL_law 1680 = .ok (.iload 5, 2) := by decide +kernel
theorem dL_law_1682 : decode cL_law 1682 = .ok (.if_icmp .eq 5, 3) := by decide +kernel
theorem dL_law_1685 : decode cL_law 1685 = .ok (.iconst 0, 1) := by decide +kernel
theorem dL_law_1686 : decode cL_law 1686 = .ok (.ireturn, 1) := by decide +kernel
theorem dL_law_1687 : decode cL_law 1687 = .ok (.iload 5, 2) := by decide +kernel
theorem dL_law_1689 : decode cL_law 1689 = .ok (.ifCond .ne 15, 3) := by decide +kernel
theorem dL_law_1692 : decode cL_law 1692 = .ok (.aload_n 3, 1) := by decide +kernel
theorem dL_law_1693 : decode cL_law 1693 = .ok (.iconst 0, 1) := by decide +kernel
theorem dL_law_1694 : decode cL_law 1694 = .ok (.laload, 1) := by decide +kernel
theorem dL_law_1695 : decode cL_law 1695 = .ok (.iload 6, 2) := by decide +kernel
theorem dL_law_1697 : decode cL_law 1697 = .ok (.i2l, 1) := by decide +kernel
theorem dL_law_1698 : decode cL_law 1698 = .ok (.lcmp, 1) := by decide +kernel
theorem dL_law_1699 : decode cL_law 1699 = .ok (.ifCond .eq 5, 3) := by decide +kernel
theorem dL_law_1702 : decode cL_law 1702 = .ok (.iconst 0, 1) := by decide +kernel
theorem dL_law_1703 : decode cL_law 1703 = .ok (.ireturn, 1) := by decide +kernel
theorem dL_law_1704 : decode cL_law 1704 = .ok (.goto 598, 3) := by decide +kernel
theorem dL_law_1707 : decode cL_law 1707 = .ok (.aload_n 1, 1) := by decide +kernel
theorem dL_law_1708 : decode cL_law 1708 = .ok (.aload_n 0, 1) := by decide +kernel
theorem dL_law_1709 : decode cL_law 1709 = .ok (.iload 4, 2) := by decide +kernel
theorem dL_law_1711 : decode cL_law 1711 = .ok (.iconst 1, 1) := by decide +kernel
theorem dL_law_1712 : decode cL_law 1712 = .ok (.iadd, 1) := by decide +kernel
theorem dL_law_1713 : decode cL_law 1713 = .ok (.iaload, 1) := by decide +kernel
theorem dL_law_1714 : decode cL_law 1714 = .ok (.aload_n 3, 1) := by decide +kernel
theorem dL_law_1715 : decode cL_law 1715 = .ok (.invokestatic 206, 3) := by decide +kernel
theorem dL_law_1718 : decode cL_law 1718 = .ok (.istore 5, 2) := by decide +kernel
theorem dL_law_1720 : decode cL_law 1720 = .ok (.aload_n 2, 1) := by decide +kernel
theorem dL_law_1721 : decode cL_law 1721 = .ok (.aload_n 0, 1) := by decide +kernel
theorem dL_law_1722 : decode cL_law 1722 = .ok (.iload 4, 2) := by decide +kernel
theorem dL_law_1724 : decode cL_law 1724 = .ok (.iconst 1, 1) := by decide +kernel
theorem dL_law_1725 : decode cL_law 1725 = .ok (.iadd, 1) := by decide +kernel
theorem dL_law_1726 : decode cL_law 1726 = .ok (.iaload, 1) := by decide +kernel
theorem dL_law_1727 : decode cL_law 1727 = .ok (.invokevirtual 208, 3) := by decide +kernel
theorem dL_law_1730 : decode cL_law 1730 = .ok (.istore 6, 2) := by decide +kernel
theorem dL_law_1732 : decode cL_law 1732 = .ok (.aload_n 2, 1) := by decide +kernel
theorem dL_law_1733 : decode cL_law 1733 = .ok (.invokevirtual 117, 3) := by decide +kernel
theorem dL_law_1736 : decode cL_law 1736 = .ok (.iload 5, 2) := by decide +kernel
theorem dL_law_1738 : decode cL_law 1738 = .ok (.if_icmp .eq 5, 3) := by decide +kernel
theorem dL_law_1741 : decode cL_law 1741 = .ok (.iconst 0, 1) := by decide +kernel
theorem dL_law_1742 : decode cL_law 1742 = .ok (.ireturn, 1) := by decide +kernel
theorem dL_law_1743 : decode cL_law 1743 = .ok (.iload 5, 2) := by decide +kernel
theorem dL_law_1745 : decode cL_law 1745 = .ok (.ifCond .ne 15, 3) := by decide +kernel
theorem dL_law_1748 : decode cL_law 1748 = .ok (.aload_n 3, 1) := by decide +kernel
theorem dL_law_1749 : decode cL_law 1749 = .ok (.iconst 0, 1) := by decide +kernel
theorem dL_law_1750 : decode cL_law 1750 = .ok (.laload, 1) := by decide +kernel
theorem dL_law_1751 : decode cL_law 1751 = .ok (.iload 6, 2) := by decide +kernel
theorem dL_law_1753 : decode cL_law 1753 = .ok (.i2l, 1) := by decide +kernel
theorem dL_law_1754 : decode cL_law 1754 = .ok (.lcmp, 1) := by decide +kernel
theorem dL_law_1755 : decode cL_law 1755 = .ok (.ifCond .eq 5, 3) := by decide +kernel
theorem dL_law_1758 : decode cL_law 1758 = .ok (.iconst 0, 1) := by decide +kernel
theorem dL_law_1759 : decode cL_law 1759 = .ok (.ireturn, 1) := by decide +kernel
theorem dL_law_1760 : decode cL_law 1760 = .ok (.goto 542, 3) := by decide +kernel
theorem dL_law_1763 : decode cL_law 1763 = .ok (.aload_n 1, 1) := by decide +kernel
theorem dL_law_1764 : decode cL_law 1764 = .ok (.aload_n 0, 1) := by decide +kernel
theorem dL_law_1765 : decode cL_law 1765 = .ok (.iload 4, 2) := by decide +kernel
theorem dL_law_1767 : decode cL_law 1767 = .ok (.iconst 1, 1) := by decide +kernel
theorem dL_law_1768 : decode cL_law 1768 = .ok (.iadd, 1) := by decide +kernel
theorem dL_law_1769 : decode cL_law 1769 = .ok (.iaload, 1) := by decide +kernel
theorem dL_law_1770 : decode cL_law 1770 = .ok (.aload_n 0, 1) := by decide +kernel
theorem dL_law_1771 : decode cL_law 1771 = .ok (.iload 4, 2) := by decide +kernel
theorem dL_law_1773 : decode cL_law 1773 = .ok (.iconst 2, 1) := by decide +kernel
theorem dL_law_1774 : decode cL_law 1774 = .ok (.iadd, 1) := by decide +kernel
theorem dL_law_1775 : decode cL_law 1775 = .ok (.iaload, 1) := by decide +kernel
theorem dL_law_1776 : decode cL_law 1776 = .ok (.aload_n 3, 1) := by decide +kernel
theorem dL_law_1777 : decode cL_law 1777 = .ok (.invokestatic 209, 3) := by decide +kernel
theorem dL_law_1780 : decode cL_law 1780 = .ok (.istore 5, 2) := by decide +kernel
theorem dL_law_1782 : decode cL_law 1782 = .ok (.aload_n 2, 1) := by decide +kernel
theorem dL_law_1783 : decode cL_law 1783 = .ok (.aload_n 0, 1) := by decide +kernel
theorem dL_law_1784 : decode cL_law 1784 = .ok (.iload 4, 2) := by decide +kernel
theorem dL_law_1786 : decode cL_law 1786 = .ok (.iconst 1, 1) := by decide +kernel
theorem dL_law_1787 : decode cL_law 1787 = .ok (.iadd, 1) := by decide +kernel
theorem dL_law_1788 : decode cL_law 1788 = .ok (.iaload, 1) := by decide +kernel
theorem dL_law_1789 : decode cL_law 1789 = .ok (.aload_n 0, 1) := by decide +kernel
theorem dL_law_1790 : decode cL_law 1790 = .ok (.iload 4, 2) := by decide +kernel
theorem dL_law_1792 : decode cL_law 1792 = .ok (.iconst 2, 1) := by decide +kernel
theorem dL_law_1793 : decode cL_law 1793 = .ok (.iadd, 1) := by decide +kernel
theorem dL_law_1794 : decode cL_law 1794 = .ok (.iaload, 1) := by decide +kernel
theorem dL_law_1795 : decode cL_law 1795 = .ok (.invokevirtual 211, 3) := by decide +kernel
theorem dL_law_1798 : decode cL_law 1798 = .ok (.istore 6, 2) := by decide +kernel
theorem dL_law_1800 : decode cL_law 1800 = .ok (.aload_n 2, 1) := by decide +kernel
theorem dL_law_1801 : decode cL_law 1801 = .ok (.invokevirtual 117, 3) := by decide +kernel
theorem dL_law_1804 : decode cL_law 1804 = .ok (.iload 5, 2) := by decide +kernel
theorem dL_law_1806 : decode cL_law 1806 = .ok (.if_icmp .eq 5, 3) := by decide +kernel
theorem dL_law_1809 : decode cL_law 1809 = .ok (.iconst 0, 1) := by decide +kernel
theorem dL_law_1810 : decode cL_law 1810 = .ok (.ireturn, 1) := by decide +kernel
theorem dL_law_1811 : decode cL_law 1811 = .ok (.iload 5, 2) := by decide +kernel
theorem dL_law_1813 : decode cL_law 1813 = .ok (.ifCond .ne 15, 3) := by decide +kernel
theorem dL_law_1816 : decode cL_law 1816 = .ok (.aload_n 3, 1) := by decide +kernel
theorem dL_law_1817 : decode cL_law 1817 = .ok (.iconst 0, 1) := by decide +kernel
theorem dL_law_1818 : decode cL_law 1818 = .ok (.laload, 1) := by decide +kernel
theorem dL_law_1819 : decode cL_law 1819 = .ok (.iload 6, 2) := by decide +kernel
theorem dL_law_1821 : decode cL_law 1821 = .ok (.i2l, 1) := by decide +kernel
theorem dL_law_1822 : decode cL_law 1822 = .ok (.lcmp, 1) := by decide +kernel
theorem dL_law_1823 : decode cL_law 1823 = .ok (.ifCond .eq 5, 3) := by decide +kernel
theorem dL_law_1826 : decode cL_law 1826 = .ok (.iconst 0, 1) := by decide +kernel
theorem dL_law_1827 : decode cL_law 1827 = .ok (.ireturn, 1) := by decide +kernel
theorem dL_law_1828 : decode cL_law 1828 = .ok (.goto 474, 3) := by decide +kernel
theorem dL_law_1831 : decode cL_law 1831 = .ok (.aload_n 1, 1) := by decide +kernel
theorem dL_law_1832 : decode cL_law 1832 = .ok (.aload_n 0, 1) := by decide +kernel
theorem dL_law_1833 : decode cL_law 1833 = .ok (.iload 4, 2) := by decide +kernel
theorem dL_law_1835 : decode cL_law 1835 = .ok (.iconst 1, 1) := by decide +kernel
theorem dL_law_1836 : decode cL_law 1836 = .ok (.iadd, 1) := by decide +kernel
theorem dL_law_1837 : decode cL_law 1837 = .ok (.iaload, 1) := by decide +kernel
theorem dL_law_1838 : decode cL_law 1838 = .ok (.aload_n 3, 1) := by decide +kernel
theorem dL_law_1839 : decode cL_law 1839 = .ok (.invokestatic 212, 3) := by decide +kernel
theorem dL_law_1842 : decode cL_law 1842 = .ok (.istore 5, 2) := by decide +kernel
theorem dL_law_1844 : decode cL_law 1844 = .ok (.aload_n 2, 1) := by decide +kernel
theorem dL_law_1845 : decode cL_law 1845 = .ok (.aload_n 0, 1) := by decide +kernel
theorem dL_law_1846 : decode cL_law 1846 = .ok (.iload 4, 2) := by decide +kernel
theorem dL_law_1848 : decode cL_law 1848 = .ok (.iconst 1, 1) := by decide +kernel
theorem dL_law_1849 : decode cL_law 1849 = .ok (.iadd, 1) := by decide +kernel
theorem dL_law_1850 : decode cL_law 1850 = .ok (.iaload, 1) := by decide +kernel
theorem dL_law_1851 : decode cL_law 1851 = .ok (.invokevirtual 214, 3) := by decide +kernel
theorem dL_law_1854 : decode cL_law 1854 = .ok (.istore 6, 2) := by decide +kernel
theorem dL_law_1856 : decode cL_law 1856 = .ok (.aload_n 2, 1) := by decide +kernel
theorem dL_law_1857 : decode cL_law 1857 = .ok (.invokevirtual 117, 3) := by decide +kernel
theorem dL_law_1860 : decode cL_law 1860 = .ok (.iload 5, 2) := by decide +kernel
theorem dL_law_1862 : decode cL_law 1862 = .ok (.if_icmp .eq 5, 3) := by decide +kernel
theorem dL_law_1865 : decode cL_law 1865 = .ok (.iconst 0, 1) := by decide +kernel
theorem dL_law_1866 : decode cL_law 1866 = .ok (.ireturn, 1) := by decide +kernel
theorem dL_law_1867 : decode cL_law 1867 = .ok (.iload 5, 2) := by decide +kernel
theorem dL_law_1869 : decode cL_law 1869 = .ok (.ifCond .ne 15, 3) := by decide +kernel
theorem dL_law_1872 : decode cL_law 1872 = .ok (.aload_n 3, 1) := by decide +kernel
theorem dL_law_1873 : decode cL_law 1873 = .ok (.iconst 0, 1) := by decide +kernel
theorem dL_law_1874 : decode cL_law 1874 = .ok (.laload, 1) := by decide +kernel
theorem dL_law_1875 : decode cL_law 1875 = .ok (.iload 6, 2) := by decide +kernel
theorem dL_law_1877 : decode cL_law 1877 = .ok (.i2l, 1) := by decide +kernel
theorem dL_law_1878 : decode cL_law 1878 = .ok (.lcmp, 1) := by decide +kernel
theorem dL_law_1879 : decode cL_law 1879 = .ok (.ifCond .eq 5, 3) := by decide +kernel
theorem dL_law_1882 : decode cL_law 1882 = .ok (.iconst 0, 1) := by decide +kernel
theorem dL_law_1883 : decode cL_law 1883 = .ok (.ireturn, 1) := by decide +kernel
theorem dL_law_1884 : decode cL_law 1884 = .ok (.goto 418, 3) := by decide +kernel
theorem dL_law_1887 : decode cL_law 1887 = .ok (.aload_n 1, 1) := by decide +kernel
theorem dL_law_1888 : decode cL_law 1888 = .ok (.aload_n 0, 1) := by decide +kernel
theorem dL_law_1889 : decode cL_law 1889 = .ok (.iload 4, 2) := by decide +kernel
theorem dL_law_1891 : decode cL_law 1891 = .ok (.iconst 1, 1) := by decide +kernel
theorem dL_law_1892 : decode cL_law 1892 = .ok (.iadd, 1) := by decide +kernel
theorem dL_law_1893 : decode cL_law 1893 = .ok (.iaload, 1) := by decide +kernel
theorem dL_law_1894 : decode cL_law 1894 = .ok (.aload_n 0, 1) := by decide +kernel
theorem dL_law_1895 : decode cL_law 1895 = .ok (.iload 4, 2) := by decide +kernel
theorem dL_law_1897 : decode cL_law 1897 = .ok (.iconst 2, 1) := by decide +kernel
theorem dL_law_1898 : decode cL_law 1898 = .ok (.iadd, 1) := by decide +kernel
theorem dL_law_1899 : decode cL_law 1899 = .ok (.iaload, 1) := by decide +kernel
theorem dL_law_1900 : decode cL_law 1900 = .ok (.aload_n 3, 1) := by decide +kernel
theorem dL_law_1901 : decode cL_law 1901 = .ok (.invokestatic 215, 3) := by decide +kernel
theorem dL_law_1904 : decode cL_law 1904 = .ok (.istore 5, 2) := by decide +kernel
theorem dL_law_1906 : decode cL_law 1906 = .ok (.aload_n 2, 1) := by decide +kernel
theorem dL_law_1907 : decode cL_law 1907 = .ok (.aload_n 0, 1) := by decide +kernel
theorem dL_law_1908 : decode cL_law 1908 = .ok (.iload 4, 2) := by decide +kernel
theorem dL_law_1910 : decode cL_law 1910 = .ok (.iconst 1, 1) := by decide +kernel
theorem dL_law_1911 : decode cL_law 1911 = .ok (.iadd, 1) := by decide +kernel
theorem dL_law_1912 : decode cL_law 1912 = .ok (.iaload, 1) := by decide +kernel
theorem dL_law_1913 : decode cL_law 1913 = .ok (.aload_n 0, 1) := by decide +kernel
theorem dL_law_1914 : decode cL_law 1914 = .ok (.iload 4, 2) := by decide +kernel
theorem dL_law_1916 : decode cL_law 1916 = .ok (.iconst 2, 1) := by decide +kernel
theorem dL_law_1917 : decode cL_law 1917 = .ok (.iadd, 1) := by decide +kernel
theorem dL_law_1918 : decode cL_law 1918 = .ok (.iaload, 1) := by decide +kernel
theorem dL_law_1919 : decode cL_law 1919 = .ok (.invokevirtual 217, 3) := by decide +kernel
theorem dL_law_1922 : decode cL_law 1922 = .ok (.istore 6, 2) := by decide +kernel
theorem dL_law_1924 : decode cL_law 1924 = .ok (.aload_n 2, 1) := by decide +kernel
theorem dL_law_1925 : decode cL_law 1925 = .ok (.invokevirtual 117, 3) := by decide +kernel
theorem dL_law_1928 : decode cL_law 1928 = .ok (.iload 5, 2) := by decide +kernel
theorem dL_law_1930 : decode cL_law 1930 = .ok (.if_icmp .eq 5, 3) := by decide +kernel
theorem dL_law_1933 : decode cL_law 1933 = .ok (.iconst 0, 1) := by decide +kernel
theorem dL_law_1934 : decode cL_law 1934 = .ok (.ireturn, 1) := by decide +kernel
theorem dL_law_1935 : decode cL_law 1935 = .ok (.iload 5, 2) := by decide +kernel
theorem dL_law_1937 : decode cL_law 1937 = .ok (.ifCond .ne 15, 3) := by decide +kernel
theorem dL_law_1940 : decode cL_law 1940 = .ok (.aload_n 3, 1) := by decide +kernel
theorem dL_law_1941 : decode cL_law 1941 = .ok (.iconst 0, 1) := by decide +kernel
theorem dL_law_1942 : decode cL_law 1942 = .ok (.laload, 1) := by decide +kernel
theorem dL_law_1943 : decode cL_law 1943 = .ok (.iload 6, 2) := by decide +kernel
theorem dL_law_1945 : decode cL_law 1945 = .ok (.i2l, 1) := by decide +kernel
theorem dL_law_1946 : decode cL_law 1946 = .ok (.lcmp, 1) := by decide +kernel
theorem dL_law_1947 : decode cL_law 1947 = .ok (.ifCond .eq 5, 3) := by decide +kernel
theorem dL_law_1950 : decode cL_law 1950 = .ok (.iconst 0, 1) := by decide +kernel
theorem dL_law_1951 : decode cL_law 1951 = .ok (.ireturn, 1) := by decide +kernel
theorem dL_law_1952 : decode cL_law 1952 = .ok (.goto 350, 3) := by decide +kernel
theorem dL_law_1955 : decode cL_law 1955 = .ok (.aload_n 1, 1) := by decide +kernel
theorem dL_law_1956 : decode cL_law 1956 = .ok (.aload_n 0, 1) := by decide +kernel
theorem dL_law_1957 : decode cL_law 1957 = .ok (.iload 4, 2) := by decide +kernel
theorem dL_law_1959 : decode cL_law 1959 = .ok (.iconst 1, 1) := by decide +kernel
theorem dL_law_1960 : decode cL_law 1960 = .ok (.iadd, 1) := by decide +kernel
theorem dL_law_1961 : decode cL_law 1961 = .ok (.iaload, 1) := by decide +kernel
theorem dL_law_1962 : decode cL_law 1962 = .ok (.aload_n 0, 1) := by decide +kernel
theorem dL_law_1963 : decode cL_law 1963 = .ok (.iload 4, 2) := by decide +kernel
theorem dL_law_1965 : decode cL_law 1965 = .ok (.iconst 2, 1) := by decide +kernel
theorem dL_law_1966 : decode cL_law 1966 = .ok (.iadd, 1) := by decide +kernel
theorem dL_law_1967 : decode cL_law 1967 = .ok (.iaload, 1) := by decide +kernel
theorem dL_law_1968 : decode cL_law 1968 = .ok (.aload_n 0, 1) := by decide +kernel
theorem dL_law_1969 : decode cL_law 1969 = .ok (.iload 4, 2) := by decide +kernel
theorem dL_law_1971 : decode cL_law 1971 = .ok (.iconst 3, 1) := by decide +kernel
theorem dL_law_1972 : decode cL_law 1972 = .ok (.iadd, 1) := by decide +kernel
theorem dL_law_1973 : decode cL_law 1973 = .ok (.iaload, 1) := by decide +kernel
theorem dL_law_1974 : decode cL_law 1974 = .ok (.aload_n 0, 1) := by decide +kernel
theorem dL_law_1975 : decode cL_law 1975 = .ok (.iload 4, 2) := by decide +kernel
theorem dL_law_1977 : decode cL_law 1977 = .ok (.iconst 4, 1) := by decide +kernel
theorem dL_law_1978 : decode cL_law 1978 = .ok (.iadd, 1) := by decide +kernel
theorem dL_law_1979 : decode cL_law 1979 = .ok (.iaload, 1) := by decide +kernel
theorem dL_law_1980 : decode cL_law 1980 = .ok (.aload_n 0, 1) := by decide +kernel
theorem dL_law_1981 : decode cL_law 1981 = .ok (.iload 4, 2) := by decide +kernel
theorem dL_law_1983 : decode cL_law 1983 = .ok (.iconst 5, 1) := by decide +kernel
theorem dL_law_1984 : decode cL_law 1984 = .ok (.iadd, 1) := by decide +kernel
theorem dL_law_1985 : decode cL_law 1985 = .ok (.iaload, 1) := by decide +kernel
theorem dL_law_1986 : decode cL_law 1986 = .ok (.aload_n 3, 1) := by decide +kernel
theorem dL_law_1987 : decode cL_law 1987 = .ok (.invokestatic 218, 3) := by decide +kernel
theorem dL_law_1990 : decode cL_law 1990 = .ok (.istore 5, 2) := by decide +kernel
theorem dL_law_1992 : decode cL_law 1992 = .ok (.aload_n 2, 1) := by decide +kernel
theorem dL_law_1993 : decode cL_law 1993 = .ok (.aload_n 0, 1) := by decide +kernel
theorem dL_law_1994 : decode cL_law 1994 = .ok (.iload 4, 2) := by decide +kernel
theorem dL_law_1996 : decode cL_law 1996 = .ok (.iconst 1, 1) := by decide +kernel
theorem dL_law_1997 : decode cL_law 1997 = .ok (.iadd, 1) := by decide +kernel
theorem dL_law_1998 : decode cL_law 1998 = .ok (.iaload, 1) := by decide +kernel
theorem dL_law_1999 : decode cL_law 1999 = .ok (.aload_n 0, 1) := by decide +kernel
theorem dL_law_2000 : decode cL_law 2000 = .ok (.iload 4, 2) := by decide +kernel
theorem dL_law_2002 : decode cL_law 2002 = .ok (.iconst 2, 1) := by decide +kernel
theorem dL_law_2003 : decode cL_law 2003 = .ok (.iadd, 1) := by decide +kernel
theorem dL_law_2004 : decode cL_law 2004 = .ok (.iaload, 1) := by decide +kernel
theorem dL_law_2005 : decode cL_law 2005 = .ok (.aload_n 0, 1) := by decide +kernel
theorem dL_law_2006 : decode cL_law 2006 = .ok (.iload 4, 2) := by decide +kernel
theorem dL_law_2008 : decode cL_law 2008 = .ok (.iconst 3, 1) := by decide +kernel
theorem dL_law_2009 : decode cL_law 2009 = .ok (.iadd, 1) := by decide +kernel
theorem dL_law_2010 : decode cL_law 2010 = .ok (.iaload, 1) := by decide +kernel
theorem dL_law_2011 : decode cL_law 2011 = .ok (.aload_n 0, 1) := by decide +kernel
theorem dL_law_2012 : decode cL_law 2012 = .ok (.iload 4, 2) := by decide +kernel
theorem dL_law_2014 : decode cL_law 2014 = .ok (.iconst 4, 1) := by decide +kernel
theorem dL_law_2015 : decode cL_law 2015 = .ok (.iadd, 1) := by decide +kernel
theorem dL_law_2016 : decode cL_law 2016 = .ok (.iaload, 1) := by decide +kernel
theorem dL_law_2017 : decode cL_law 2017 = .ok (.aload_n 0, 1) := by decide +kernel
theorem dL_law_2018 : decode cL_law 2018 = .ok (.iload 4, 2) := by decide +kernel
theorem dL_law_2020 : decode cL_law 2020 = .ok (.iconst 5, 1) := by decide +kernel
theorem dL_law_2021 : decode cL_law 2021 = .ok (.iadd, 1) := by decide +kernel
theorem dL_law_2022 : decode cL_law 2022 = .ok (.iaload, 1) := by decide +kernel
theorem dL_law_2023 : decode cL_law 2023 = .ok (.invokevirtual 221, 3) := by decide +kernel
theorem dL_law_2026 : decode cL_law 2026 = .ok (.istore 6, 2) := by decide +kernel
theorem dL_law_2028 : decode cL_law 2028 = .ok (.aload_n 2, 1) := by decide +kernel
theorem dL_law_2029 : decode cL_law 2029 = .ok (.invokevirtual 117, 3) := by decide +kernel
theorem dL_law_2032 : decode cL_law 2032 = .ok (.iload 5, 2) := by decide +kernel
theorem dL_law_2034 : decode cL_law 2034 = .ok (.if_icmp .eq 5, 3) := by decide +kernel
theorem dL_law_2037 : decode cL_law 2037 = .ok (.iconst 0, 1) := by decide +kernel
theorem dL_law_2038 : decode cL_law 2038 = .ok (.ireturn, 1) := by decide +kernel
theorem dL_law_2039 : decode cL_law 2039 = .ok (.iload 5, 2) := by decide +kernel
theorem dL_law_2041 : decode cL_law 2041 = .ok (.ifCond .ne 15, 3) := by decide +kernel
theorem dL_law_2044 : decode cL_law 2044 = .ok (.aload_n 3, 1) := by decide +kernel
theorem dL_law_2045 : decode cL_law 2045 = .ok (.iconst 0, 1) := by decide +kernel
theorem dL_law_2046 : decode cL_law 2046 = .ok (.laload, 1) := by decide +kernel
theorem dL_law_2047 : decode cL_law 2047 = .ok (.iload 6, 2) := by decide +kernel
theorem dL_law_2049 : decode cL_law 2049 = .ok (.i2l, 1) := by decide +kernel
theorem dL_law_2050 : decode cL_law 2050 = .ok (.lcmp, 1) := by decide +kernel
theorem dL_law_2051 : decode cL_law 2051 = .ok (.ifCond .eq 5, 3) := by decide +kernel
theorem dL_law_2054 : decode cL_law 2054 = .ok (.iconst 0, 1) := by decide +kernel
theorem dL_law_2055 : decode cL_law 2055 = .ok (.ireturn, 1) := by decide +kernel
theorem dL_law_2056 : decode cL_law 2056 = .ok (.goto 246, 3) := by decide +kernel
theorem dL_law_2059 : decode cL_law 2059 = .ok (.aload_n 1, 1) := by decide +kernel
theorem dL_law_2060 : decode cL_law 2060 = .ok (.aload_n 0, 1) := by decide +kernel
theorem dL_law_2061 : decode cL_law 2061 = .ok (.iload 4, 2) := by decide +kernel
theorem dL_law_2063 : decode cL_law 2063 = .ok (.iconst 1, 1) := by decide +kernel
theorem dL_law_2064 : decode cL_law 2064 = .ok (.iadd, 1) := by decide +kernel
theorem dL_law_2065 : decode cL_law 2065 = .ok (.iaload, 1) := by decide +kernel
theorem dL_law_2066 : decode cL_law 2066 = .ok (.aload_n 3, 1) := by decide +kernel
theorem dL_law_2067 : decode cL_law 2067 = .ok (.invokestatic 222, 3) := by decide +kernel
theorem dL_law_2070 : decode cL_law 2070 = .ok (.istore 5, 2) := by decide +kernel
theorem dL_law_2072 : decode cL_law 2072 = .ok (.aload_n 2, 1) := by decide +kernel
theorem dL_law_2073 : decode cL_law 2073 = .ok (.aload_n 0, 1) := by decide +kernel
theorem dL_law_2074 : decode cL_law 2074 = .ok (.iload 4, 2) := by decide +kernel
theorem dL_law_2076 : decode cL_law 2076 = .ok (.iconst 1, 1) := by decide +kernel
theorem dL_law_2077 : decode cL_law 2077 = .ok (.iadd, 1) := by decide +kernel
theorem dL_law_2078 : decode cL_law 2078 = .ok (.iaload, 1) := by decide +kernel
theorem dL_law_2079 : decode cL_law 2079 = .ok (.invokevirtual 224, 3) := by decide +kernel
theorem dL_law_2082 : decode cL_law 2082 = .ok (.istore 6, 2) := by decide +kernel
theorem dL_law_2084 : decode cL_law 2084 = .ok (.aload_n 2, 1) := by decide +kernel
theorem dL_law_2085 : decode cL_law 2085 = .ok (.invokevirtual 117, 3) := by decide +kernel
theorem dL_law_2088 : decode cL_law 2088 = .ok (.iload 5, 2) := by decide +kernel
theorem dL_law_2090 : decode cL_law 2090 = .ok (.if_icmp .eq 5, 3) := by decide +kernel
theorem dL_law_2093 : decode cL_law 2093 = .ok (.iconst 0, 1) := by decide +kernel
theorem dL_law_2094 : decode cL_law 2094 = .ok (.ireturn, 1) := by decide +kernel
theorem dL_law_2095 : decode cL_law 2095 = .ok (.iload 5, 2) := by decide +kernel
theorem dL_law_2097 : decode cL_law 2097 = .ok (.ifCond .ne 15, 3) := by decide +kernel
theorem dL_law_2100 : decode cL_law 2100 = .ok (.aload_n 3, 1) := by decide +kernel
theorem dL_law_2101 : decode cL_law 2101 = .ok (.iconst 0, 1) := by decide +kernel
theorem dL_law_2102 : decode cL_law 2102 = .ok (.laload, 1) := by decide +kernel
theorem dL_law_2103 : decode cL_law 2103 = .ok (.iload 6, 2) := by decide +kernel
theorem dL_law_2105 : decode cL_law 2105 = .ok (.i2l, 1) := by decide +kernel
theorem dL_law_2106 : decode cL_law 2106 = .ok (.lcmp, 1) := by decide +kernel
theorem dL_law_2107 : decode cL_law 2107 = .ok (.ifCond .eq 5, 3) := by decide +kernel
theorem dL_law_2110 : decode cL_law 2110 = .ok (.iconst 0, 1) := by decide +kernel
theorem dL_law_2111 : decode cL_law 2111 = .ok (.ireturn, 1) := by decide +kernel
theorem dL_law_2112 : decode cL_law 2112 = .ok (.goto 190, 3) := by decide +kernel
theorem dL_law_2115 : decode cL_law 2115 = .ok (.aload_n 1, 1) := by decide +kernel
theorem dL_law_2116 : decode cL_law 2116 = .ok (.aload_n 0, 1) := by decide +kernel
theorem dL_law_2117 : decode cL_law 2117 = .ok (.iload 4, 2) := by decide +kernel
theorem dL_law_2119 : decode cL_law 2119 = .ok (.iconst 1, 1) := by decide +kernel
theorem dL_law_2120 : decode cL_law 2120 = .ok (.iadd, 1) := by decide +kernel
theorem dL_law_2121 : decode cL_law 2121 = .ok (.iaload, 1) := by decide +kernel
theorem dL_law_2122 : decode cL_law 2122 = .ok (.aload_n 3, 1) := by decide +kernel
theorem dL_law_2123 : decode cL_law 2123 = .ok (.invokestatic 225, 3) := by decide +kernel
theorem dL_law_2126 : decode cL_law 2126 = .ok (.istore 5, 2) := by decide +kernel
theorem dL_law_2128 : decode cL_law 2128 = .ok (.aload_n 2, 1) := by decide +kernel
theorem dL_law_2129 : decode cL_law 2129 = .ok (.aload_n 0, 1) := by decide +kernel
theorem dL_law_2130 : decode cL_law 2130 = .ok (.iload 4, 2) := by decide +kernel
theorem dL_law_2132 : decode cL_law 2132 = .ok (.iconst 1, 1) := by decide +kernel
theorem dL_law_2133 : decode cL_law 2133 = .ok (.iadd, 1) := by decide +kernel
theorem dL_law_2134 : decode cL_law 2134 = .ok (.iaload, 1) := by decide +kernel
theorem dL_law_2135 : decode cL_law 2135 = .ok (.invokevirtual 227, 3) := by decide +kernel
theorem dL_law_2138 : decode cL_law 2138 = .ok (.istore 6, 2) := by decide +kernel
theorem dL_law_2140 : decode cL_law 2140 = .ok (.aload_n 2, 1) := by decide +kernel
theorem dL_law_2141 : decode cL_law 2141 = .ok (.invokevirtual 117, 3) := by decide +kernel
theorem dL_law_2144 : decode cL_law 2144 = .ok (.iload 5, 2) := by decide +kernel
theorem dL_law_2146 : decode cL_law 2146 = .ok (.if_icmp .eq 5, 3) := by decide +kernel
theorem dL_law_2149 : decode cL_law 2149 = .ok (.iconst 0, 1) := by decide +kernel
theorem dL_law_2150 : decode cL_law 2150 = .ok (.ireturn, 1) := by decide +kernel
theorem dL_law_2151 : decode cL_law 2151 = .ok (.iload 5, 2) := by decide +kernel
theorem dL_law_2153 : decode cL_law 2153 = .ok (.ifCond .ne 15, 3) := by decide +kernel
theorem dL_law_2156 : decode cL_law 2156 = .ok (.aload_n 3, 1) := by decide +kernel
theorem dL_law_2157 : decode cL_law 2157 = .ok (.iconst 0, 1) := by decide +kernel
theorem dL_law_2158 : decode cL_law 2158 = .ok (.laload, 1) := by decide +kernel
theorem dL_law_2159 : decode cL_law 2159 = .ok (.iload 6, 2) := by decide +kernel
theorem dL_law_2161 : decode cL_law 2161 = .ok (.i2l, 1) := by decide +kernel
theorem dL_law_2162 : decode cL_law 2162 = .ok (.lcmp, 1) := by decide +kernel
theorem dL_law_2163 : decode cL_law 2163 = .ok (.ifCond .eq 5, 3) := by decide +kernel
theorem dL_law_2166 : decode cL_law 2166 = .ok (.iconst 0, 1) := by decide +kernel
theorem dL_law_2167 : decode cL_law 2167 = .ok (.ireturn, 1) := by decide +kernel
theorem dL_law_2168 : decode cL_law 2168 = .ok (.goto 134, 3) := by decide +kernel
theorem dL_law_2171 : decode cL_law 2171 = .ok (.aload_n 1, 1) := by decide +kernel
theorem dL_law_2172 : decode cL_law 2172 = .ok (.aload_n 0, 1) := by decide +kernel
theorem dL_law_2173 : decode cL_law 2173 = .ok (.iload 4, 2) := by decide +kernel
theorem dL_law_2175 : decode cL_law 2175 = .ok (.iconst 1, 1) := by decide +kernel
theorem dL_law_2176 : decode cL_law 2176 = .ok (.iadd, 1) := by decide +kernel
theorem dL_law_2177 : decode cL_law 2177 = .ok (.iaload, 1) := by decide +kernel
theorem dL_law_2178 : decode cL_law 2178 = .ok (.invokevirtual 228, 3) := by decide +kernel
theorem dL_law_2181 : decode cL_law 2181 = .ok (.aload_n 2, 1) := by decide +kernel
theorem dL_law_2182 : decode cL_law 2182 = .ok (.aload_n 0, 1) := by decide +kernel
theorem dL_law_2183 : decode cL_law 2183 = .ok (.iload 4, 2) := by decide +kernel
theorem dL_law_2185 : decode cL_law 2185 = .ok (.iconst 1, 1) := by decide +kernel
theorem dL_law_2186 : decode cL_law 2186 = .ok (.iadd, 1) := by decide +kernel
theorem dL_law_2187 : decode cL_law 2187 = .ok (.iaload, 1) := by decide +kernel
theorem dL_law_2188 : decode cL_law 2188 = .ok (.invokevirtual 231, 3) := by decide +kernel
theorem dL_law_2191 : decode cL_law 2191 = .ok (.if_icmp .eq 111, 3) := by decide +kernel
theorem dL_law_2194 : decode cL_law 2194 = .ok (.iconst 0, 1) := by decide +kernel
theorem dL_law_2195 : decode cL_law 2195 = .ok (.ireturn, 1) := by decide +kernel
theorem dL_law_2196 : decode cL_law 2196 = .ok (.aload_n 1, 1) := by decide +kernel
theorem dL_law_2197 : decode cL_law 2197 = .ok (.invokevirtual 232, 3) := by decide +kernel
theorem dL_law_2200 : decode cL_law 2200 = .ok (.aload_n 2, 1) := by decide +kernel
theorem dL_law_2201 : decode cL_law 2201 = .ok (.invokevirtual 235, 3) := by decide +kernel
theorem dL_law_2204 : decode cL_law 2204 = .ok (.if_icmp .eq 98, 3) := by decide +kernel
theorem dL_law_2207 : decode cL_law 2207 = .ok (.iconst 0, 1) := by decide +kernel
theorem dL_law_2208 : decode cL_law 2208 = .ok (.ireturn, 1) := by decide +kernel
theorem dL_law_2209 : decode cL_law 2209 = .ok (.aload_n 1, 1) := by decide +kernel
theorem dL_law_2210 : decode cL_law 2210 = .ok (.invokevirtual 236, 3) := by decide +kernel
theorem dL_law_2213 : decode cL_law 2213 = .ok (.aload_n 2, 1) := by decide +kernel
theorem dL_law_2214 : decode cL_law 2214 = .ok (.invokevirtual 239, 3) := by decide +kernel
theorem dL_law_2217 : decode cL_law 2217 = .ok (.if_icmp .eq 85, 3) := by decide +kernel
theorem dL_law_2220 : decode cL_law 2220 = .ok (.iconst 0, 1) := by decide +kernel
theorem dL_law_2221 : decode cL_law 2221 = .ok (.ireturn, 1) := by decide +kernel
theorem dL_law_2222 : decode cL_law 2222 = .ok (.aload_n 1, 1) := by decide +kernel
theorem dL_law_2223 : decode cL_law 2223 = .ok (.invokevirtual 240, 3) := by decide +kernel
theorem dL_law_2226 : decode cL_law 2226 = .ok (.aload_n 2, 1) := by decide +kernel
theorem dL_law_2227 : decode cL_law 2227 = .ok (.invokevirtual 243, 3) := by decide +kernel
theorem dL_law_2230 : decode cL_law 2230 = .ok (.goto 72, 3) := by decide +kernel
theorem dL_law_2233 : decode cL_law 2233 = .ok (.aload_n 1, 1) := by decide +kernel
theorem dL_law_2234 : decode cL_law 2234 = .ok (.invokevirtual 244, 3) := by decide +kernel
theorem dL_law_2237 : decode cL_law 2237 = .ok (.aload_n 2, 1) := by decide +kernel
theorem dL_law_2238 : decode cL_law 2238 = .ok (.invokevirtual 248, 3) := by decide +kernel
theorem dL_law_2241 : decode cL_law 2241 = .ok (.if_icmp .eq 61, 3) := by decide +kernel
theorem dL_law_2244 : decode cL_law 2244 = .ok (.iconst 0, 1) := by decide +kernel
theorem dL_law_2245 : decode cL_law 2245 = .ok (.ireturn, 1) := by decide +kernel
theorem dL_law_2246 : decode cL_law 2246 = .ok (.aload_n 1, 1) := by decide +kernel
theorem dL_law_2247 : decode cL_law 2247 = .ok (.aload_n 0, 1) := by decide +kernel
theorem dL_law_2248 : decode cL_law 2248 = .ok (.iload 4, 2) := by decide +kernel
theorem dL_law_2250 : decode cL_law 2250 = .ok (.iconst 1, 1) := by decide +kernel
theorem dL_law_2251 : decode cL_law 2251 = .ok (.iadd, 1) := by decide +kernel
theorem dL_law_2252 : decode cL_law 2252 = .ok (.iaload, 1) := by decide +kernel
theorem dL_law_2253 : decode cL_law 2253 = .ok (.aload_n 3, 1) := by decide +kernel
theorem dL_law_2254 : decode cL_law 2254 = .ok (.invokestatic 249, 3) := by decide +kernel
theorem dL_law_2257 : decode cL_law 2257 = .ok (.istore 5, 2) := by decide +kernel
theorem dL_law_2259 : decode cL_law 2259 = .ok (.aload_n 2, 1) := by decide +kernel
theorem dL_law_2260 : decode cL_law 2260 = .ok (.aload_n 0, 1) := by decide +kernel
theorem dL_law_2261 : decode cL_law 2261 = .ok (.iload 4, 2) := by decide +kernel
theorem dL_law_2263 : decode cL_law 2263 = .ok (.iconst 1, 1) := by decide +kernel
theorem dL_law_2264 : decode cL_law 2264 = .ok (.iadd, 1) := by decide +kernel
theorem dL_law_2265 : decode cL_law 2265 = .ok (.iaload, 1) := by decide +kernel
theorem dL_law_2266 : decode cL_law 2266 = .ok (.invokevirtual 251, 3) := by decide +kernel
theorem dL_law_2269 : decode cL_law 2269 = .ok (.istore 6, 2) := by decide +kernel
theorem dL_law_2271 : decode cL_law 2271 = .ok (.aload_n 2, 1) := by decide +kernel
theorem dL_law_2272 : decode cL_law 2272 = .ok (.invokevirtual 117, 3) := by decide +kernel
theorem dL_law_2275 : decode cL_law 2275 = .ok (.iload 5, 2) := by decide +kernel
theorem dL_law_2277 : decode cL_law 2277 = .ok (.if_icmp .eq 5, 3) := by decide +kernel
theorem dL_law_2280 : decode cL_law 2280 = .ok (.iconst 0, 1) := by decide +kernel
theorem dL_law_2281 : decode cL_law 2281 = .ok (.ireturn, 1) := by decide +kernel
theorem dL_law_2282 : decode cL_law 2282 = .ok (.iload 5, 2) := by decide +kernel
theorem dL_law_2284 : decode cL_law 2284 = .ok (.ifCond .ne 15, 3) := by decide +kernel
theorem dL_law_2287 : decode cL_law 2287 = .ok (.aload_n 3, 1) := by decide +kernel
theorem dL_law_2288 : decode cL_law 2288 = .ok (.iconst 0, 1) := by decide +kernel
theorem dL_law_2289 : decode cL_law 2289 = .ok (.laload, 1) := by decide +kernel
theorem dL_law_2290 : decode cL_law 2290 = .ok (.iload 6, 2) := by decide +kernel
theorem dL_law_2292 : decode cL_law 2292 = .ok (.i2l, 1) := by decide +kernel
theorem dL_law_2293 : decode cL_law 2293 = .ok (.lcmp, 1) := by decide +kernel
theorem dL_law_2294 : decode cL_law 2294 = .ok (.ifCond .eq 5, 3) := by decide +kernel
theorem dL_law_2297 : decode cL_law 2297 = .ok (.iconst 0, 1) := by decide +kernel
theorem dL_law_2298 : decode cL_law 2298 = .ok (.ireturn, 1) := by decide +kernel
theorem dL_law_2299 : decode cL_law 2299 = .ok (.goto 3, 3) := by decide +kernel
theorem dL_law_2302 : decode cL_law 2302 = .ok (.iinc 4 6, 3) := by decide +kernel
theorem dL_law_2305 : decode cL_law 2305 = .ok (.goto (-2282), 3) := by decide +kernel
theorem dL_law_2308 : decode cL_law 2308 = .ok (.iconst 1, 1) := by decide +kernel
theorem dL_law_2309 : decode cL_law 2309 = .ok (.ireturn, 1) := by decide +kernel
theorem dJ0_length_8abf5_0 : decode cJ0_length_8abf5 0 = .ok (.aload_n 0, 1) := by decide +kernel
theorem dJ0_length_8abf5_1 : decode cJ0_length_8abf5 1 = .ok (.getfield 9, 3) := by decide +kernel
theorem dJ0_length_8abf5_4 : decode cJ0_length_8abf5 4 = .ok (.arraylength, 1) := by decide +kernel
theorem dJ0_length_8abf5_5 : decode cJ0_length_8abf5 5 = .ok (.aload_n 0, 1) := by decide +kernel
theorem dJ0_length_8abf5_6 : decode cJ0_length_8abf5 6 = .ok (.invokevirtual 335, 3) := by decide +kernel
theorem dJ0_length_8abf5_9 : decode cJ0_length_8abf5 9 = .ok (.ishr, 1) := by decide +kernel
theorem dJ0_length_8abf5_10 : decode cJ0_length_8abf5 10 = .ok (.ireturn, 1) := by decide +kernel
theorem dJ0_coder_7d493_0 : decode cJ0_coder_7d493 0 = .ok (.getstatic 38, 3) := by decide +kernel
theorem dJ0_coder_7d493_3 : decode cJ0_coder_7d493 3 = .ok (.ifCond .eq 10, 3) := by decide +kernel
theorem dJ0_coder_7d493_6 : decode cJ0_coder_7d493 6 = .ok (.aload_n 0, 1) := by decide +kernel
theorem dJ0_coder_7d493_7 : decode cJ0_coder_7d493 7 = .ok (.getfield 15, 3) := by decide +kernel
theorem dJ0_coder_7d493_10 : decode cJ0_coder_7d493 10 = .ok (.goto 4, 3) := by decide +kernel
theorem dJ0_coder_7d493_13 : decode cJ0_coder_7d493 13 = .ok (.iconst 1, 1) := by decide +kernel
theorem dJ0_coder_7d493_14 : decode cJ0_coder_7d493 14 = .ok (.ireturn, 1) := by decide +kernel
theorem dJ0_charAt_5068e_0 : decode cJ0_charAt_5068e 0 = .ok (.aload_n 0, 1) := by decide +kernel
theorem dJ0_charAt_5068e_1 : decode cJ0_charAt_5068e 1 = .ok (.invokevirtual 492, 3) := by decide +kernel
theorem dJ0_charAt_5068e_4 : decode cJ0_charAt_5068e 4 = .ok (.ifCond .eq 12, 3) := by decide +kernel
theorem dJ0_charAt_5068e_7 : decode cJ0_charAt_5068e 7 = .ok (.aload_n 0, 1) := by decide +kernel
theorem dJ0_charAt_5068e_8 : decode cJ0_charAt_5068e 8 = .ok (.getfield 9, 3) := by decide +kernel
theorem dJ0_charAt_5068e_11 : decode cJ0_charAt_5068e 11 = .ok (.iload_n 1, 1) := by decide +kernel
theorem dJ0_charAt_5068e_12 : decode cJ0_charAt_5068e 12 = .ok (.invokestatic 495, 3) := by decide +kernel
theorem dJ0_charAt_5068e_15 : decode cJ0_charAt_5068e 15 = .ok (.ireturn, 1) := by decide +kernel
theorem dJ0_charAt_5068e_16 : decode cJ0_charAt_5068e 16 = .ok (.aload_n 0, 1) := by decide +kernel
theorem dJ0_charAt_5068e_17 : decode cJ0_charAt_5068e 17 = .ok (.getfield 9, 3) := by decide +kernel
theorem dJ0_charAt_5068e_20 : decode cJ0_charAt_5068e 20 = .ok (.iload_n 1, 1) := by decide +kernel
theorem dJ0_charAt_5068e_21 : decode cJ0_charAt_5068e 21 = .ok (.invokestatic 498, 3) := by decide +kernel
theorem dJ0_charAt_5068e_24 : decode cJ0_charAt_5068e 24 = .ok (.ireturn, 1) := by decide +kernel
theorem dJ0_isLatin1_aae02_0 : decode cJ0_isLatin1_aae02 0 = .ok (.getstatic 38, 3) := by decide +kernel
theorem dJ0_isLatin1_aae02_3 : decode cJ0_isLatin1_aae02 3 = .ok (.ifCond .eq 14, 3) := by decide +kernel
theorem dJ0_isLatin1_aae02_6 : decode cJ0_isLatin1_aae02 6 = .ok (.aload_n 0, 1) := by decide +kernel
theorem dJ0_isLatin1_aae02_7 : decode cJ0_isLatin1_aae02 7 = .ok (.getfield 15, 3) := by decide +kernel
theorem dJ0_isLatin1_aae02_10 : decode cJ0_isLatin1_aae02 10 = .ok (.ifCond .ne 7, 3) := by decide +kernel
theorem dJ0_isLatin1_aae02_13 : decode cJ0_isLatin1_aae02 13 = .ok (.iconst 1, 1) := by decide +kernel
theorem dJ0_isLatin1_aae02_14 : decode cJ0_isLatin1_aae02 14 = .ok (.goto 4, 3) := by decide +kernel
theorem dJ0_isLatin1_aae02_17 : decode cJ0_isLatin1_aae02 17 = .ok (.iconst 0, 1) := by decide +kernel
theorem dJ0_isLatin1_aae02_18 : decode cJ0_isLatin1_aae02 18 = .ok (.ireturn, 1) := by decide +kernel
theorem dJ0_checkIndex_df160_0 : decode cJ0_checkIndex_df160 0 = .ok (.iload_n 0, 1) := by decide +kernel
theorem dJ0_checkIndex_df160_1 : decode cJ0_checkIndex_df160 1 = .ok (.iload_n 1, 1) := by decide +kernel
theorem dJ0_checkIndex_df160_2 : decode cJ0_checkIndex_df160 2 = .ok (.getstatic 1053, 3) := by decide +kernel
theorem dJ0_checkIndex_df160_5 : decode cJ0_checkIndex_df160 5 = .ok (.invokestatic 1059, 3) := by decide +kernel
theorem dJ0_checkIndex_df160_8 : decode cJ0_checkIndex_df160 8 = .ok (.pop, 1) := by decide +kernel
theorem dJ0_checkIndex_df160_9 : decode cJ0_checkIndex_df160 9 = .ok (.return_, 1) := by decide +kernel
theorem dJ0_getBytes_840e7_0 : decode cJ0_getBytes_840e7 0 = .ok (.aload_n 0, 1) := by decide +kernel
theorem dJ0_getBytes_840e7_1 : decode cJ0_getBytes_840e7 1 = .ok (.invokevirtual 335, 3) := by decide +kernel
theorem dJ0_getBytes_840e7_4 : decode cJ0_getBytes_840e7 4 = .ok (.iload_n 3, 1) := by decide +kernel
theorem dJ0_getBytes_840e7_5 : decode cJ0_getBytes_840e7 5 = .ok (.if_icmp .ne 23, 3) := by decide +kernel
theorem dJ0_getBytes_840e7_8 : decode cJ0_getBytes_840e7 8 = .ok (.aload_n 0, 1) := by decide +kernel
theorem dJ0_getBytes_840e7_9 : decode cJ0_getBytes_840e7 9 = .ok (.getfield 9, 3) := by decide +kernel
theorem dJ0_getBytes_840e7_12 : decode cJ0_getBytes_840e7 12 = .ok (.iconst 0, 1) := by decide +kernel
theorem dJ0_getBytes_840e7_13 : decode cJ0_getBytes_840e7 13 = .ok (.aload_n 1, 1) := by decide +kernel
theorem dJ0_getBytes_840e7_14 : decode cJ0_getBytes_840e7 14 = .ok (.iload_n 2, 1) := by decide +kernel
theorem dJ0_getBytes_840e7_15 : decode cJ0_getBytes_840e7 15 = .ok (.iload_n 3, 1) := by decide +kernel
theorem dJ0_getBytes_840e7_16 : decode cJ0_getBytes_840e7 16 = .ok (.ishl, 1) := by decide +kernel
theorem dJ0_getBytes_840e7_17 : decode cJ0_getBytes_840e7 17 = .ok (.aload_n 0, 1) := by decide +kernel
theorem dJ0_getBytes_840e7_18 : decode cJ0_getBytes_840e7 18 = .ok (.getfield 9, 3) := by decide +kernel
theorem dJ0_getBytes_840e7_21 : decode cJ0_getBytes_840e7 21 = .ok (.arraylength, 1) := by decide +kernel
theorem dJ0_getBytes_840e7_22 : decode cJ0_getBytes_840e7 22 = .ok (.invokestatic 212, 3) := by decide +kernel
theorem dJ0_getBytes_840e7_25 : decode cJ0_getBytes_840e7 25 = .ok (.goto 18, 3) := by decide +kernel
theorem dJ0_getBytes_840e7_28 : decode cJ0_getBytes_840e7 28 = .ok (.aload_n 0, 1) := by decide +kernel
theorem dJ0_getBytes_840e7_29 : decode cJ0_getBytes_840e7 29 = .ok (.getfield 9, 3) := by decide +kernel
theorem dJ0_getBytes_840e7_32 : decode cJ0_getBytes_840e7 32 = .ok (.iconst 0, 1) := by decide +kernel
theorem dJ0_getBytes_840e7_33 : decode cJ0_getBytes_840e7 33 = .ok (.aload_n 1, 1) := by decide +kernel
theorem dJ0_getBytes_840e7_34 : decode cJ0_getBytes_840e7 34 = .ok (.iload_n 2, 1) := by decide +kernel
theorem dJ0_getBytes_840e7_35 : decode cJ0_getBytes_840e7 35 = .ok (.aload_n 0, 1) := by decide +kernel
theorem dJ0_getBytes_840e7_36 : decode cJ0_getBytes_840e7 36 = .ok (.getfield 9, 3) := by decide +kernel
theorem dJ0_getBytes_840e7_39 : decode cJ0_getBytes_840e7 39 = .ok (.arraylength, 1) := by decide +kernel
theorem dJ0_getBytes_840e7_40 : decode cJ0_getBytes_840e7 40 = .ok (.invokestatic 106, 3) := by decide +kernel
theorem dJ0_getBytes_840e7_43 : decode cJ0_getBytes_840e7 43 = .ok (.return_, 1) := by decide +kernel
theorem dJ1_charAt_3b067_0 : decode cJ1_charAt_3b067 0 = .ok (.iload_n 1, 1) := by decide +kernel
theorem dJ1_charAt_3b067_1 : decode cJ1_charAt_3b067 1 = .ok (.aload_n 0, 1) := by decide +kernel
theorem dJ1_charAt_3b067_2 : decode cJ1_charAt_3b067 2 = .ok (.arraylength, 1) := by decide +kernel
theorem dJ1_charAt_3b067_3 : decode cJ1_charAt_3b067 3 = .ok (.invokestatic 9, 3) := by decide +kernel
theorem dJ1_charAt_3b067_6 : decode cJ1_charAt_3b067 6 = .ok (.aload_n 0, 1) := by decide +kernel
theorem dJ1_charAt_3b067_7 : decode cJ1_charAt_3b067 7 = .ok (.iload_n 1, 1) := by decide +kernel
theorem dJ1_charAt_3b067_8 : decode cJ1_charAt_3b067 8 = .ok (.baload, 1) := by decide +kernel
theorem dJ1_charAt_3b067_9 : decode cJ1_charAt_3b067 9 = .ok (.sipush 255, 3) := by decide +kernel
theorem dJ1_charAt_3b067_12 : decode cJ1_charAt_3b067 12 = .ok (.iand, 1) := by decide +kernel
theorem dJ1_charAt_3b067_13 : decode cJ1_charAt_3b067 13 = .ok (.i2c, 1) := by decide +kernel
theorem dJ1_charAt_3b067_14 : decode cJ1_charAt_3b067 14 = .ok (.ireturn, 1) := by decide +kernel
theorem dJ1_canEncode_fc78d_0 : decode cJ1_canEncode_fc78d 0 = .ok (.iload_n 0, 1) := by decide +kernel
theorem dJ1_canEncode_fc78d_1 : decode cJ1_canEncode_fc78d 1 = .ok (.sipush 255, 3) := by decide +kernel
theorem dJ1_canEncode_fc78d_4 : decode cJ1_canEncode_fc78d 4 = .ok (.if_icmp .gt 7, 3) := by decide +kernel
theorem dJ1_canEncode_fc78d_7 : decode cJ1_canEncode_fc78d 7 = .ok (.iconst 1, 1) := by decide +kernel
theorem dJ1_canEncode_fc78d_8 : decode cJ1_canEncode_fc78d 8 = .ok (.goto 4, 3) := by decide +kernel
theorem dJ1_canEncode_fc78d_11 : decode cJ1_canEncode_fc78d 11 = .ok (.iconst 0, 1) := by decide +kernel
theorem dJ1_canEncode_fc78d_12 : decode cJ1_canEncode_fc78d 12 = .ok (.ireturn, 1) := by decide +kernel
theorem dJ3_checkIndex_8e157_0 : decode cJ3_checkIndex_8e157 0 = .ok (.iload_n 0, 1) := by decide +kernel
theorem dJ3_checkIndex_8e157_1 : decode cJ3_checkIndex_8e157 1 = .ok (.ifCond .lt 8, 3) := by decide +kernel
theorem dJ3_checkIndex_8e157_4 : decode cJ3_checkIndex_8e157 4 = .ok (.iload_n 0, 1) := by decide +kernel
theorem dJ3_checkIndex_8e157_5 : decode cJ3_checkIndex_8e157 5 = .ok (.iload_n 1, 1) := by decide +kernel
theorem dJ3_checkIndex_8e157_6 : decode cJ3_checkIndex_8e157 6 = .ok (.if_icmp .lt 10, 3) := by decide +kernel
theorem dJ3_checkIndex_8e157_9 : decode cJ3_checkIndex_8e157 9 = .ok (.aload_n 2, 1) := by decide +kernel
theorem dJ3_checkIndex_8e157_10 : decode cJ3_checkIndex_8e157 10 = .ok (.iload_n 0, 1) := by decide +kernel
theorem dJ3_checkIndex_8e157_11 : decode cJ3_checkIndex_8e157 11 = .ok (.iload_n 1, 1) := by decide +kernel
theorem dJ3_checkIndex_8e157_12 : decode cJ3_checkIndex_8e157 12 = .ok (.invokestatic 95, 3) := by decide +kernel
theorem dJ3_checkIndex_8e157_15 : decode cJ3_checkIndex_8e157 15 = .ok (.athrow, 1) := by decide +kernel
theorem dJ3_checkIndex_8e157_16 : decode cJ3_checkIndex_8e157 16 = .ok (.iload_n 0, 1) := by decide +kernel
theorem dJ3_checkIndex_8e157_17 : decode cJ3_checkIndex_8e157 17 = .ok (.ireturn, 1) := by decide +kernel
theorem dJ4_init_da8c8_0 : decode cJ4_init_da8c8 0 = .ok (.aload_n 0, 1) := by decide +kernel
theorem dJ4_init_da8c8_1 : decode cJ4_init_da8c8 1 = .ok (.bipush 16, 2) := by decide +kernel
theorem dJ4_init_da8c8_3 : decode cJ4_init_da8c8 3 = .ok (.invokespecial 1, 3) := by decide +kernel
theorem dJ4_init_da8c8_6 : decode cJ4_init_da8c8 6 = .ok (.return_, 1) := by decide +kernel
theorem dJ4_append_15ec4_0 : decode cJ4_append_15ec4 0 = .ok (.aload_n 0, 1) := by decide +kernel
theorem dJ4_append_15ec4_1 : decode cJ4_append_15ec4 1 = .ok (.aload_n 1, 1) := by decide +kernel
theorem dJ4_append_15ec4_2 : decode cJ4_append_15ec4 2 = .ok (.invokespecial 29, 3) := by decide +kernel
theorem dJ4_append_15ec4_5 : decode cJ4_append_15ec4 5 = .ok (.pop, 1) := by decide +kernel
theorem dJ4_append_15ec4_6 : decode cJ4_append_15ec4 6 = .ok (.aload_n 0, 1) := by decide +kernel
theorem dJ4_append_15ec4_7 : decode cJ4_append_15ec4 7 = .ok (.areturn, 1) := by decide +kernel
theorem dJ4_append_cf468_0 : decode cJ4_append_cf468 0 = .ok (.aload_n 0, 1) := by decide +kernel
theorem dJ4_append_cf468_1 : decode cJ4_append_cf468 1 = .ok (.iload_n 1, 1) := by decide +kernel
theorem dJ4_append_cf468_2 : decode cJ4_append_cf468 2 = .ok (.invokespecial 50, 3) := by decide +kernel
theorem dJ4_append_cf468_5 : decode cJ4_append_cf468 5 = .ok (.pop, 1) := by decide +kernel
theorem dJ4_append_cf468_6 : decode cJ4_append_cf468 6 = .ok (.aload_n 0, 1) := by decide +kernel
theorem dJ4_append_cf468_7 : decode cJ4_append_cf468 7 = .ok (.areturn, 1) := by decide +kernel
theorem dJ4_append_bf812_0 : decode cJ4_append_bf812 0 = .ok (.aload_n 0, 1) := by decide +kernel
theorem dJ4_append_bf812_1 : decode cJ4_append_bf812 1 = .ok (.iload_n 1, 1) := by decide +kernel
theorem dJ4_append_bf812_2 : decode cJ4_append_bf812 2 = .ok (.invokespecial 53, 3) := by decide +kernel
theorem dJ4_append_bf812_5 : decode cJ4_append_bf812 5 = .ok (.pop, 1) := by decide +kernel
theorem dJ4_append_bf812_6 : decode cJ4_append_bf812 6 = .ok (.aload_n 0, 1) := by decide +kernel
theorem dJ4_append_bf812_7 : decode cJ4_append_bf812 7 = .ok (.areturn, 1) := by decide +kernel
theorem dJ4_charAt_5068e_0 : decode cJ4_charAt_5068e 0 = .ok (.aload_n 0, 1) := by decide +kernel
theorem dJ4_charAt_5068e_1 : decode cJ4_charAt_5068e 1 = .ok (.iload_n 1, 1) := by decide +kernel
theorem dJ4_charAt_5068e_2 : decode cJ4_charAt_5068e 2 = .ok (.invokespecial 329, 3) := by decide +kernel
theorem dJ4_charAt_5068e_5 : decode cJ4_charAt_5068e 5 = .ok (.ireturn, 1) := by decide +kernel
theorem dJ4_setLength_d00df_0 : decode cJ4_setLength_d00df 0 = .ok (.aload_n 0, 1) := by decide +kernel
theorem dJ4_setLength_d00df_1 : decode cJ4_setLength_d00df 1 = .ok (.iload_n 1, 1) := by decide +kernel
theorem dJ4_setLength_d00df_2 : decode cJ4_setLength_d00df 2 = .ok (.invokespecial 333, 3) := by decide +kernel
theorem dJ4_setLength_d00df_5 : decode cJ4_setLength_d00df 5 = .ok (.return_, 1) := by decide +kernel
theorem dJ4_length_8abf5_0 : decode cJ4_length_8abf5 0 = .ok (.aload_n 0, 1) := by decide +kernel
theorem dJ4_length_8abf5_1 : decode cJ4_length_8abf5 1 = .ok (.invokespecial 343, 3) := by decide +kernel
theorem dJ4_length_8abf5_4 : decode cJ4_length_8abf5 4 = .ok (.ireturn, 1) := by decide +kernel
theorem dJ5_append_cf1ce_0 : decode cJ5_append_cf1ce 0 = .ok (.aload_n 1, 1) := by decide +kernel
theorem dJ5_append_cf1ce_1 : decode cJ5_append_cf1ce 1 = .ok (.ifnonnull 8, 3) := by decide +kernel
theorem dJ5_append_cf1ce_4 : decode cJ5_append_cf1ce 4 = .ok (.aload_n 0, 1) := by decide +kernel
theorem dJ5_append_cf1ce_5 : decode cJ5_append_cf1ce 5 = .ok (.invokevirtual 204, 3) := by decide +kernel
theorem dJ5_append_cf1ce_8 : decode cJ5_append_cf1ce 8 = .ok (.areturn, 1) := by decide +kernel
theorem dJ5_append_cf1ce_9 : decode cJ5_append_cf1ce 9 = .ok (.aload_n 1, 1) := by decide +kernel
theorem dJ5_append_cf1ce_10 : decode cJ5_append_cf1ce 10 = .ok (.invokevirtual 32, 3) := by decide +kernel
theorem dJ5_append_cf1ce_13 : decode cJ5_append_cf1ce 13 = .ok (.istore_n 2, 1) := by decide +kernel
theorem dJ5_append_cf1ce_14 : decode cJ5_append_cf1ce 14 = .ok (.aload_n 0, 1) := by decide +kernel
theorem dJ5_append_cf1ce_15 : decode cJ5_append_cf1ce 15 = .ok (.aload_n 0, 1) := by decide +kernel
theorem dJ5_append_cf1ce_16 : decode cJ5_append_cf1ce 16 = .ok (.getfield 79, 3) := by decide +kernel
theorem dJ5_append_cf1ce_19 : decode cJ5_append_cf1ce 19 = .ok (.iload_n 2, 1) := by decide +kernel
theorem dJ5_append_cf1ce_20 : decode cJ5_append_cf1ce 20 = .ok (.iadd, 1) := by decide +kernel
theorem dJ5_append_cf1ce_21 : decode cJ5_append_cf1ce 21 = .ok (.invokevirtual 100, 3) := by decide +kernel
theorem dJ5_append_cf1ce_24 : decode cJ5_append_cf1ce 24 = .ok (.aload_n 0, 1) := by decide +kernel
theorem dJ5_append_cf1ce_25 : decode cJ5_append_cf1ce 25 = .ok (.aload_n 0, 1) := by decide +kernel
theorem dJ5_append_cf1ce_26 : decode cJ5_append_cf1ce 26 = .ok (.getfield 79, 3) := by decide +kernel
theorem dJ5_append_cf1ce_29 : decode cJ5_append_cf1ce 29 = .ok (.aload_n 1, 1) := by decide +kernel
theorem dJ5_append_cf1ce_30 : decode cJ5_append_cf1ce 30 = .ok (.invokevirtual 208, 3) := by decide +kernel
theorem dJ5_append_cf1ce_33 : decode cJ5_append_cf1ce 33 = .ok (.aload_n 0, 1) := by decide +kernel
theorem dJ5_append_cf1ce_34 : decode cJ5_append_cf1ce 34 = .ok (.dup, 1) := by decide +kernel
theorem dJ5_append_cf1ce_35 : decode cJ5_append_cf1ce 35 = .ok (.getfield 79, 3) := by decide +kernel
theorem dJ5_append_cf1ce_38 : decode cJ5_append_cf1ce 38 = .ok (.iload_n 2, 1) := by decide +kernel
theorem dJ5_append_cf1ce_39 : decode cJ5_append_cf1ce 39 = .ok (.iadd, 1) := by decide +kernel
theorem dJ5_append_cf1ce_40 : decode cJ5_append_cf1ce 40 = .ok (.putfield 79, 3) := by decide +kernel
theorem dJ5_append_cf1ce_43 : decode cJ5_append_cf1ce 43 = .ok (.aload_n 0, 1) := by decide +kernel
theorem dJ5_append_cf1ce_44 : decode cJ5_append_cf1ce 44 = .ok (.areturn, 1) := by decide +kernel
theorem dJ5_append_3fe6f_0 : decode cJ5_append_3fe6f 0 = .ok (.aload_n 0, 1) := by decide +kernel
theorem dJ5_append_3fe6f_1 : decode cJ5_append_3fe6f 1 = .ok (.aload_n 0, 1) := by decide +kernel
theorem dJ5_append_3fe6f_2 : decode cJ5_append_3fe6f 2 = .ok (.getfield 79, 3) := by decide +kernel
theorem dJ5_append_3fe6f_5 : decode cJ5_append_3fe6f 5 = .ok (.iconst 1, 1) := by decide +kernel
theorem dJ5_append_3fe6f_6 : decode cJ5_append_3fe6f 6 = .ok (.iadd, 1) := by decide +kernel
theorem dJ5_append_3fe6f_7 : decode cJ5_append_3fe6f 7 = .ok (.invokevirtual 100, 3) := by decide +kernel
theorem dJ5_append_3fe6f_10 : decode cJ5_append_3fe6f 10 = .ok (.aload_n 0, 1) := by decide +kernel
theorem dJ5_append_3fe6f_11 : decode cJ5_append_3fe6f 11 = .ok (.invokevirtual 83, 3) := by decide +kernel
theorem dJ5_append_3fe6f_14 : decode cJ5_append_3fe6f 14 = .ok (.ifCond .eq 31, 3) := by decide +kernel
theorem dJ5_append_3fe6f_17 : decode cJ5_append_3fe6f 17 = .ok (.iload_n 1, 1) := by decide +kernel
theorem dJ5_append_3fe6f_18 : decode cJ5_append_3fe6f 18 = .ok (.invokestatic 191, 3) := by decide +kernel
theorem dJ5_append_3fe6f_21 : decode cJ5_append_3fe6f 21 = .ok (.ifCond .eq 24, 3) := by decide +kernel
theorem dJ5_append_3fe6f_24 : decode cJ5_append_3fe6f 24 = .ok (.aload_n 0, 1) := by decide +kernel
theorem dJ5_append_3fe6f_25 : decode cJ5_append_3fe6f 25 = .ok (.getfield 15, 3) := by decide +kernel
theorem dJ5_append_3fe6f_28 : decode cJ5_append_3fe6f 28 = .ok (.aload_n 0, 1) := by decide +kernel
theorem dJ5_append_3fe6f_29 : decode cJ5_append_3fe6f 29 = .ok (.dup, 1) := by decide +kernel
theorem dJ5_append_3fe6f_30 : decode cJ5_append_3fe6f 30 = .ok (.getfield 79, 3) := by decide +kernel
theorem dJ5_append_3fe6f_33 : decode cJ5_append_3fe6f 33 = .ok (.dup_x1, 1) := by decide +kernel
theorem dJ5_append_3fe6f_34 : decode cJ5_append_3fe6f 34 = .ok (.iconst 1, 1) := by decide +kernel
theorem dJ5_append_3fe6f_35 : decode cJ5_append_3fe6f 35 = .ok (.iadd, 1) := by decide +kernel
theorem dJ5_append_3fe6f_36 : decode cJ5_append_3fe6f 36 = .ok (.putfield 79, 3) := by decide +kernel
theorem dJ5_append_3fe6f_39 : decode cJ5_append_3fe6f 39 = .ok (.iload_n 1, 1) := by decide +kernel
theorem dJ5_append_3fe6f_40 : decode cJ5_append_3fe6f 40 = .ok (.i2b, 1) := by decide +kernel
theorem dJ5_append_3fe6f_41 : decode cJ5_append_3fe6f 41 = .ok (.bastore, 1) := by decide +kernel
theorem dJ5_append_3fe6f_42 : decode cJ5_append_3fe6f 42 = .ok (.goto 33, 3) := by decide +kernel
theorem dJ5_append_3fe6f_45 : decode cJ5_append_3fe6f 45 = .ok (.aload_n 0, 1) := by decide +kernel
theorem dJ5_append_3fe6f_46 : decode cJ5_append_3fe6f 46 = .ok (.invokevirtual 83, 3) := by decide +kernel
theorem dJ5_append_3fe6f_49 : decode cJ5_append_3fe6f 49 = .ok (.ifCond .eq 7, 3) := by decide +kernel
theorem dJ5_append_3fe6f_52 : decode cJ5_append_3fe6f 52 = .ok (.aload_n 0, 1) := by decide +kernel
theorem dJ5_append_3fe6f_53 : decode cJ5_append_3fe6f 53 = .ok (.invokevirtual 195, 3) := by decide +kernel
theorem dJ5_append_3fe6f_56 : decode cJ5_append_3fe6f 56 = .ok (.aload_n 0, 1) := by decide +kernel
theorem dJ5_append_3fe6f_57 : decode cJ5_append_3fe6f 57 = .ok (.getfield 15, 3) := by decide +kernel
theorem dJ5_append_3fe6f_60 : decode cJ5_append_3fe6f 60 = .ok (.aload_n 0, 1) := by decide +kernel
theorem dJ5_append_3fe6f_61 : decode cJ5_append_3fe6f 61 = .ok (.dup, 1) := by decide +kernel
theorem dJ5_append_3fe6f_62 : decode cJ5_append_3fe6f 62 = .ok (.getfield 79, 3) := by decide +kernel
theorem dJ5_append_3fe6f_65 : decode cJ5_append_3fe6f 65 = .ok (.dup_x1, 1) := by decide +kernel
theorem dJ5_append_3fe6f_66 : decode cJ5_append_3fe6f 66 = .ok (.iconst 1, 1) := by decide +kernel
theorem dJ5_append_3fe6f_67 : decode cJ5_append_3fe6f 67 = .ok (.iadd, 1) := by decide +kernel
theorem dJ5_append_3fe6f_68 : decode cJ5_append_3fe6f 68 = .ok (.putfield 79, 3) := by decide +kernel
theorem dJ5_append_3fe6f_71 : decode cJ5_append_3fe6f 71 = .ok (.iload_n 1, 1) := by decide +kernel
theorem dJ5_append_3fe6f_72 : decode cJ5_append_3fe6f 72 = .ok (.invokestatic 197, 3) := by decide +kernel
theorem dJ5_append_3fe6f_75 : decode cJ5_append_3fe6f 75 = .ok (.aload_n 0, 1) := by decide +kernel
theorem dJ5_append_3fe6f_76 : decode cJ5_append_3fe6f 76 = .ok (.areturn, 1) := by decide +kernel
theorem dJ5_append_c97b9_0 : decode cJ5_append_c97b9 0 = .ok (.aload_n 0, 1) := by decide +kernel
theorem dJ5_append_c97b9_1 : decode cJ5_append_c97b9 1 = .ok (.getfield 79, 3) := by decide +kernel
theorem dJ5_append_c97b9_4 : decode cJ5_append_c97b9 4 = .ok (.istore_n 2, 1) := by decide +kernel
theorem dJ5_append_c97b9_5 : decode cJ5_append_c97b9 5 = .ok (.iload_n 2, 1) := by decide +kernel
theorem dJ5_append_c97b9_6 : decode cJ5_append_c97b9 6 = .ok (.iload_n 1, 1) := by decide +kernel
theorem dJ5_append_c97b9_7 : decode cJ5_append_c97b9 7 = .ok (.invokestatic 245, 3) := by decide +kernel
theorem dJ5_append_c97b9_10 : decode cJ5_append_c97b9 10 = .ok (.iadd, 1) := by decide +kernel
theorem dJ5_append_c97b9_11 : decode cJ5_append_c97b9 11 = .ok (.istore_n 3, 1) := by decide +kernel
theorem dJ5_append_c97b9_12 : decode cJ5_append_c97b9 12 = .ok (.aload_n 0, 1) := by decide +kernel
theorem dJ5_append_c97b9_13 : decode cJ5_append_c97b9 13 = .ok (.iload_n 3, 1) := by decide +kernel
theorem dJ5_append_c97b9_14 : decode cJ5_append_c97b9 14 = .ok (.invokevirtual 100, 3) := by decide +kernel
theorem dJ5_append_c97b9_17 : decode cJ5_append_c97b9 17 = .ok (.aload_n 0, 1) := by decide +kernel
theorem dJ5_append_c97b9_18 : decode cJ5_append_c97b9 18 = .ok (.invokevirtual 83, 3) := by decide +kernel
theorem dJ5_append_c97b9_21 : decode cJ5_append_c97b9 21 = .ok (.ifCond .eq 16, 3) := by decide +kernel
theorem dJ5_append_c97b9_24 : decode cJ5_append_c97b9 24 = .ok (.iload_n 1, 1) := by decide +kernel
theorem dJ5_append_c97b9_25 : decode cJ5_append_c97b9 25 = .ok (.iload_n 3, 1) := by decide +kernel
theorem dJ5_append_c97b9_26 : decode cJ5_append_c97b9 26 = .ok (.aload_n 0, 1) := by decide +kernel
theorem dJ5_append_c97b9_27 : decode cJ5_append_c97b9 27 = .ok (.getfield 15, 3) := by decide +kernel
theorem dJ5_append_c97b9_30 : decode cJ5_append_c97b9 30 = .ok (.invokestatic 248, 3) := by decide +kernel
theorem dJ5_append_c97b9_33 : decode cJ5_append_c97b9 33 = .ok (.pop, 1) := by decide +kernel
theorem dJ5_append_c97b9_34 : decode cJ5_append_c97b9 34 = .ok (.goto 14, 3) := by decide +kernel
theorem dJ5_append_c97b9_37 : decode cJ5_append_c97b9 37 = .ok (.iload_n 1, 1) := by decide +kernel
theorem dJ5_append_c97b9_38 : decode cJ5_append_c97b9 38 = .ok (.iload_n 2, 1) := by decide +kernel
theorem dJ5_append_c97b9_39 : decode cJ5_append_c97b9 39 = .ok (.iload_n 3, 1) := by decide +kernel
theorem dJ5_append_c97b9_40 : decode cJ5_append_c97b9 40 = .ok (.aload_n 0, 1) := by decide +kernel
theorem dJ5_append_c97b9_41 : decode cJ5_append_c97b9 41 = .ok (.getfield 15, 3) := by decide +kernel
theorem dJ5_append_c97b9_44 : decode cJ5_append_c97b9 44 = .ok (.invokestatic 251, 3) := by decide +kernel
theorem dJ5_append_c97b9_47 : decode cJ5_append_c97b9 47 = .ok (.pop, 1) := by decide +kernel
theorem dJ5_append_c97b9_48 : decode cJ5_append_c97b9 48 = .ok (.aload_n 0, 1) := by decide +kernel
theorem dJ5_append_c97b9_49 : decode cJ5_append_c97b9 49 = .ok (.iload_n 3, 1) := by decide +kernel
theorem dJ5_append_c97b9_50 : decode cJ5_append_c97b9 50 = .ok (.putfield 79, 3) := by decide +kernel
theorem dJ5_append_c97b9_53 : decode cJ5_append_c97b9 53 = .ok (.aload_n 0, 1) := by decide +kernel
theorem dJ5_append_c97b9_54 : decode cJ5_append_c97b9 54 = .ok (.areturn, 1) := by decide +kernel
theorem dJ5_charAt_5068e_0 : decode cJ5_charAt_5068e 0 = .ok (.aload_n 0, 1) := by decide +kernel
theorem dJ5_charAt_5068e_1 : decode cJ5_charAt_5068e 1 = .ok (.getfield 22, 3) := by decide +kernel
theorem dJ5_charAt_5068e_4 : decode cJ5_charAt_5068e 4 = .ok (.istore_n 2, 1) := by decide +kernel
theorem dJ5_charAt_5068e_5 : decode cJ5_charAt_5068e 5 = .ok (.aload_n 0, 1) := by decide +kernel
theorem dJ5_charAt_5068e_6 : decode cJ5_charAt_5068e 6 = .ok (.getfield 15, 3) := by decide +kernel
theorem dJ5_charAt_5068e_9 : decode cJ5_charAt_5068e 9 = .ok (.astore_n 3, 1) := by decide +kernel
theorem dJ5_charAt_5068e_10 : decode cJ5_charAt_5068e 10 = .ok (.aload_n 0, 1) := by decide +kernel
theorem dJ5_charAt_5068e_11 : decode cJ5_charAt_5068e 11 = .ok (.getfield 79, 3) := by decide +kernel
theorem dJ5_charAt_5068e_14 : decode cJ5_charAt_5068e 14 = .ok (.aload_n 3, 1) := by decide +kernel
theorem dJ5_charAt_5068e_15 : decode cJ5_charAt_5068e 15 = .ok (.arraylength, 1) := by decide +kernel
theorem dJ5_charAt_5068e_16 : decode cJ5_charAt_5068e 16 = .ok (.iload_n 2, 1) := by decide +kernel
theorem dJ5_charAt_5068e_17 : decode cJ5_charAt_5068e 17 = .ok (.ishr, 1) := by decide +kernel
theorem dJ5_charAt_5068e_18 : decode cJ5_charAt_5068e 18 = .ok (.invokestatic 138, 3) := by decide +kernel
theorem dJ5_charAt_5068e_21 : decode cJ5_charAt_5068e 21 = .ok (.istore 4, 2) := by decide +kernel
theorem dJ5_charAt_5068e_23 : decode cJ5_charAt_5068e 23 = .ok (.iload_n 1, 1) := by decide +kernel
theorem dJ5_charAt_5068e_24 : decode cJ5_charAt_5068e 24 = .ok (.iload 4, 2) := by decide +kernel
theorem dJ5_charAt_5068e_26 : decode cJ5_charAt_5068e 26 = .ok (.invokestatic 144, 3) := by decide +kernel
theorem dJ5_charAt_5068e_29 : decode cJ5_charAt_5068e 29 = .ok (.iload_n 2, 1) := by decide +kernel
theorem dJ5_charAt_5068e_30 : decode cJ5_charAt_5068e 30 = .ok (.ifCond .ne 12, 3) := by decide +kernel
theorem dJ5_charAt_5068e_33 : decode cJ5_charAt_5068e 33 = .ok (.aload_n 3, 1) := by decide +kernel
theorem dJ5_charAt_5068e_34 : decode cJ5_charAt_5068e 34 = .ok (.iload_n 1, 1) := by decide +kernel
theorem dJ5_charAt_5068e_35 : decode cJ5_charAt_5068e 35 = .ok (.baload, 1) := by decide +kernel
theorem dJ5_charAt_5068e_36 : decode cJ5_charAt_5068e 36 = .ok (.sipush 255, 3) := by decide +kernel
theorem dJ5_charAt_5068e_39 : decode cJ5_charAt_5068e 39 = .ok (.iand, 1) := by decide +kernel
theorem dJ5_charAt_5068e_40 : decode cJ5_charAt_5068e 40 = .ok (.i2c, 1) := by decide +kernel
theorem dJ5_charAt_5068e_41 : decode cJ5_charAt_5068e 41 = .ok (.ireturn, 1) := by decide +kernel
theorem dJ5_charAt_5068e_42 : decode cJ5_charAt_5068e 42 = .ok (.aload_n 3, 1) := by decide +kernel
theorem dJ5_charAt_5068e_43 : decode cJ5_charAt_5068e 43 = .ok (.iload_n 1, 1) := by decide +kernel
theorem dJ5_charAt_5068e_44 : decode cJ5_charAt_5068e 44 = .ok (.invokestatic 148, 3) := by decide +kernel
theorem dJ5_charAt_5068e_47 : decode cJ5_charAt_5068e 47 = .ok (.ireturn, 1) := by decide +kernel
theorem dJ5_setLength_d00df_0 : decode cJ5_setLength_d00df 0 = .ok (.iload_n 1, 1) := by decide +kernel
theorem dJ5_setLength_d00df_1 : decode cJ5_setLength_d00df 1 = .ok (.ifCond .ge 12, 3) := by decide +kernel
theorem dJ5_setLength_d00df_4 : decode cJ5_setLength_d00df 4 = .ok (.new 129, 3) := by decide +kernel
theorem dJ5_setLength_d00df_7 : decode cJ5_setLength_d00df 7 = .ok (.dup, 1) := by decide +kernel
theorem dJ5_setLength_d00df_8 : decode cJ5_setLength_d00df 8 = .ok (.iload_n 1, 1) := by decide +kernel
theorem dJ5_setLength_d00df_9 : decode cJ5_setLength_d00df 9 = .ok (.invokespecial 131, 3) := by decide +kernel
theorem dJ5_setLength_d00df_12 : decode cJ5_setLength_d00df 12 = .ok (.athrow, 1) := by decide +kernel
theorem dJ5_setLength_d00df_13 : decode cJ5_setLength_d00df 13 = .ok (.aload_n 0, 1) := by decide +kernel
theorem dJ5_setLength_d00df_14 : decode cJ5_setLength_d00df 14 = .ok (.iload_n 1, 1) := by decide +kernel
theorem dJ5_setLength_d00df_15 : decode cJ5_setLength_d00df 15 = .ok (.invokevirtual 100, 3) := by decide +kernel
theorem dJ5_setLength_d00df_18 : decode cJ5_setLength_d00df 18 = .ok (.aload_n 0, 1) := by decide +kernel
theorem dJ5_setLength_d00df_19 : decode cJ5_setLength_d00df 19 = .ok (.getfield 79, 3) := by decide +kernel
theorem dJ5_setLength_d00df_22 : decode cJ5_setLength_d00df 22 = .ok (.iload_n 1, 1) := by decide +kernel
theorem dJ5_setLength_d00df_23 : decode cJ5_setLength_d00df 23 = .ok (.if_icmp .ge 40, 3) := by decide +kernel
theorem dJ5_setLength_d00df_26 : decode cJ5_setLength_d00df 26 = .ok (.aload_n 0, 1) := by decide +kernel
theorem dJ5_setLength_d00df_27 : decode cJ5_setLength_d00df 27 = .ok (.invokevirtual 83, 3) := by decide +kernel
theorem dJ5_setLength_d00df_30 : decode cJ5_setLength_d00df 30 = .ok (.ifCond .eq 18, 3) := by decide +kernel
theorem dJ5_setLength_d00df_33 : decode cJ5_setLength_d00df 33 = .ok (.aload_n 0, 1) := by decide +kernel
theorem dJ5_setLength_d00df_34 : decode cJ5_setLength_d00df 34 = .ok (.getfield 15, 3) := by decide +kernel
theorem dJ5_setLength_d00df_37 : decode cJ5_setLength_d00df 37 = .ok (.aload_n 0, 1) := by decide +kernel
theorem dJ5_setLength_d00df_38 : decode cJ5_setLength_d00df 38 = .ok (.getfield 79, 3) := by decide +kernel
theorem dJ5_setLength_d00df_41 : decode cJ5_setLength_d00df 41 = .ok (.iload_n 1, 1) := by decide +kernel
theorem dJ5_setLength_d00df_42 : decode cJ5_setLength_d00df 42 = .ok (.invokestatic 133, 3) := by decide +kernel
theorem dJ5_setLength_d00df_45 : decode cJ5_setLength_d00df 45 = .ok (.goto 31, 3) := by decide +kernel
theorem dJ5_setLength_d00df_48 : decode cJ5_setLength_d00df 48 = .ok (.aload_n 0, 1) := by decide +kernel
theorem dJ5_setLength_d00df_49 : decode cJ5_setLength_d00df 49 = .ok (.getfield 15, 3) := by decide +kernel
theorem dJ5_setLength_d00df_52 : decode cJ5_setLength_d00df 52 = .ok (.aload_n 0, 1) := by decide +kernel
theorem dJ5_setLength_d00df_53 : decode cJ5_setLength_d00df 53 = .ok (.getfield 79, 3) := by decide +kernel
theorem dJ5_setLength_d00df_56 : decode cJ5_setLength_d00df 56 = .ok (.iload_n 1, 1) := by decide +kernel
theorem dJ5_setLength_d00df_57 : decode cJ5_setLength_d00df 57 = .ok (.invokestatic 137, 3) := by decide +kernel
theorem dJ5_setLength_d00df_60 : decode cJ5_setLength_d00df 60 = .ok (.goto 16, 3) := by decide +kernel
theorem dJ5_setLength_d00df_63 : decode cJ5_setLength_d00df 63 = .ok (.aload_n 0, 1) := by decide +kernel
theorem dJ5_setLength_d00df_64 : decode cJ5_setLength_d00df 64 = .ok (.getfield 79, 3) := by decide +kernel
theorem dJ5_setLength_d00df_67 : decode cJ5_setLength_d00df 67 = .ok (.iload_n 1, 1) := by decide +kernel
theorem dJ5_setLength_d00df_68 : decode cJ5_setLength_d00df 68 = .ok (.if_icmp .le 8, 3) := by decide +kernel
theorem dJ5_setLength_d00df_71 : decode cJ5_setLength_d00df 71 = .ok (.aload_n 0, 1) := by decide +kernel
theorem dJ5_setLength_d00df_72 : decode cJ5_setLength_d00df 72 = .ok (.iconst 1, 1) := by decide +kernel
theorem dJ5_setLength_d00df_73 : decode cJ5_setLength_d00df 73 = .ok (.putfield 73, 3) := by decide +kernel
theorem dJ5_setLength_d00df_76 : decode cJ5_setLength_d00df 76 = .ok (.aload_n 0, 1) := by decide +kernel
theorem dJ5_setLength_d00df_77 : decode cJ5_setLength_d00df 77 = .ok (.iload_n 1, 1) := by decide +kernel
theorem dJ5_setLength_d00df_78 : decode cJ5_setLength_d00df 78 = .ok (.putfield 79, 3) := by decide +kernel
theorem dJ5_setLength_d00df_81 : decode cJ5_setLength_d00df 81 = .ok (.return_, 1) := by decide +kernel
theorem dJ5_length_8abf5_0 : decode cJ5_length_8abf5 0 = .ok (.aload_n 0, 1) := by decide +kernel
theorem dJ5_length_8abf5_1 : decode cJ5_length_8abf5 1 = .ok (.getfield 79, 3) := by decide +kernel
theorem dJ5_length_8abf5_4 : decode cJ5_length_8abf5 4 = .ok (.ireturn, 1) := by decide +kernel
theorem dJ5_ensureCapacityInternal_d00df_0 : decode cJ5_ensureCapacityInternal_d00df 0 = .ok (.aload_n 0, 1) := by decide +kernel
theorem dJ5_ensureCapacityInternal_d00df_1 : decode cJ5_ensureCapacityInternal_d00df 1 = .ok (.getfield 15, 3) := by decide +kernel
theorem dJ5_ensureCapacityInternal_d00df_4 : decode cJ5_ensureCapacityInternal_d00df 4 = .ok (.arraylength, 1) := by decide +kernel
theorem dJ5_ensureCapacityInternal_d00df_5 : decode cJ5_ensureCapacityInternal_d00df 5 = .ok (.aload_n 0, 1) := by decide +kernel
theorem dJ5_ensureCapacityInternal_d00df_6 : decode cJ5_ensureCapacityInternal_d00df 6 = .ok (.getfield 22, 3) := by decide +kernel
theorem dJ5_ensureCapacityInternal_d00df_9 : decode cJ5_ensureCapacityInternal_d00df 9 = .ok (.ishr, 1) := by decide +kernel
theorem dJ5_ensureCapacityInternal_d00df_10 : decode cJ5_ensureCapacityInternal_d00df 10 = .ok (.istore_n 2, 1) := by decide +kernel
theorem dJ5_ensureCapacityInternal_d00df_11 : decode cJ5_ensureCapacityInternal_d00df 11 = .ok (.iload_n 1, 1) := by decide +kernel
theorem dJ5_ensureCapacityInternal_d00df_12 : decode cJ5_ensureCapacityInternal_d00df 12 = .ok (.iload_n 2, 1) := by decide +kernel
theorem dJ5_ensureCapacityInternal_d00df_13 : decode cJ5_ensureCapacityInternal_d00df 13 = .ok (.isub, 1) := by decide +kernel
theorem dJ5_ensureCapacityInternal_d00df_14 : decode cJ5_ensureCapacityInternal_d00df 14 = .ok (.ifCond .le 24, 3) := by decide +kernel
theorem dJ5_ensureCapacityInternal_d00df_17 : decode cJ5_ensureCapacityInternal_d00df 17 = .ok (.aload_n 0, 1) := by decide +kernel
theorem dJ5_ensureCapacityInternal_d00df_18 : decode cJ5_ensureCapacityInternal_d00df 18 = .ok (.aload_n 0, 1) := by decide +kernel
theorem dJ5_ensureCapacityInternal_d00df_19 : decode cJ5_ensureCapacityInternal_d00df 19 = .ok (.getfield 15, 3) := by decide +kernel
theorem dJ5_ensureCapacityInternal_d00df_22 : decode cJ5_ensureCapacityInternal_d00df 22 = .ok (.aload_n 0, 1) := by decide +kernel
theorem dJ5_ensureCapacityInternal_d00df_23 : decode cJ5_ensureCapacityInternal_d00df 23 = .ok (.iload_n 1, 1) := by decide +kernel
theorem dJ5_ensureCapacityInternal_d00df_24 : decode cJ5_ensureCapacityInternal_d00df 24 = .ok (.invokevirtual 104, 3) := by decide +kernel
theorem dJ5_ensureCapacityInternal_d00df_27 : decode cJ5_ensureCapacityInternal_d00df 27 = .ok (.aload_n 0, 1) := by decide +kernel
theorem dJ5_ensureCapacityInternal_d00df_28 : decode cJ5_ensureCapacityInternal_d00df 28 = .ok (.getfield 22, 3) := by decide +kernel
theorem dJ5_ensureCapacityInternal_d00df_31 : decode cJ5_ensureCapacityInternal_d00df 31 = .ok (.ishl, 1) := by decide +kernel
theorem dJ5_ensureCapacityInternal_d00df_32 : decode cJ5_ensureCapacityInternal_d00df 32 = .ok (.invokestatic 108, 3) := by decide +kernel
theorem dJ5_ensureCapacityInternal_d00df_35 : decode cJ5_ensureCapacityInternal_d00df 35 = .ok (.putfield 15, 3) := by decide +kernel
theorem dJ5_ensureCapacityInternal_d00df_38 : decode cJ5_ensureCapacityInternal_d00df 38 = .ok (.return_, 1) := by decide +kernel
theorem dJ5_isLatin1_aae02_0 : decode cJ5_isLatin1_aae02 0 = .ok (.getstatic 18, 3) := by decide +kernel
theorem dJ5_isLatin1_aae02_3 : decode cJ5_isLatin1_aae02 3 = .ok (.ifCond .eq 14, 3) := by decide +kernel
theorem dJ5_isLatin1_aae02_6 : decode cJ5_isLatin1_aae02 6 = .ok (.aload_n 0, 1) := by decide +kernel
theorem dJ5_isLatin1_aae02_7 : decode cJ5_isLatin1_aae02 7 = .ok (.getfield 22, 3) := by decide +kernel
theorem dJ5_isLatin1_aae02_10 : decode cJ5_isLatin1_aae02 10 = .ok (.ifCond .ne 7, 3) := by decide +kernel
theorem dJ5_isLatin1_aae02_13 : decode cJ5_isLatin1_aae02 13 = .ok (.iconst 1, 1) := by decide +kernel
theorem dJ5_isLatin1_aae02_14 : decode cJ5_isLatin1_aae02 14 = .ok (.goto 4, 3) := by decide +kernel
theorem dJ5_isLatin1_aae02_17 : decode cJ5_isLatin1_aae02 17 = .ok (.iconst 0, 1) := by decide +kernel
theorem dJ5_isLatin1_aae02_18 : decode cJ5_isLatin1_aae02 18 = .ok (.ireturn, 1) := by decide +kernel
theorem dJ5_putStringAt_47b60_0 : decode cJ5_putStringAt_47b60 0 = .ok (.aload_n 0, 1) := by decide +kernel
theorem dJ5_putStringAt_47b60_1 : decode cJ5_putStringAt_47b60 1 = .ok (.aload_n 2, 1) := by decide +kernel
theorem dJ5_putStringAt_47b60_2 : decode cJ5_putStringAt_47b60 2 = .ok (.invokevirtual 397, 3) := by decide +kernel
theorem dJ5_putStringAt_47b60_5 : decode cJ5_putStringAt_47b60 5 = .ok (.aload_n 2, 1) := by decide +kernel
theorem dJ5_putStringAt_47b60_6 : decode cJ5_putStringAt_47b60 6 = .ok (.aload_n 0, 1) := by decide +kernel
theorem dJ5_putStringAt_47b60_7 : decode cJ5_putStringAt_47b60 7 = .ok (.getfield 15, 3) := by decide +kernel
theorem dJ5_putStringAt_47b60_10 : decode cJ5_putStringAt_47b60 10 = .ok (.iload_n 1, 1) := by decide +kernel
theorem dJ5_putStringAt_47b60_11 : decode cJ5_putStringAt_47b60 11 = .ok (.aload_n 0, 1) := by decide +kernel
theorem dJ5_putStringAt_47b60_12 : decode cJ5_putStringAt_47b60 12 = .ok (.getfield 22, 3) := by decide +kernel
theorem dJ5_putStringAt_47b60_15 : decode cJ5_putStringAt_47b60 15 = .ok (.invokevirtual 399, 3) := by decide +kernel
theorem dJ5_putStringAt_47b60_18 : decode cJ5_putStringAt_47b60 18 = .ok (.return_, 1) := by decide +kernel
theorem dJ5_inflateIfNeededFor_a7421_0 : decode cJ5_inflateIfNeededFor_a7421 0 = .ok (.getstatic 18, 3) := by decide +kernel
theorem dJ5_inflateIfNeededFor_a7421_3 : decode cJ5_inflateIfNeededFor_a7421 3 = .ok (.ifCond .eq 18, 3) := by decide +kernel
theorem dJ5_inflateIfNeededFor_a7421_6 : decode cJ5_inflateIfNeededFor_a7421 6 = .ok (.aload_n 0, 1) := by decide +kernel
theorem dJ5_inflateIfNeededFor_a7421_7 : decode cJ5_inflateIfNeededFor_a7421 7 = .ok (.getfield 22, 3) := by decide +kernel
theorem dJ5_inflateIfNeededFor_a7421_10 : decode cJ5_inflateIfNeededFor_a7421 10 = .ok (.aload_n 1, 1) := by decide +kernel
theorem dJ5_inflateIfNeededFor_a7421_11 : decode cJ5_inflateIfNeededFor_a7421 11 = .ok (.invokevirtual 40, 3) := by decide +kernel
theorem dJ5_inflateIfNeededFor_a7421_14 : decode cJ5_inflateIfNeededFor_a7421 14 = .ok (.if_icmp .eq 7, 3) := by decide +kernel
theorem dJ5_inflateIfNeededFor_a7421_17 : decode cJ5_inflateIfNeededFor_a7421 17 = .ok (.aload_n 0, 1) := by decide +kernel
theorem dJ5_inflateIfNeededFor_a7421_18 : decode cJ5_inflateIfNeededFor_a7421 18 = .ok (.invokevirtual 195, 3) := by decide +kernel
theorem dJ5_inflateIfNeededFor_a7421_21 : decode cJ5_inflateIfNeededFor_a7421 21 = .ok (.return_, 1) := by decide +kernel
theorem dJ5_init_d00df_0 : decode cJ5_init_d00df 0 = .ok (.aload_n 0, 1) := by decide +kernel
theorem dJ5_init_d00df_1 : decode cJ5_init_d00df 1 = .ok (.invokespecial 3, 3) := by decide +kernel
theorem dJ5_init_d00df_4 : decode cJ5_init_d00df 4 = .ok (.getstatic 18, 3) := by decide +kernel
theorem dJ5_init_d00df_7 : decode cJ5_init_d00df 7 = .ok (.ifCond .eq 18, 3) := by decide +kernel
theorem dJ5_init_d00df_10 : decode cJ5_init_d00df 10 = .ok (.aload_n 0, 1) := by decide +kernel
theorem dJ5_init_d00df_11 : decode cJ5_init_d00df 11 = .ok (.iload_n 1, 1) := by decide +kernel
theorem dJ5_init_d00df_12 : decode cJ5_init_d00df 12 = .ok (.newarray .byte, 2) := by decide +kernel
theorem dJ5_init_d00df_14 : decode cJ5_init_d00df 14 = .ok (.putfield 15, 3) := by decide +kernel
theorem dJ5_init_d00df_17 : decode cJ5_init_d00df 17 = .ok (.aload_n 0, 1) := by decide +kernel
theorem dJ5_init_d00df_18 : decode cJ5_init_d00df 18 = .ok (.iconst 0, 1) := by decide +kernel
theorem dJ5_init_d00df_19 : decode cJ5_init_d00df 19 = .ok (.putfield 22, 3) := by decide +kernel
theorem dJ5_init_d00df_22 : decode cJ5_init_d00df 22 = .ok (.goto 16, 3) := by decide +kernel
theorem dJ5_init_d00df_25 : decode cJ5_init_d00df 25 = .ok (.aload_n 0, 1) := by decide +kernel
theorem dJ5_init_d00df_26 : decode cJ5_init_d00df 26 = .ok (.iload_n 1, 1) := by decide +kernel
theorem dJ5_init_d00df_27 : decode cJ5_init_d00df 27 = .ok (.invokestatic 26, 3) := by decide +kernel
theorem dJ5_init_d00df_30 : decode cJ5_init_d00df 30 = .ok (.putfield 15, 3) := by decide +kernel
theorem dJ5_init_d00df_33 : decode cJ5_init_d00df 33 = .ok (.aload_n 0, 1) := by decide +kernel
theorem dJ5_init_d00df_34 : decode cJ5_init_d00df 34 = .ok (.iconst 1, 1) := by decide +kernel
theorem dJ5_init_d00df_35 : decode cJ5_init_d00df 35 = .ok (.putfield 22, 3) := by decide +kernel
theorem dJ5_init_d00df_38 : decode cJ5_init_d00df 38 = .ok (.return_, 1) := by decide +kernel
theorem dJ6_stringSize_0f7a4_0 : decode cJ6_stringSize_0f7a4 0 = .ok (.iconst 1, 1) := by decide +kernel
theorem dJ6_stringSize_0f7a4_1 : decode cJ6_stringSize_0f7a4 1 = .ok (.istore_n 1, 1) := by decide +kernel
theorem dJ6_stringSize_0f7a4_2 : decode cJ6_stringSize_0f7a4 2 = .ok (.iload_n 0, 1) := by decide +kernel
theorem dJ6_stringSize_0f7a4_3 : decode cJ6_stringSize_0f7a4 3 = .ok (.ifCond .lt 8, 3) := by decide +kernel
theorem dJ6_stringSize_0f7a4_6 : decode cJ6_stringSize_0f7a4 6 = .ok (.iconst 0, 1) := by decide +kernel
theorem dJ6_stringSize_0f7a4_7 : decode cJ6_stringSize_0f7a4 7 = .ok (.istore_n 1, 1) := by decide +kernel
theorem dJ6_stringSize_0f7a4_8 : decode cJ6_stringSize_0f7a4 8 = .ok (.iload_n 0, 1) := by decide +kernel
theorem dJ6_stringSize_0f7a4_9 : decode cJ6_stringSize_0f7a4 9 = .ok (.ineg, 1) := by decide +kernel
theorem dJ6_stringSize_0f7a4_10 : decode cJ6_stringSize_0f7a4 10 = .ok (.istore_n 0, 1) := by decide +kernel
theorem dJ6_stringSize_0f7a4_11 : decode cJ6_stringSize_0f7a4 11 = .ok (.bipush (-10), 2) := by decide +kernel
theorem dJ6_stringSize_0f7a4_13 : decode cJ6_stringSize_0f7a4 13 = .ok (.istore_n 2, 1) := by decide +kernel
theorem dJ6_stringSize_0f7a4_14 : decode cJ6_stringSize_0f7a4 14 = .ok (.iconst 1, 1) := by decide +kernel
theorem dJ6_stringSize_0f7a4_15 : decode cJ6_stringSize_0f7a4 15 = .ok (.istore_n 3, 1) := by decide +kernel
theorem dJ6_stringSize_0f7a4_16 : decode cJ6_stringSize_0f7a4 16 = .ok (.iload_n 3, 1) := by decide +kernel
theorem dJ6_stringSize_0f7a4_17 : decode cJ6_stringSize_0f7a4 17 = .ok (.bipush 10, 2) := by decide +kernel
theorem dJ6_stringSize_0f7a4_19 : decode cJ6_stringSize_0f7a4 19 = .ok (.if_icmp .ge 23, 3) := by decide +kernel
theorem dJ6_stringSize_0f7a4_22 : decode cJ6_stringSize_0f7a4 22 = .ok (.iload_n 0, 1) := by decide +kernel
theorem dJ6_stringSize_0f7a4_23 : decode cJ6_stringSize_0f7a4 23 = .ok (.iload_n 2, 1) := by decide +kernel
theorem dJ6_stringSize_0f7a4_24 : decode cJ6_stringSize_0f7a4 24 = .ok (.if_icmp .le 7, 3) := by decide +kernel
theorem dJ6_stringSize_0f7a4_27 : decode cJ6_stringSize_0f7a4 27 = .ok (.iload_n 3, 1) := by decide +kernel
theorem dJ6_stringSize_0f7a4_28 : decode cJ6_stringSize_0f7a4 28 = .ok (.iload_n 1, 1) := by decide +kernel
theorem dJ6_stringSize_0f7a4_29 : decode cJ6_stringSize_0f7a4 29 = .ok (.iadd, 1) := by decide +kernel
theorem dJ6_stringSize_0f7a4_30 : decode cJ6_stringSize_0f7a4 30 = .ok (.ireturn, 1) := by decide +kernel
theorem dJ6_stringSize_0f7a4_31 : decode cJ6_stringSize_0f7a4 31 = .ok (.bipush 10, 2) := by decide +kernel
theorem dJ6_stringSize_0f7a4_33 : decode cJ6_stringSize_0f7a4 33 = .ok (.iload_n 2, 1) := by decide +kernel
theorem dJ6_stringSize_0f7a4_34 : decode cJ6_stringSize_0f7a4 34 = .ok (.imul, 1) := by decide +kernel
theorem dJ6_stringSize_0f7a4_35 : decode cJ6_stringSize_0f7a4 35 = .ok (.istore_n 2, 1) := by decide +kernel
theorem dJ6_stringSize_0f7a4_36 : decode cJ6_stringSize_0f7a4 36 = .ok (.iinc 3 1, 3) := by decide +kernel
theorem dJ6_stringSize_0f7a4_39 : decode cJ6_stringSize_0f7a4 39 = .ok (.goto (-23), 3) := by decide +kernel
theorem dJ6_stringSize_0f7a4_42 : decode cJ6_stringSize_0f7a4 42 = .ok (.bipush 10, 2) := by decide +kernel
theorem dJ6_stringSize_0f7a4_44 : decode cJ6_stringSize_0f7a4 44 = .ok (.iload_n 1, 1) := by decide +kernel
theorem dJ6_stringSize_0f7a4_45 : decode cJ6_stringSize_0f7a4 45 = .ok (.iadd, 1) := by decide +kernel
theorem dJ6_stringSize_0f7a4_46 : decode cJ6_stringSize_0f7a4 46 = .ok (.ireturn, 1) := by decide +kernel
theorem dJ6_getChars_ba4f3_0 : decode cJ6_getChars_ba4f3 0 = .ok (.iload_n 1, 1) := by decide +kernel
theorem dJ6_getChars_ba4f3_1 : decode cJ6_getChars_ba4f3 1 = .ok (.istore 5, 2) := by decide +kernel
theorem dJ6_getChars_ba4f3_3 : decode cJ6_getChars_ba4f3 3 = .ok (.iload_n 0, 1) := by decide +kernel
theorem dJ6_getChars_ba4f3_4 : decode cJ6_getChars_ba4f3 4 = .ok (.ifCond .ge 7, 3) := by decide +kernel
theorem dJ6_getChars_ba4f3_7 : decode cJ6_getChars_ba4f3 7 = .ok (.iconst 1, 1) := by decide +kernel
theorem dJ6_getChars_ba4f3_8 : decode cJ6_getChars_ba4f3 8 = .ok (.goto 4, 3) := by decide +kernel
theorem dJ6_getChars_ba4f3_11 : decode cJ6_getChars_ba4f3 11 = .ok (.iconst 0, 1) := by decide +kernel
theorem dJ6_getChars_ba4f3_12 : decode cJ6_getChars_ba4f3 12 = .ok (.istore 6, 2) := by decide +kernel
theorem dJ6_getChars_ba4f3_14 : decode cJ6_getChars_ba4f3 14 = .ok (.iload 6, 2) := by decide +kernel
theorem dJ6_getChars_ba4f3_16 : decode cJ6_getChars_ba4f3 16 = .ok (.ifCond .ne 6, 3) := by decide +kernel
theorem dJ6_getChars_ba4f3_19 : decode cJ6_getChars_ba4f3 19 = .ok (.iload_n 0, 1) := by decide +kernel
theorem dJ6_getChars_ba4f3_20 : decode cJ6_getChars_ba4f3 20 = .ok (.ineg, 1) := by decide +kernel
theorem dJ6_getChars_ba4f3_21 : decode cJ6_getChars_ba4f3 21 = .ok (.istore_n 0, 1) := by decide +kernel
theorem dJ6_getChars_ba4f3_22 : decode cJ6_getChars_ba4f3 22 = .ok (.iload_n 0, 1) := by decide +kernel
theorem dJ6_getChars_ba4f3_23 : decode cJ6_getChars_ba4f3 23 = .ok (.bipush (-100), 2) := by decide +kernel
theorem dJ6_getChars_ba4f3_25 : decode cJ6_getChars_ba4f3 25 = .ok (.if_icmp .gt 47, 3) := by decide +kernel
theorem dJ6_getChars_ba4f3_28 : decode cJ6_getChars_ba4f3 28 = .ok (.iload_n 0, 1) := by decide +kernel
theorem dJ6_getChars_ba4f3_29 : decode cJ6_getChars_ba4f3 29 = .ok (.bipush 100, 2) := by decide +kernel
theorem dJ6_getChars_ba4f3_31 : decode cJ6_getChars_ba4f3 31 = .ok (.idiv, 1) := by decide +kernel
theorem dJ6_getChars_ba4f3_32 : decode cJ6_getChars_ba4f3 32 = .ok (.istore_n 3, 1) := by decide +kernel
theorem dJ6_getChars_ba4f3_33 : decode cJ6_getChars_ba4f3 33 = .ok (.iload_n 3, 1) := by decide +kernel
theorem dJ6_getChars_ba4f3_34 : decode cJ6_getChars_ba4f3 34 = .ok (.bipush 100, 2) := by decide +kernel
theorem dJ6_getChars_ba4f3_36 : decode cJ6_getChars_ba4f3 36 = .ok (.imul, 1) := by decide +kernel
theorem dJ6_getChars_ba4f3_37 : decode cJ6_getChars_ba4f3 37 = .ok (.iload_n 0, 1) := by decide +kernel
theorem dJ6_getChars_ba4f3_38 : decode cJ6_getChars_ba4f3 38 = .ok (.isub, 1) := by decide +kernel
theorem dJ6_getChars_ba4f3_39 : decode cJ6_getChars_ba4f3 39 = .ok (.istore 4, 2) := by decide +kernel
theorem dJ6_getChars_ba4f3_41 : decode cJ6_getChars_ba4f3 41 = .ok (.iload_n 3, 1) := by decide +kernel
theorem dJ6_getChars_ba4f3_42 : decode cJ6_getChars_ba4f3 42 = .ok (.istore_n 0, 1) := by decide +kernel
theorem dJ6_getChars_ba4f3_43 : decode cJ6_getChars_ba4f3 43 = .ok (.aload_n 2, 1) := by decide +kernel
theorem dJ6_getChars_ba4f3_44 : decode cJ6_getChars_ba4f3 44 = .ok (.iinc 5 (-1), 3) := by decide +kernel
theorem dJ6_getChars_ba4f3_47 : decode cJ6_getChars_ba4f3 47 = .ok (.iload 5, 2) := by decide +kernel
theorem dJ6_getChars_ba4f3_49 : decode cJ6_getChars_ba4f3 49 = .ok (.getstatic 83, 3) := by decide +kernel
theorem dJ6_getChars_ba4f3_52 : decode cJ6_getChars_ba4f3 52 = .ok (.iload 4, 2) := by decide +kernel
theorem dJ6_getChars_ba4f3_54 : decode cJ6_getChars_ba4f3 54 = .ok (.baload, 1) := by decide +kernel
theorem dJ6_getChars_ba4f3_55 : decode cJ6_getChars_ba4f3 55 = .ok (.bastore, 1) := by decide +kernel
theorem dJ6_getChars_ba4f3_56 : decode cJ6_getChars_ba4f3 56 = .ok (.aload_n 2, 1) := by decide +kernel
theorem dJ6_getChars_ba4f3_57 : decode cJ6_getChars_ba4f3 57 = .ok (.iinc 5 (-1), 3) := by decide +kernel
theorem dJ6_getChars_ba4f3_60 : decode cJ6_getChars_ba4f3 60 = .ok (.iload 5, 2) := by decide +kernel
theorem dJ6_getChars_ba4f3_62 : decode cJ6_getChars_ba4f3 62 = .ok (.getstatic 87, 3) := by decide +kernel
theorem dJ6_getChars_ba4f3_65 : decode cJ6_getChars_ba4f3 65 = .ok (.iload 4, 2) := by decide +kernel
theorem dJ6_getChars_ba4f3_67 : decode cJ6_getChars_ba4f3 67 = .ok (.baload, 1) := by decide +kernel
theorem dJ6_getChars_ba4f3_68 : decode cJ6_getChars_ba4f3 68 = .ok (.bastore, 1) := by decide +kernel
theorem dJ6_getChars_ba4f3_69 : decode cJ6_getChars_ba4f3 69 = .ok (.goto (-47), 3) := by decide +kernel
theorem dJ6_getChars_ba4f3_72 : decode cJ6_getChars_ba4f3 72 = .ok (.aload_n 2, 1) := by decide +kernel
theorem dJ6_getChars_ba4f3_73 : decode cJ6_getChars_ba4f3 73 = .ok (.iinc 5 (-1), 3) := by decide +kernel
theorem dJ6_getChars_ba4f3_76 : decode cJ6_getChars_ba4f3 76 = .ok (.iload 5, 2) := by decide +kernel
theorem dJ6_getChars_ba4f3_78 : decode cJ6_getChars_ba4f3 78 = .ok (.getstatic 83, 3) := by decide +kernel
theorem dJ6_getChars_ba4f3_81 : decode cJ6_getChars_ba4f3 81 = .ok (.iload_n 0, 1) := by decide +kernel
theorem dJ6_getChars_ba4f3_82 : decode cJ6_getChars_ba4f3 82 = .ok (.ineg, 1) := by decide +kernel
theorem dJ6_getChars_ba4f3_83 : decode cJ6_getChars_ba4f3 83 = .ok (.baload, 1) := by decide +kernel
theorem dJ6_getChars_ba4f3_84 : decode cJ6_getChars_ba4f3 84 = .ok (.bastore, 1) := by decide +kernel
theorem dJ6_getChars_ba4f3_85 : decode cJ6_getChars_ba4f3 85 = .ok (.iload_n 0, 1) := by decide +kernel
theorem dJ6_getChars_ba4f3_86 : decode cJ6_getChars_ba4f3 86 = .ok (.bipush (-9), 2) := by decide +kernel
theorem dJ6_getChars_ba4f3_88 : decode cJ6_getChars_ba4f3 88 = .ok (.if_icmp .ge 16, 3) := by decide +kernel
theorem dJ6_getChars_ba4f3_91 : decode cJ6_getChars_ba4f3 91 = .ok (.aload_n 2, 1) := by decide +kernel
theorem dJ6_getChars_ba4f3_92 : decode cJ6_getChars_ba4f3 92 = .ok (.iinc 5 (-1), 3) := by decide +kernel
theorem dJ6_getChars_ba4f3_95 : decode cJ6_getChars_ba4f3 95 = .ok (.iload 5, 2) := by decide +kernel
theorem dJ6_getChars_ba4f3_97 : decode cJ6_getChars_ba4f3 97 = .ok (.getstatic 87, 3) := by decide +kernel
theorem dJ6_getChars_ba4f3_100 : decode cJ6_getChars_ba4f3 100 = .ok (.iload_n 0, 1) := by decide +kernel
theorem dJ6_getChars_ba4f3_101 : decode cJ6_getChars_ba4f3 101 = .ok (.ineg, 1) := by decide +kernel
theorem dJ6_getChars_ba4f3_102 : decode cJ6_getChars_ba4f3 102 = .ok (.baload, 1) := by decide +kernel
theorem dJ6_getChars_ba4f3_103 : decode cJ6_getChars_ba4f3 103 = .ok (.bastore, 1) := by decide +kernel
theorem dJ6_getChars_ba4f3_104 : decode cJ6_getChars_ba4f3 104 = .ok (.iload 6, 2) := by decide +kernel
theorem dJ6_getChars_ba4f3_106 : decode cJ6_getChars_ba4f3 106 = .ok (.ifCond .eq 12, 3) := by decide +kernel
theorem dJ6_getChars_ba4f3_109 : decode cJ6_getChars_ba4f3 109 = .ok (.aload_n 2, 1) := by decide +kernel
theorem dJ6_getChars_ba4f3_110 : decode cJ6_getChars_ba4f3 110 = .ok (.iinc 5 (-1), 3) := by decide +kernel
theorem dJ6_getChars_ba4f3_113 : decode cJ6_getChars_ba4f3 113 = .ok (.iload 5, 2) := by decide +kernel
theorem dJ6_getChars_ba4f3_115 : decode cJ6_getChars_ba4f3 115 = .ok (.bipush 45, 2) := by decide +kernel
theorem dJ6_getChars_ba4f3_117 : decode cJ6_getChars_ba4f3 117 = .ok (.bastore, 1) := by decide +kernel
theorem dJ6_getChars_ba4f3_118 : decode cJ6_getChars_ba4f3 118 = .ok (.iload 5, 2) := by decide +kernel
theorem dJ6_getChars_ba4f3_120 : decode cJ6_getChars_ba4f3 120 = .ok (.ireturn, 1) := by decide +kernel
theorem dJ9_floorDiv_f86c9_0 : decode cJ9_floorDiv_f86c9 0 = .ok (.lload_n 0, 1) := by decide +kernel
theorem dJ9_floorDiv_f86c9_1 : decode cJ9_floorDiv_f86c9 1 = .ok (.lload_n 2, 1) := by decide +kernel
theorem dJ9_floorDiv_f86c9_2 : decode cJ9_floorDiv_f86c9 2 = .ok (.ldiv, 1) := by decide +kernel
theorem dJ9_floorDiv_f86c9_3 : decode cJ9_floorDiv_f86c9 3 = .ok (.lstore 4, 2) := by decide +kernel
theorem dJ9_floorDiv_f86c9_5 : decode cJ9_floorDiv_f86c9 5 = .ok (.lload_n 0, 1) := by decide +kernel
theorem dJ9_floorDiv_f86c9_6 : decode cJ9_floorDiv_f86c9 6 = .ok (.lload_n 2, 1) := by decide +kernel
theorem dJ9_floorDiv_f86c9_7 : decode cJ9_floorDiv_f86c9 7 = .ok (.lxor, 1) := by decide +kernel
theorem dJ9_floorDiv_f86c9_8 : decode cJ9_floorDiv_f86c9 8 = .ok (.lconst 0, 1) := by decide +kernel
theorem dJ9_floorDiv_f86c9_9 : decode cJ9_floorDiv_f86c9 9 = .ok (.lcmp, 1) := by decide +kernel
theorem dJ9_floorDiv_f86c9_10 : decode cJ9_floorDiv_f86c9 10 = .ok (.ifCond .ge 17, 3) := by decide +kernel
theorem dJ9_floorDiv_f86c9_13 : decode cJ9_floorDiv_f86c9 13 = .ok (.lload 4, 2) := by decide +kernel
theorem dJ9_floorDiv_f86c9_15 : decode cJ9_floorDiv_f86c9 15 = .ok (.lload_n 2, 1) := by decide +kernel
theorem dJ9_floorDiv_f86c9_16 : decode cJ9_floorDiv_f86c9 16 = .ok (.lmul, 1) := by decide +kernel
theorem dJ9_floorDiv_f86c9_17 : decode cJ9_floorDiv_f86c9 17 = .ok (.lload_n 0, 1) := by decide +kernel
theorem dJ9_floorDiv_f86c9_18 : decode cJ9_floorDiv_f86c9 18 = .ok (.lcmp, 1) := by decide +kernel
theorem dJ9_floorDiv_f86c9_19 : decode cJ9_floorDiv_f86c9 19 = .ok (.ifCond .eq 8, 3) := by decide +kernel
theorem dJ9_floorDiv_f86c9_22 : decode cJ9_floorDiv_f86c9 22 = .ok (.lload 4, 2) := by decide +kernel
theorem dJ9_floorDiv_f86c9_24 : decode cJ9_floorDiv_f86c9 24 = .ok (.lconst 1, 1) := by decide +kernel
theorem dJ9_floorDiv_f86c9_25 : decode cJ9_floorDiv_f86c9 25 = .ok (.lsub, 1) := by decide +kernel
theorem dJ9_floorDiv_f86c9_26 : decode cJ9_floorDiv_f86c9 26 = .ok (.lreturn, 1) := by decide +kernel
theorem dJ9_floorDiv_f86c9_27 : decode cJ9_floorDiv_f86c9 27 = .ok (.lload 4, 2) := by decide +kernel
theorem dJ9_floorDiv_f86c9_29 : decode cJ9_floorDiv_f86c9 29 = .ok (.lreturn, 1) := by decide +kernel
theorem dJ9_floorMod_7cf53_0 : decode cJ9_floorMod_7cf53 0 = .ok (.iload_n 0, 1) := by decide +kernel
theorem dJ9_floorMod_7cf53_1 : decode cJ9_floorMod_7cf53 1 = .ok (.iload_n 1, 1) := by decide +kernel
theorem dJ9_floorMod_7cf53_2 : decode cJ9_floorMod_7cf53 2 = .ok (.irem, 1) := by decide +kernel
theorem dJ9_floorMod_7cf53_3 : decode cJ9_floorMod_7cf53 3 = .ok (.istore_n 2, 1) := by decide +kernel
theorem dJ9_floorMod_7cf53_4 : decode cJ9_floorMod_7cf53 4 = .ok (.iload_n 0, 1) := by decide +kernel
theorem dJ9_floorMod_7cf53_5 : decode cJ9_floorMod_7cf53 5 = .ok (.iload_n 1, 1) := by decide +kernel
theorem dJ9_floorMod_7cf53_6 : decode cJ9_floorMod_7cf53 6 = .ok (.ixor, 1) := by decide +kernel
theorem dJ9_floorMod_7cf53_7 : decode cJ9_floorMod_7cf53 7 = .ok (.ifCond .ge 11, 3) := by decide +kernel
theorem dJ9_floorMod_7cf53_10 : decode cJ9_floorMod_7cf53 10 = .ok (.iload_n 2, 1) := by decide +kernel
theorem dJ9_floorMod_7cf53_11 : decode cJ9_floorMod_7cf53 11 = .ok (.ifCond .eq 7, 3) := by decide +kernel
theorem dJ9_floorMod_7cf53_14 : decode cJ9_floorMod_7cf53 14 = .ok (.iload_n 2, 1) := by decide +kernel
theorem dJ9_floorMod_7cf53_15 : decode cJ9_floorMod_7cf53 15 = .ok (.iload_n 1, 1) := by decide +kernel
theorem dJ9_floorMod_7cf53_16 : decode cJ9_floorMod_7cf53 16 = .ok (.iadd, 1) := by decide +kernel
theorem dJ9_floorMod_7cf53_17 : decode cJ9_floorMod_7cf53 17 = .ok (.ireturn, 1) := by decide +kernel
theorem dJ9_floorMod_7cf53_18 : decode cJ9_floorMod_7cf53 18 = .ok (.iload_n 2, 1) := by decide +kernel
theorem dJ9_floorMod_7cf53_19 : decode cJ9_floorMod_7cf53 19 = .ok (.ireturn, 1) := by decide +kernel
theorem dJ6_compare_7cf53_0 : decode cJ6_compare_7cf53 0 = .ok (.iload_n 0, 1) := by decide +kernel
theorem dJ6_compare_7cf53_1 : decode cJ6_compare_7cf53 1 = .ok (.iload_n 1, 1) := by decide +kernel
theorem dJ6_compare_7cf53_2 : decode cJ6_compare_7cf53 2 = .ok (.if_icmp .ge 7, 3) := by decide +kernel
theorem dJ6_compare_7cf53_5 : decode cJ6_compare_7cf53 5 = .ok (.iconst (-1), 1) := by decide +kernel
theorem dJ6_compare_7cf53_6 : decode cJ6_compare_7cf53 6 = .ok (.goto 13, 3) := by decide +kernel
theorem dJ6_compare_7cf53_9 : decode cJ6_compare_7cf53 9 = .ok (.iload_n 0, 1) := by decide +kernel
theorem dJ6_compare_7cf53_10 : decode cJ6_compare_7cf53 10 = .ok (.iload_n 1, 1) := by decide +kernel
theorem dJ6_compare_7cf53_11 : decode cJ6_compare_7cf53 11 = .ok (.if_icmp .ne 7, 3) := by decide +kernel
theorem dJ6_compare_7cf53_14 : decode cJ6_compare_7cf53 14 = .ok (.iconst 0, 1) := by decide +kernel
theorem dJ6_compare_7cf53_15 : decode cJ6_compare_7cf53 15 = .ok (.goto 4, 3) := by decide +kernel
theorem dJ6_compare_7cf53_18 : decode cJ6_compare_7cf53 18 = .ok (.iconst 1, 1) := by decide +kernel
theorem dJ6_compare_7cf53_19 : decode cJ6_compare_7cf53 19 = .ok (.ireturn, 1) := by decide +kernel
theorem dJ6_bitCount_0f7a4_0 : decode cJ6_bitCount_0f7a4 0 = .ok (.iload_n 0, 1) := by decide +kernel
theorem dJ6_bitCount_0f7a4_1 : decode cJ6_bitCount_0f7a4 1 = .ok (.iload_n 0, 1) := by decide +kernel
theorem dJ6_bitCount_0f7a4_2 : decode cJ6_bitCount_0f7a4 2 = .ok (.iconst 1, 1) := by decide +kernel
theorem dJ6_bitCount_0f7a4_3 : decode cJ6_bitCount_0f7a4 3 = .ok (.iushr, 1) := by decide +kernel
theorem dJ6_bitCount_0f7a4_4 : decode cJ6_bitCount_0f7a4 4 = .ok (.ldc_w 265, 3) := by decide +kernel
theorem dJ6_bitCount_0f7a4_7 : decode cJ6_bitCount_0f7a4 7 = .ok (.iand, 1) := by decide +kernel
theorem dJ6_bitCount_0f7a4_8 : decode cJ6_bitCount_0f7a4 8 = .ok (.isub, 1) := by decide +kernel
theorem dJ6_bitCount_0f7a4_9 : decode cJ6_bitCount_0f7a4 9 = .ok (.istore_n 0, 1) := by decide +kernel
theorem dJ6_bitCount_0f7a4_10 : decode cJ6_bitCount_0f7a4 10 = .ok (.iload_n 0, 1) := by decide +kernel
theorem dJ6_bitCount_0f7a4_11 : decode cJ6_bitCount_0f7a4 11 = .ok (.ldc_w 266, 3) := by decide +kernel
theorem dJ6_bitCount_0f7a4_14 : decode cJ6_bitCount_0f7a4 14 = .ok (.iand, 1) := by decide +kernel
theorem dJ6_bitCount_0f7a4_15 : decode cJ6_bitCount_0f7a4 15 = .ok (.iload_n 0, 1) := by decide +kernel
theorem dJ6_bitCount_0f7a4_16 : decode cJ6_bitCount_0f7a4 16 = .ok (.iconst 2, 1) := by decide +kernel
theorem dJ6_bitCount_0f7a4_17 : decode cJ6_bitCount_0f7a4 17 = .ok (.iushr, 1) := by decide +kernel
theorem dJ6_bitCount_0f7a4_18 : decode cJ6_bitCount_0f7a4 18 = .ok (.ldc_w 266, 3) := by decide +kernel
theorem dJ6_bitCount_0f7a4_21 : decode cJ6_bitCount_0f7a4 21 = .ok (.iand, 1) := by decide +kernel
theorem dJ6_bitCount_0f7a4_22 : decode cJ6_bitCount_0f7a4 22 = .ok (.iadd, 1) := by decide +kernel
theorem dJ6_bitCount_0f7a4_23 : decode cJ6_bitCount_0f7a4 23 = .ok (.istore_n 0, 1) := by decide +kernel
theorem dJ6_bitCount_0f7a4_24 : decode cJ6_bitCount_0f7a4 24 = .ok (.iload_n 0, 1) := by decide +kernel
theorem dJ6_bitCount_0f7a4_25 : decode cJ6_bitCount_0f7a4 25 = .ok (.iload_n 0, 1) := by decide +kernel
theorem dJ6_bitCount_0f7a4_26 : decode cJ6_bitCount_0f7a4 26 = .ok (.iconst 4, 1) := by decide +kernel
theorem dJ6_bitCount_0f7a4_27 : decode cJ6_bitCount_0f7a4 27 = .ok (.iushr, 1) := by decide +kernel
theorem dJ6_bitCount_0f7a4_28 : decode cJ6_bitCount_0f7a4 28 = .ok (.iadd, 1) := by decide +kernel
theorem dJ6_bitCount_0f7a4_29 : decode cJ6_bitCount_0f7a4 29 = .ok (.ldc_w 267, 3) := by decide +kernel
theorem dJ6_bitCount_0f7a4_32 : decode cJ6_bitCount_0f7a4 32 = .ok (.iand, 1) := by decide +kernel
theorem dJ6_bitCount_0f7a4_33 : decode cJ6_bitCount_0f7a4 33 = .ok (.istore_n 0, 1) := by decide +kernel
theorem dJ6_bitCount_0f7a4_34 : decode cJ6_bitCount_0f7a4 34 = .ok (.iload_n 0, 1) := by decide +kernel
theorem dJ6_bitCount_0f7a4_35 : decode cJ6_bitCount_0f7a4 35 = .ok (.iload_n 0, 1) := by decide +kernel
theorem dJ6_bitCount_0f7a4_36 : decode cJ6_bitCount_0f7a4 36 = .ok (.bipush 8, 2) := by decide +kernel
theorem dJ6_bitCount_0f7a4_38 : decode cJ6_bitCount_0f7a4 38 = .ok (.iushr, 1) := by decide +kernel
theorem dJ6_bitCount_0f7a4_39 : decode cJ6_bitCount_0f7a4 39 = .ok (.iadd, 1) := by decide +kernel
theorem dJ6_bitCount_0f7a4_40 : decode cJ6_bitCount_0f7a4 40 = .ok (.istore_n 0, 1) := by decide +kernel
theorem dJ6_bitCount_0f7a4_41 : decode cJ6_bitCount_0f7a4 41 = .ok (.iload_n 0, 1) := by decide +kernel
theorem dJ6_bitCount_0f7a4_42 : decode cJ6_bitCount_0f7a4 42 = .ok (.iload_n 0, 1) := by decide +kernel
theorem dJ6_bitCount_0f7a4_43 : decode cJ6_bitCount_0f7a4 43 = .ok (.bipush 16, 2) := by decide +kernel
theorem dJ6_bitCount_0f7a4_45 : decode cJ6_bitCount_0f7a4 45 = .ok (.iushr, 1) := by decide +kernel
theorem dJ6_bitCount_0f7a4_46 : decode cJ6_bitCount_0f7a4 46 = .ok (.iadd, 1) := by decide +kernel
theorem dJ6_bitCount_0f7a4_47 : decode cJ6_bitCount_0f7a4 47 = .ok (.istore_n 0, 1) := by decide +kernel
theorem dJ6_bitCount_0f7a4_48 : decode cJ6_bitCount_0f7a4 48 = .ok (.iload_n 0, 1) := by decide +kernel
theorem dJ6_bitCount_0f7a4_49 : decode cJ6_bitCount_0f7a4 49 = .ok (.bipush 63, 2) := by decide +kernel
theorem dJ6_bitCount_0f7a4_51 : decode cJ6_bitCount_0f7a4 51 = .ok (.iand, 1) := by decide +kernel
theorem dJ6_bitCount_0f7a4_52 : decode cJ6_bitCount_0f7a4 52 = .ok (.ireturn, 1) := by decide +kernel
