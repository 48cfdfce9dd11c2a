section
-- ===== PART A: goes FIRST, ahead of the names: the tables' words, and 'selects' of the private methods out of them =====
/-- a private method of a class that the tables say can be made, by its rows of tables_1 -/
def lw_okq (q : MethodName × Nat) : Prop := (q.1.cls ≠ "java/lang/invoke/MethodHandle" ∧ q.1.cls ≠ "java/lang/invoke/VarHandle") ∧ Cond.instantiable q.1.cls q.2 ∈ tables_1 ∧ Cond.privateMethod q.1 ∈ tables_1 ∧ Cond.instanceMethod q.1 ∈ tables_1
theorem lw_p0 : lw_okq (⟨"SlantGaugesLaw", "loads", "(LSlantGauges;[I)Z"⟩, 2) := ⟨⟨by decide +kernel, by decide +kernel⟩, List.mem_of_getElem? (i := 282) (by decide +kernel), List.mem_of_getElem? (i := 295) (by decide +kernel), List.mem_of_getElem? (i := 296) (by decide +kernel)⟩
theorem lw_p1 : lw_okq (⟨"SlantGaugesLaw", "writes", "(Ljava/lang/String;)V"⟩, 2) := ⟨⟨by decide +kernel, by decide +kernel⟩, List.mem_of_getElem? (i := 282) (by decide +kernel), List.mem_of_getElem? (i := 304) (by decide +kernel), List.mem_of_getElem? (i := 305) (by decide +kernel)⟩
theorem lw_p2 : lw_okq (⟨"SlantGaugesLaw", "spaced", "(I)V"⟩, 2) := ⟨⟨by decide +kernel, by decide +kernel⟩, List.mem_of_getElem? (i := 282) (by decide +kernel), List.mem_of_getElem? (i := 355) (by decide +kernel), List.mem_of_getElem? (i := 356) (by decide +kernel)⟩
theorem lw_p3 : lw_okq (⟨"SlantGaugesLaw", "feeds", "(LSlantGauges;)I"⟩, 2) := ⟨⟨by decide +kernel, by decide +kernel⟩, List.mem_of_getElem? (i := 282) (by decide +kernel), List.mem_of_getElem? (i := 368) (by decide +kernel), List.mem_of_getElem? (i := 369) (by decide +kernel)⟩
theorem lw_p4 : lw_okq (⟨"java/lang/Throwable", "fillInStackTrace", "(I)Ljava/lang/Throwable;"⟩, 6) := ⟨⟨by decide +kernel, by decide +kernel⟩, List.mem_of_getElem? (i := 428) (by decide +kernel), List.mem_of_getElem? (i := 426) (by decide +kernel), List.mem_of_getElem? (i := 427) (by decide +kernel)⟩
theorem lw_p5 : lw_okq (⟨"SlantGauges$Tokens", "byteAt", "(I)I"⟩, 9) := ⟨⟨by decide +kernel, by decide +kernel⟩, List.mem_of_getElem? (i := 179) (by decide +kernel), List.mem_of_getElem? (i := 468) (by decide +kernel), List.mem_of_getElem? (i := 469) (by decide +kernel)⟩
theorem lw_p6 : lw_okq (⟨"SlantGauges$TextGrammar", "readClause", "()V"⟩, 2) := ⟨⟨by decide +kernel, by decide +kernel⟩, List.mem_of_getElem? (i := 479) (by decide +kernel), List.mem_of_getElem? (i := 529) (by decide +kernel), List.mem_of_getElem? (i := 530) (by decide +kernel)⟩
theorem lw_p7 : lw_okq (⟨"SlantGauges$TextGrammar", "readLeg", "()V"⟩, 2) := ⟨⟨by decide +kernel, by decide +kernel⟩, List.mem_of_getElem? (i := 479) (by decide +kernel), List.mem_of_getElem? (i := 535) (by decide +kernel), List.mem_of_getElem? (i := 536) (by decide +kernel)⟩
theorem lw_p8 : lw_okq (⟨"SlantGauges$TextGrammar", "readTube", "()V"⟩, 2) := ⟨⟨by decide +kernel, by decide +kernel⟩, List.mem_of_getElem? (i := 479) (by decide +kernel), List.mem_of_getElem? (i := 551) (by decide +kernel), List.mem_of_getElem? (i := 552) (by decide +kernel)⟩
theorem lw_p9 : lw_okq (⟨"SlantGauges$Row", "settleLeg", "(I)I"⟩, 8) := ⟨⟨by decide +kernel, by decide +kernel⟩, List.mem_of_getElem? (i := 29) (by decide +kernel), List.mem_of_getElem? (i := 605) (by decide +kernel), List.mem_of_getElem? (i := 606) (by decide +kernel)⟩
theorem lw_p10 : lw_okq (⟨"SlantGauges$Row", "greatestLevel", "(I)J"⟩, 8) := ⟨⟨by decide +kernel, by decide +kernel⟩, List.mem_of_getElem? (i := 29) (by decide +kernel), List.mem_of_getElem? (i := 609) (by decide +kernel), List.mem_of_getElem? (i := 610) (by decide +kernel)⟩
theorem lw_p11 : lw_okq (⟨"SlantGauges$Row", "fullVolumes", "(I)J"⟩, 8) := ⟨⟨by decide +kernel, by decide +kernel⟩, List.mem_of_getElem? (i := 29) (by decide +kernel), List.mem_of_getElem? (i := 613) (by decide +kernel), List.mem_of_getElem? (i := 614) (by decide +kernel)⟩
theorem lw_p12 : lw_okq (⟨"SlantGauges$Row", "breakTubes", "(I)I"⟩, 8) := ⟨⟨by decide +kernel, by decide +kernel⟩, List.mem_of_getElem? (i := 29) (by decide +kernel), List.mem_of_getElem? (i := 648) (by decide +kernel), List.mem_of_getElem? (i := 649) (by decide +kernel)⟩
theorem lw_p13 : lw_okq (⟨"SlantGauges", "requireTube", "(I)V"⟩, 7) := ⟨⟨by decide +kernel, by decide +kernel⟩, List.mem_of_getElem? (i := 21) (by decide +kernel), List.mem_of_getElem? (i := 700) (by decide +kernel), List.mem_of_getElem? (i := 701) (by decide +kernel)⟩
theorem lw_p14 : lw_okq (⟨"SlantGauges", "requirePoint", "(I)V"⟩, 7) := ⟨⟨by decide +kernel, by decide +kernel⟩, List.mem_of_getElem? (i := 21) (by decide +kernel), List.mem_of_getElem? (i := 718) (by decide +kernel), List.mem_of_getElem? (i := 719) (by decide +kernel)⟩
def lw_privs_1 : List (MethodName × Nat) := [(⟨"SlantGaugesLaw", "loads", "(LSlantGauges;[I)Z"⟩, 2), (⟨"SlantGaugesLaw", "writes", "(Ljava/lang/String;)V"⟩, 2), (⟨"SlantGaugesLaw", "spaced", "(I)V"⟩, 2), (⟨"SlantGaugesLaw", "feeds", "(LSlantGauges;)I"⟩, 2), (⟨"java/lang/Throwable", "fillInStackTrace", "(I)Ljava/lang/Throwable;"⟩, 6), (⟨"SlantGauges$Tokens", "byteAt", "(I)I"⟩, 9), (⟨"SlantGauges$TextGrammar", "readClause", "()V"⟩, 2), (⟨"SlantGauges$TextGrammar", "readLeg", "()V"⟩, 2), (⟨"SlantGauges$TextGrammar", "readTube", "()V"⟩, 2), (⟨"SlantGauges$Row", "settleLeg", "(I)I"⟩, 8), (⟨"SlantGauges$Row", "greatestLevel", "(I)J"⟩, 8), (⟨"SlantGauges$Row", "fullVolumes", "(I)J"⟩, 8), (⟨"SlantGauges$Row", "breakTubes", "(I)I"⟩, 8), (⟨"SlantGauges", "requireTube", "(I)V"⟩, 7), (⟨"SlantGauges", "requirePoint", "(I)V"⟩, 7)]
theorem lw_r1 : ∀ q ∈ lw_privs_1, lw_okq q := List.forall_mem_cons.mpr ⟨lw_p0, List.forall_mem_cons.mpr ⟨lw_p1, List.forall_mem_cons.mpr ⟨lw_p2, List.forall_mem_cons.mpr ⟨lw_p3, List.forall_mem_cons.mpr ⟨lw_p4, List.forall_mem_cons.mpr ⟨lw_p5, List.forall_mem_cons.mpr ⟨lw_p6, List.forall_mem_cons.mpr ⟨lw_p7, List.forall_mem_cons.mpr ⟨lw_p8, List.forall_mem_cons.mpr ⟨lw_p9, List.forall_mem_cons.mpr ⟨lw_p10, List.forall_mem_cons.mpr ⟨lw_p11, List.forall_mem_cons.mpr ⟨lw_p12, List.forall_mem_cons.mpr ⟨lw_p13, List.forall_mem_cons.mpr ⟨lw_p14, fun _ h => absurd h List.not_mem_nil⟩⟩⟩⟩⟩⟩⟩⟩⟩⟩⟩⟩⟩⟩⟩
def lw_privs : List (MethodName × Nat) := lw_privs_1
def lw_tbl : List Cond := k2_sels lw_privs ++ tables_1
theorem lw_privs_ok : ∀ q ∈ lw_privs, lw_okq q := lw_r1
end
section
def RX0 : String := "SlantGauges$History"
def TX0 : u_T := fun k => match k with
  | 0 => ("SlantGauges$History", "rows", "[LSlantGauges$Row;", true)
  | 1 => ("SlantGauges$History", "oldest", "I", false)
  | _ => ("SlantGauges$History", "count", "I", false)
def tyX0 : Nat → FieldType := fun k => match k with
  | 0 => .array (.object "SlantGauges$Row")
  | 1 => .int
  | _ => .int
abbrev wsX00 : List Cond := u_ws RX0 TX0 3
theorem nmX0 : ∀ a, a < 3 → ∀ b, b < 3 → a ≠ b → (TX0 a).2.1 ≠ (TX0 b).2.1 := by decide +kernel
theorem tyX0_ok : ∀ k, k < 3 → parseFieldDescriptor (TX0 k).2.2.1 = some (tyX0 k) := by decide +kernel
def RX1 : String := "SlantGauges$Leg"
def TX1 : u_T := fun k => match k with
  | 0 => ("SlantGauges$Leg", "density", "I", false)
  | 1 => ("SlantGauges$Leg", "area", "I", false)
  | 2 => ("SlantGauges$Leg", "curve", "I", false)
  | 3 => ("SlantGauges$Leg", "stock", "J", false)
  | 4 => ("SlantGauges$Leg", "lost", "J", false)
  | 5 => ("SlantGauges$Leg", "refilled", "J", false)
  | _ => ("SlantGauges$Leg", "level", "J", false)
def tyX1 : Nat → FieldType := fun k => match k with
  | 0 => .int
  | 1 => .int
  | 2 => .int
  | 3 => .long
  | 4 => .long
  | 5 => .long
  | _ => .long
abbrev wsX10 : List Cond := u_ws RX1 TX1 7
theorem nmX1 : ∀ a, a < 7 → ∀ b, b < 7 → a ≠ b → (TX1 a).2.1 ≠ (TX1 b).2.1 := by decide +kernel
theorem tyX1_ok : ∀ k, k < 7 → parseFieldDescriptor (TX1 k).2.2.1 = some (tyX1 k) := by decide +kernel
def RX3 : String := "SlantGauges$Row"
def TX3 : u_T := fun k => match k with
  | 0 => ("SlantGauges$Row", "points", "I", false)
  | 1 => ("SlantGauges$Row", "reference", "I", false)
  | 2 => ("SlantGauges$Row", "tubeCount", "I", false)
  | 3 => ("SlantGauges$Row", "pressures", "[I", true)
  | 4 => ("SlantGauges$Row", "left", "LSlantGauges$Leg;", true)
  | 5 => ("SlantGauges$Row", "right", "LSlantGauges$Leg;", true)
  | 6 => ("SlantGauges$Row", "tubes", "[LSlantGauges$Tube;", true)
  | _ => ("SlantGauges$Row", "spare", "LSlantGauges$Tube;", true)
def tyX3 : Nat → FieldType := fun k => match k with
  | 0 => .int
  | 1 => .int
  | 2 => .int
  | 3 => .array .int
  | 4 => .object "SlantGauges$Leg"
  | 5 => .object "SlantGauges$Leg"
  | 6 => .array (.object "SlantGauges$Tube")
  | _ => .object "SlantGauges$Tube"
abbrev wsX30 : List Cond := u_ws RX3 TX3 8
theorem nmX3 : ∀ a, a < 8 → ∀ b, b < 8 → a ≠ b → (TX3 a).2.1 ≠ (TX3 b).2.1 := by decide +kernel
theorem tyX3_ok : ∀ k, k < 8 → parseFieldDescriptor (TX3 k).2.2.1 = some (tyX3 k) := by decide +kernel
def RX4 : String := "SlantGauges$TextGrammar"
def TX4 : u_T := fun k => match k with
  | 0 => ("SlantGauges$TextGrammar", "tokens", "LSlantGauges$Tokens;", true)
  | _ => ("SlantGauges$TextGrammar", "row", "LSlantGauges$Row;", true)
def tyX4 : Nat → FieldType := fun k => match k with
  | 0 => .object "SlantGauges$Tokens"
  | _ => .object "SlantGauges$Row"
abbrev wsX40 : List Cond := u_ws RX4 TX4 2
theorem nmX4 : ∀ a, a < 2 → ∀ b, b < 2 → a ≠ b → (TX4 a).2.1 ≠ (TX4 b).2.1 := by decide +kernel
theorem tyX4_ok : ∀ k, k < 2 → parseFieldDescriptor (TX4 k).2.2.1 = some (tyX4 k) := by decide +kernel
def RX5 : String := "SlantGauges$Tokens"
def TX5 : u_T := fun k => match k with
  | 0 => ("SlantGauges$Tokens", "bytes", "[B", true)
  | 1 => ("SlantGauges$Tokens", "filled", "I", false)
  | 2 => ("SlantGauges$Tokens", "end", "I", false)
  | 3 => ("SlantGauges$Tokens", "next", "I", false)
  | 4 => ("SlantGauges$Tokens", "start", "I", false)
  | 5 => ("SlantGauges$Tokens", "kind", "I", false)
  | 6 => ("SlantGauges$Tokens", "number", "I", false)
  | 7 => ("SlantGauges$Tokens", "errorCode", "I", false)
  | _ => ("SlantGauges$Tokens", "errorAt", "I", false)
def tyX5 : Nat → FieldType := fun k => match k with
  | 0 => .array .byte
  | 1 => .int
  | 2 => .int
  | 3 => .int
  | 4 => .int
  | 5 => .int
  | 6 => .int
  | 7 => .int
  | _ => .int
abbrev wsX50 : List Cond := u_ws RX5 TX5 9
theorem nmX5 : ∀ a, a < 9 → ∀ b, b < 9 → a ≠ b → (TX5 a).2.1 ≠ (TX5 b).2.1 := by decide +kernel
theorem tyX5_ok : ∀ k, k < 9 → parseFieldDescriptor (TX5 k).2.2.1 = some (tyX5 k) := by decide +kernel
def RX6 : String := "SlantGauges$Tube"
def TX6 : u_T := fun k => match k with
  | 0 => ("SlantGauges$Tube", "leg", "I", false)
  | 1 => ("SlantGauges$Tube", "point", "I", false)
  | 2 => ("SlantGauges$Tube", "bore", "I", false)
  | 3 => ("SlantGauges$Tube", "slant", "I", false)
  | 4 => ("SlantGauges$Tube", "length", "I", false)
  | 5 => ("SlantGauges$Tube", "mark", "I", false)
  | 6 => ("SlantGauges$Tube", "state", "I", false)
  | 7 => ("SlantGauges$Tube", "pull", "I", false)
  | 8 => ("SlantGauges$Tube", "meniscus", "I", false)
  | _ => ("SlantGauges$Tube", "column", "I", false)
def tyX6 : Nat → FieldType := fun k => match k with
  | 0 => .int
  | 1 => .int
  | 2 => .int
  | 3 => .int
  | 4 => .int
  | 5 => .int
  | 6 => .int
  | 7 => .int
  | 8 => .int
  | _ => .int
abbrev wsX60 : List Cond := u_ws RX6 TX6 10
theorem nmX6 : ∀ a, a < 10 → ∀ b, b < 10 → a ≠ b → (TX6 a).2.1 ≠ (TX6 b).2.1 := by decide +kernel
theorem tyX6_ok : ∀ k, k < 10 → parseFieldDescriptor (TX6 k).2.2.1 = some (tyX6 k) := by decide +kernel
def RX7 : String := "SlantGauges"
def TX7 : u_T := fun k => match k with
  | 0 => ("SlantGauges", "current", "LSlantGauges$Row;", true)
  | 1 => ("SlantGauges", "trial", "LSlantGauges$Row;", true)
  | 2 => ("SlantGauges", "snapshot", "LSlantGauges$Row;", true)
  | 3 => ("SlantGauges", "history", "LSlantGauges$History;", true)
  | 4 => ("SlantGauges", "tokens", "LSlantGauges$Tokens;", true)
  | 5 => ("SlantGauges", "formatted", "Ljava/lang/StringBuilder;", true)
  | _ => ("SlantGauges", "snapshotTaken", "Z", false)
def tyX7 : Nat → FieldType := fun k => match k with
  | 0 => .object "SlantGauges$Row"
  | 1 => .object "SlantGauges$Row"
  | 2 => .object "SlantGauges$Row"
  | 3 => .object "SlantGauges$History"
  | 4 => .object "SlantGauges$Tokens"
  | 5 => .object "java/lang/StringBuilder"
  | _ => .boolean
abbrev wsX70 : List Cond := u_ws RX7 TX7 7
theorem nmX7 : ∀ a, a < 7 → ∀ b, b < 7 → a ≠ b → (TX7 a).2.1 ≠ (TX7 b).2.1 := by decide +kernel
theorem tyX7_ok : ∀ k, k < 7 → parseFieldDescriptor (TX7 k).2.2.1 = some (tyX7 k) := by decide +kernel
def RJ0 : String := "java/lang/String"
def TJ0 : u_T := fun k => match k with
  | _ => ("", "", "", false)
def tyJ0 : Nat → FieldType := fun k => match k with
  | _ => .int
abbrev wsJ00 : List Cond := u_ws RJ0 TJ0 0
theorem nmJ0 : ∀ a, a < 0 → ∀ b, b < 0 → a ≠ b → (TJ0 a).2.1 ≠ (TJ0 b).2.1 := by decide +kernel
theorem tyJ0_ok : ∀ k, k < 0 → parseFieldDescriptor (TJ0 k).2.2.1 = some (tyJ0 k) := by decide +kernel
def RJ4 : String := "java/lang/StringBuilder"
def TJ4 : u_T := fun k => match k with
  | 0 => ("java/lang/AbstractStringBuilder", "value", "[B", false)
  | 1 => ("java/lang/AbstractStringBuilder", "coder", "B", false)
  | 2 => ("java/lang/AbstractStringBuilder", "maybeLatin1", "Z", false)
  | _ => ("java/lang/AbstractStringBuilder", "count", "I", false)
def tyJ4 : Nat → FieldType := fun k => match k with
  | 0 => .array .byte
  | 1 => .byte
  | 2 => .boolean
  | _ => .int
abbrev wsJ40 : List Cond := u_ws RJ4 TJ4 4
theorem nmJ4 : ∀ a, a < 4 → ∀ b, b < 4 → a ≠ b → (TJ4 a).2.1 ≠ (TJ4 b).2.1 := by decide +kernel
theorem tyJ4_ok : ∀ k, k < 4 → parseFieldDescriptor (TJ4 k).2.2.1 = some (tyJ4 k) := by decide +kernel
def RJ5 : String := "java/lang/AbstractStringBuilder"
def TJ5 : u_T := fun k => match k with
  | _ => ("", "", "", false)
def tyJ5 : Nat → FieldType := fun k => match k with
  | _ => .int
abbrev wsJ50 : List Cond := u_ws RJ5 TJ5 0
theorem nmJ5 : ∀ a, a < 0 → ∀ b, b < 0 → a ≠ b → (TJ5 a).2.1 ≠ (TJ5 b).2.1 := by decide +kernel
theorem tyJ5_ok : ∀ k, k < 0 → parseFieldDescriptor (TJ5 k).2.2.1 = some (tyJ5 k) := by decide +kernel
def RJ1 : String := "java/lang/StringLatin1"
def TJ1 : u_T := fun k => match k with
  | _ => ("", "", "", false)
def tyJ1 : Nat → FieldType := fun k => match k with
  | _ => .int
abbrev wsJ10 : List Cond := u_ws RJ1 TJ1 0
theorem nmJ1 : ∀ a, a < 0 → ∀ b, b < 0 → a ≠ b → (TJ1 a).2.1 ≠ (TJ1 b).2.1 := by decide +kernel
theorem tyJ1_ok : ∀ k, k < 0 → parseFieldDescriptor (TJ1 k).2.2.1 = some (tyJ1 k) := by decide +kernel
def RJ3 : String := "jdk/internal/util/Preconditions"
def TJ3 : u_T := fun k => match k with
  | _ => ("", "", "", false)
def tyJ3 : Nat → FieldType := fun k => match k with
  | _ => .int
abbrev wsJ30 : List Cond := u_ws RJ3 TJ3 0
theorem nmJ3 : ∀ a, a < 0 → ∀ b, b < 0 → a ≠ b → (TJ3 a).2.1 ≠ (TJ3 b).2.1 := by decide +kernel
theorem tyJ3_ok : ∀ k, k < 0 → parseFieldDescriptor (TJ3 k).2.2.1 = some (tyJ3 k) := by decide +kernel
def RJ9 : String := "java/lang/Math"
def TJ9 : u_T := fun k => match k with
  | _ => ("", "", "", false)
def tyJ9 : Nat → FieldType := fun k => match k with
  | _ => .int
abbrev wsJ90 : List Cond := u_ws RJ9 TJ9 0
theorem nmJ9 : ∀ a, a < 0 → ∀ b, b < 0 → a ≠ b → (TJ9 a).2.1 ≠ (TJ9 b).2.1 := by decide +kernel
theorem tyJ9_ok : ∀ k, k < 0 → parseFieldDescriptor (TJ9 k).2.2.1 = some (tyJ9 k) := by decide +kernel
def RL : String := "SlantGaugesLaw"
def TL : u_T := fun k => match k with
  | 0 => ("SlantGaugesLaw", "text", "[I", true)
  | _ => ("SlantGaugesLaw", "size", "I", false)
def tyL : Nat → FieldType := fun k => match k with
  | 0 => .array .int
  | _ => .int
abbrev wsL0 : List Cond := u_ws RL TL 2
theorem nmL : ∀ a, a < 2 → ∀ b, b < 2 → a ≠ b → (TL a).2.1 ≠ (TL b).2.1 := by decide +kernel
theorem tyL_ok : ∀ k, k < 2 → parseFieldDescriptor (TL k).2.2.1 = some (tyL k) := by decide +kernel
abbrev vwCl : List vw_C := [(RJ4, TJ4, 4), (RJ4, TJ4, 4), (RX0, TX0, 3), (RX1, TX1, 7), (RX1, TX1, 7), (RX3, TX3, 8), (RX4, TX4, 2), (RX5, TX5, 9), (RX6, TX6, 10), (RX7, TX7, 7), (RL, TL, 2)]
abbrev cX0_init : ByteArray := prog_2_method_1_code
def yX0_init : MethodName := ⟨RX0, "<init>", "()V"⟩
abbrev cX0_clear : ByteArray := prog_2_method_2_code
def yX0_clear : MethodName := ⟨RX0, "clear", "()V"⟩
abbrev cX0_keep : ByteArray := prog_2_method_3_code
def yX0_keep : MethodName := ⟨RX0, "keep", "(LSlantGauges$Row;)V"⟩
abbrev cX1_init : ByteArray := prog_3_method_1_code
def yX1_init : MethodName := ⟨RX1, "<init>", "()V"⟩
abbrev cX1_clear : ByteArray := prog_3_method_2_code
def yX1_clear : MethodName := ⟨RX1, "clear", "()V"⟩
abbrev cX1_liquid : ByteArray := prog_3_method_3_code
def yX1_liquid : MethodName := ⟨RX1, "liquid", "(III)V"⟩
abbrev cX1_copyFrom : ByteArray := prog_3_method_4_code
def yX1_copyFrom : MethodName := ⟨RX1, "copyFrom", "(LSlantGauges$Leg;)V"⟩
abbrev cX3_init : ByteArray := prog_5_method_1_code
def yX3_init : MethodName := ⟨RX3, "<init>", "()V"⟩
abbrev cX3_clear : ByteArray := prog_5_method_2_code
def yX3_clear : MethodName := ⟨RX3, "clear", "(II)V"⟩
abbrev cX3_copyFrom : ByteArray := prog_5_method_3_code
def yX3_copyFrom : MethodName := ⟨RX3, "copyFrom", "(LSlantGauges$Row;)V"⟩
abbrev cX3_legAt : ByteArray := prog_5_method_4_code
def yX3_legAt : MethodName := ⟨RX3, "legAt", "(I)LSlantGauges$Leg;"⟩
abbrev cX3_tubeAt : ByteArray := prog_5_method_5_code
def yX3_tubeAt : MethodName := ⟨RX3, "tubeAt", "(I)LSlantGauges$Tube;"⟩
abbrev cX3_pressureAt : ByteArray := prog_5_method_6_code
def yX3_pressureAt : MethodName := ⟨RX3, "pressureAt", "(I)I"⟩
abbrev cX3_press : ByteArray := prog_5_method_7_code
def yX3_press : MethodName := ⟨RX3, "press", "(II)V"⟩
abbrev cX3_append : ByteArray := prog_5_method_8_code
def yX3_append : MethodName := ⟨RX3, "append", "()LSlantGauges$Tube;"⟩
abbrev cX3_remove : ByteArray := prog_5_method_9_code
def yX3_remove : MethodName := ⟨RX3, "remove", "(I)V"⟩
abbrev cX3_countInState : ByteArray := prog_5_method_10_code
def yX3_countInState : MethodName := ⟨RX3, "countInState", "(I)I"⟩
abbrev cX3_countInLeg : ByteArray := prog_5_method_11_code
def yX3_countInLeg : MethodName := ⟨RX3, "countInLeg", "(I)I"⟩
abbrev cX3_numberOf : ByteArray := prog_5_method_12_code
def yX3_numberOf : MethodName := ⟨RX3, "numberOf", "(II)I"⟩
abbrev cX3_settle : ByteArray := prog_5_method_16_code
def yX3_settle : MethodName := ⟨RX3, "settle", "()I"⟩
abbrev cX3_settleLeg : ByteArray := prog_5_method_17_code
def yX3_settleLeg : MethodName := ⟨RX3, "settleLeg", "(I)I"⟩
abbrev cX3_greatestLevel : ByteArray := prog_5_method_18_code
def yX3_greatestLevel : MethodName := ⟨RX3, "greatestLevel", "(I)J"⟩
abbrev cX3_fullVolumes : ByteArray := prog_5_method_19_code
def yX3_fullVolumes : MethodName := ⟨RX3, "fullVolumes", "(I)J"⟩
abbrev cX3_volumesAt : ByteArray := prog_5_method_20_code
def yX3_volumesAt : MethodName := ⟨RX3, "volumesAt", "(IJ)J"⟩
abbrev cX3_breakTubes : ByteArray := prog_5_method_21_code
def yX3_breakTubes : MethodName := ⟨RX3, "breakTubes", "(I)I"⟩
abbrev cX4_init : ByteArray := prog_6_method_1_code
def yX4_init : MethodName := ⟨RX4, "<init>", "(LSlantGauges$Tokens;LSlantGauges$Row;)V"⟩
abbrev cX4_read : ByteArray := prog_6_method_2_code
def yX4_read : MethodName := ⟨RX4, "read", "()V"⟩
abbrev cX4_readClause : ByteArray := prog_6_method_3_code
def yX4_readClause : MethodName := ⟨RX4, "readClause", "()V"⟩
abbrev cX4_readLeg : ByteArray := prog_6_method_4_code
def yX4_readLeg : MethodName := ⟨RX4, "readLeg", "()V"⟩
abbrev cX4_readTube : ByteArray := prog_6_method_5_code
def yX4_readTube : MethodName := ⟨RX4, "readTube", "()V"⟩
abbrev cX5_init : ByteArray := prog_7_method_1_code
def yX5_init : MethodName := ⟨RX5, "<init>", "()V"⟩
abbrev cX5_hasRoomFor : ByteArray := prog_7_method_2_code
def yX5_hasRoomFor : MethodName := ⟨RX5, "hasRoomFor", "(I)Z"⟩
abbrev cX5_append : ByteArray := prog_7_method_3_code
def yX5_append : MethodName := ⟨RX5, "append", "(I)V"⟩
abbrev cX5_empty : ByteArray := prog_7_method_4_code
def yX5_empty : MethodName := ⟨RX5, "empty", "()V"⟩
abbrev cX5_begin : ByteArray := prog_7_method_5_code
def yX5_begin : MethodName := ⟨RX5, "begin", "(I)V"⟩
abbrev cX5_advance : ByteArray := prog_7_method_6_code
def yX5_advance : MethodName := ⟨RX5, "advance", "()V"⟩
abbrev cX5_byteAt : ByteArray := prog_7_method_7_code
def yX5_byteAt : MethodName := ⟨RX5, "byteAt", "(I)I"⟩
abbrev cX5_isLetter : ByteArray := prog_7_method_8_code
def yX5_isLetter : MethodName := ⟨RX5, "isLetter", "(I)Z"⟩
abbrev cX5_isDigit : ByteArray := prog_7_method_9_code
def yX5_isDigit : MethodName := ⟨RX5, "isDigit", "(I)Z"⟩
abbrev cX5_fail : ByteArray := prog_7_method_10_code
def yX5_fail : MethodName := ⟨RX5, "fail", "(I)V"⟩
abbrev cX5_goesOn : ByteArray := prog_7_method_11_code
def yX5_goesOn : MethodName := ⟨RX5, "goesOn", "()Z"⟩
abbrev cX5_isWord : ByteArray := prog_7_method_12_code
def yX5_isWord : MethodName := ⟨RX5, "isWord", "(Ljava/lang/String;)Z"⟩
abbrev cX5_isSign : ByteArray := prog_7_method_13_code
def yX5_isSign : MethodName := ⟨RX5, "isSign", "(C)Z"⟩
abbrev cX5_takeWord : ByteArray := prog_7_method_14_code
def yX5_takeWord : MethodName := ⟨RX5, "takeWord", "(Ljava/lang/String;)V"⟩
abbrev cX5_takeSign : ByteArray := prog_7_method_15_code
def yX5_takeSign : MethodName := ⟨RX5, "takeSign", "(C)V"⟩
abbrev cX5_takeNumber : ByteArray := prog_7_method_17_code
def yX5_takeNumber : MethodName := ⟨RX5, "takeNumber", "(II)I"⟩
abbrev cX5_takeSigned : ByteArray := prog_7_method_18_code
def yX5_takeSigned : MethodName := ⟨RX5, "takeSigned", "()I"⟩
abbrev cX6_init : ByteArray := prog_8_method_1_code
def yX6_init : MethodName := ⟨RX6, "<init>", "()V"⟩
abbrev cX6_stand : ByteArray := prog_8_method_2_code
def yX6_stand : MethodName := ⟨RX6, "stand", "(II)V"⟩
abbrev cX6_shape : ByteArray := prog_8_method_3_code
def yX6_shape : MethodName := ⟨RX6, "shape", "(III)V"⟩
abbrev cX6_copyFrom : ByteArray := prog_8_method_4_code
def yX6_copyFrom : MethodName := ⟨RX6, "copyFrom", "(LSlantGauges$Tube;)V"⟩
abbrev cX6_fullColumn : ByteArray := prog_8_method_5_code
def yX6_fullColumn : MethodName := ⟨RX6, "fullColumn", "()I"⟩
abbrev cX6_fullVolume : ByteArray := prog_8_method_6_code
def yX6_fullVolume : MethodName := ⟨RX6, "fullVolume", "()J"⟩
abbrev cX6_runAt : ByteArray := prog_8_method_7_code
def yX6_runAt : MethodName := ⟨RX6, "runAt", "(J)J"⟩
abbrev cX6_columnAt : ByteArray := prog_8_method_8_code
def yX6_columnAt : MethodName := ⟨RX6, "columnAt", "(J)J"⟩
abbrev cX6_shownReading : ByteArray := prog_8_method_9_code
def yX6_shownReading : MethodName := ⟨RX6, "shownReading", "()I"⟩
abbrev cX7_init : ByteArray := prog_1_method_1_code
def yX7_init : MethodName := ⟨RX7, "<init>", "()V"⟩
abbrev cX7_feed : ByteArray := prog_1_method_2_code
def yX7_feed : MethodName := ⟨RX7, "feed", "(IIIII)I"⟩
abbrev cX7_load : ByteArray := prog_1_method_3_code
def yX7_load : MethodName := ⟨RX7, "load", "(I)I"⟩
abbrev cX7_errorPosition : ByteArray := prog_1_method_4_code
def yX7_errorPosition : MethodName := ⟨RX7, "errorPosition", "()I"⟩
abbrev cX7_size : ByteArray := prog_1_method_5_code
def yX7_size : MethodName := ⟨RX7, "size", "(I)I"⟩
abbrev cX7_pressure : ByteArray := prog_1_method_6_code
def yX7_pressure : MethodName := ⟨RX7, "pressure", "(I)I"⟩
abbrev cX7_leg : ByteArray := prog_1_method_7_code
def yX7_leg : MethodName := ⟨RX7, "leg", "(II)I"⟩
abbrev cX7_account : ByteArray := prog_1_method_8_code
def yX7_account : MethodName := ⟨RX7, "account", "(II)J"⟩
abbrev cX7_tube : ByteArray := prog_1_method_9_code
def yX7_tube : MethodName := ⟨RX7, "tube", "(II)I"⟩
abbrev cX7_room : ByteArray := prog_1_method_14_code
def yX7_room : MethodName := ⟨RX7, "room", "(I)I"⟩
abbrev cX7_setPressure : ByteArray := prog_1_method_25_code
def yX7_setPressure : MethodName := ⟨RX7, "setPressure", "(II)I"⟩
abbrev cX7_setReference : ByteArray := prog_1_method_26_code
def yX7_setReference : MethodName := ⟨RX7, "setReference", "(I)I"⟩
abbrev cX7_sweep : ByteArray := prog_1_method_27_code
def yX7_sweep : MethodName := ⟨RX7, "sweep", "(III)I"⟩
abbrev cX7_setSlant : ByteArray := prog_1_method_28_code
def yX7_setSlant : MethodName := ⟨RX7, "setSlant", "(II)I"⟩
abbrev cX7_setMark : ByteArray := prog_1_method_29_code
def yX7_setMark : MethodName := ⟨RX7, "setMark", "(I)I"⟩
abbrev cX7_setCurve : ByteArray := prog_1_method_30_code
def yX7_setCurve : MethodName := ⟨RX7, "setCurve", "(II)I"⟩
abbrev cX7_mend : ByteArray := prog_1_method_31_code
def yX7_mend : MethodName := ⟨RX7, "mend", "(I)I"⟩
abbrev cX7_refill : ByteArray := prog_1_method_32_code
def yX7_refill : MethodName := ⟨RX7, "refill", "(II)I"⟩
abbrev cX7_addTube : ByteArray := prog_1_method_33_code
def yX7_addTube : MethodName := ⟨RX7, "addTube", "(IIIII)I"⟩
abbrev cX7_dropTube : ByteArray := prog_1_method_34_code
def yX7_dropTube : MethodName := ⟨RX7, "dropTube", "(I)I"⟩
abbrev cX7_requirePoint : ByteArray := prog_1_method_42_code
def yX7_requirePoint : MethodName := ⟨RX7, "requirePoint", "(I)V"⟩
abbrev cX7_requireTube : ByteArray := prog_1_method_43_code
def yX7_requireTube : MethodName := ⟨RX7, "requireTube", "(I)V"⟩
abbrev cX7_requireLeg : ByteArray := prog_1_method_44_code
def yX7_requireLeg : MethodName := ⟨RX7, "requireLeg", "(I)V"⟩
abbrev cX7_requireWithin : ByteArray := prog_1_method_45_code
def yX7_requireWithin : MethodName := ⟨RX7, "requireWithin", "(III)V"⟩
abbrev cL_init : ByteArray := method_1_code
def yL_init : MethodName := ⟨RL, "<init>", "()V"⟩
abbrev cL_writes : ByteArray := method_2_code
def yL_writes : MethodName := ⟨RL, "writes", "(Ljava/lang/String;)V"⟩
abbrev cL_spaced : ByteArray := method_3_code
def yL_spaced : MethodName := ⟨RL, "spaced", "(I)V"⟩
abbrev cL_cell : ByteArray := method_4_code
def yL_cell : MethodName := ⟨RL, "cell", "([II)I"⟩
abbrev cL_feeds : ByteArray := method_5_code
def yL_feeds : MethodName := ⟨RL, "feeds", "(LSlantGauges;)I"⟩
abbrev cL_loads : ByteArray := method_6_code
def yL_loads : MethodName := ⟨RL, "loads", "(LSlantGauges;[I)Z"⟩
abbrev cL_acts : ByteArray := method_7_code
def yL_acts : MethodName := ⟨RL, "acts", "(LSlantGauges;I)I"⟩
abbrev cL_run : ByteArray := method_8_code
def yL_run : MethodName := ⟨RL, "run", "(LSlantGauges;IJ)J"⟩
abbrev cL_law : ByteArray := code
def yL_law : MethodName := ⟨RL, "law", "([I)Z"⟩
abbrev cL_holds : ByteArray := method_10_code
def yL_holds : MethodName := ⟨RL, "holds", "(LSlantGauges;[I)Z"⟩
abbrev cL_areTubes : ByteArray := method_11_code
def yL_areTubes : MethodName := ⟨RL, "areTubes", "(LSlantGauges;)Z"⟩
abbrev cL_isLevel : ByteArray := method_12_code
def yL_isLevel : MethodName := ⟨RL, "isLevel", "(LSlantGauges;I)Z"⟩
abbrev cJ0_length_8abf5 : ByteArray := prog_20_method_54_code
def yJ0_length_8abf5 : MethodName := ⟨RJ0, "length", "()I"⟩
abbrev cJ0_coder_7d493 : ByteArray := prog_20_method_152_code
def yJ0_coder_7d493 : MethodName := ⟨RJ0, "coder", "()B"⟩
abbrev cJ0_charAt_5068e : ByteArray := prog_20_method_56_code
def yJ0_charAt_5068e : MethodName := ⟨RJ0, "charAt", "(I)C"⟩
abbrev cJ0_isLatin1_aae02 : ByteArray := prog_20_method_154_code
def yJ0_isLatin1_aae02 : MethodName := ⟨RJ0, "isLatin1", "()Z"⟩
abbrev cJ0_checkIndex_df160 : ByteArray := prog_20_method_155_code
def yJ0_checkIndex_df160 : MethodName := ⟨RJ0, "checkIndex", "(II)V"⟩
abbrev cJ1_charAt_3b067 : ByteArray := prog_22_method_2_code
def yJ1_charAt_3b067 : MethodName := ⟨RJ1, "charAt", "([BI)C"⟩
abbrev cJ3_checkIndex_8e157 : ByteArray := prog_28_method_11_code
def yJ3_checkIndex_8e157 : MethodName := ⟨RJ3, "checkIndex", "(IILjava/util/function/BiFunction;)I"⟩
abbrev cJ4_init_da8c8 : ByteArray := prog_21_method_1_code
def yJ4_init_da8c8 : MethodName := ⟨RJ4, "<init>", "()V"⟩
abbrev cJ5_init_d00df : ByteArray := prog_12_method_2_code
def yJ5_init_d00df : MethodName := ⟨RJ5, "<init>", "(I)V"⟩
abbrev cJ9_floorDiv_f86c9 : ByteArray := prog_18_method_49_code
def yJ9_floorDiv_f86c9 : MethodName := ⟨RJ9, "floorDiv", "(JJ)J"⟩
abbrev cJ9_floorMod_7cf53 : ByteArray := prog_18_method_50_code
def yJ9_floorMod_7cf53 : MethodName := ⟨RJ9, "floorMod", "(II)I"⟩
theorem dX0_init_0 : decode cX0_init 0 = .ok (.aload_n 0, 1) := by decide +kernel
theorem dX0_init_1 : decode cX0_init 1 = .ok (.invokespecial 3, 3) := by decide +kernel
theorem dX0_init_4 : decode cX0_init 4 = .ok (.aload_n 0, 1) := by decide +kernel
theorem dX0_init_5 : decode cX0_init 5 = .ok (.bipush 10, 2) := by decide +kernel
theorem dX0_init_7 : decode cX0_init 7 = .ok (.anewarray 9, 3) := by decide +kernel
theorem dX0_init_10 : decode cX0_init 10 = .ok (.putfield 11, 3) := by decide +kernel
theorem dX0_init_13 : decode cX0_init 13 = .ok (.iconst 0, 1) := by decide +kernel
theorem dX0_init_14 : decode cX0_init 14 = .ok (.istore_n 1, 1) := by decide +kernel
theorem dX0_init_15 : decode cX0_init 15 = .ok (.iload_n 1, 1) := by decide +kernel
theorem dX0_init_16 : decode cX0_init 16 = .ok (.aload_n 0, 1) := by decide +kernel
theorem dX0_init_17 : decode cX0_init 17 = .ok (.getfield 11, 3) := by decide +kernel
theorem dX0_init_20 : decode cX0_init 20 = .ok (.arraylength, 1) := by decide +kernel
theorem dX0_init_21 : decode cX0_init 21 = .ok (.if_icmp .ge 22, 3) := by decide +kernel
theorem dX0_init_24 : decode cX0_init 24 = .ok (.aload_n 0, 1) := by decide +kernel
theorem dX0_init_25 : decode cX0_init 25 = .ok (.getfield 11, 3) := by decide +kernel
theorem dX0_init_28 : decode cX0_init 28 = .ok (.iload_n 1, 1) := by decide +kernel
theorem dX0_init_29 : decode cX0_init 29 = .ok (.new 9, 3) := by decide +kernel
theorem dX0_init_32 : decode cX0_init 32 = .ok (.dup, 1) := by decide +kernel
theorem dX0_init_33 : decode cX0_init 33 = .ok (.invokespecial 17, 3) := by decide +kernel
theorem dX0_init_36 : decode cX0_init 36 = .ok (.aastore, 1) := by decide +kernel
theorem dX0_init_37 : decode cX0_init 37 = .ok (.iinc 1 1, 3) := by decide +kernel
theorem dX0_init_40 : decode cX0_init 40 = .ok (.goto (-25), 3) := by decide +kernel
theorem dX0_init_43 : decode cX0_init 43 = .ok (.return_, 1) := by decide +kernel
theorem dX0_clear_0 : decode cX0_clear 0 = .ok (.aload_n 0, 1) := by decide +kernel
theorem dX0_clear_1 : decode cX0_clear 1 = .ok (.iconst 0, 1) := by decide +kernel
theorem dX0_clear_2 : decode cX0_clear 2 = .ok (.putfield 18, 3) := by decide +kernel
theorem dX0_clear_5 : decode cX0_clear 5 = .ok (.aload_n 0, 1) := by decide +kernel
theorem dX0_clear_6 : decode cX0_clear 6 = .ok (.iconst 0, 1) := by decide +kernel
theorem dX0_clear_7 : decode cX0_clear 7 = .ok (.putfield 22, 3) := by decide +kernel
theorem dX0_clear_10 : decode cX0_clear 10 = .ok (.return_, 1) := by decide +kernel
theorem dX0_keep_0 : decode cX0_keep 0 = .ok (.aload_n 0, 1) := by decide +kernel
theorem dX0_keep_1 : decode cX0_keep 1 = .ok (.getfield 18, 3) := by decide +kernel
theorem dX0_keep_4 : decode cX0_keep 4 = .ok (.aload_n 0, 1) := by decide +kernel
theorem dX0_keep_5 : decode cX0_keep 5 = .ok (.getfield 22, 3) := by decide +kernel
theorem dX0_keep_8 : decode cX0_keep 8 = .ok (.iadd, 1) := by decide +kernel
theorem dX0_keep_9 : decode cX0_keep 9 = .ok (.bipush 10, 2) := by decide +kernel
theorem dX0_keep_11 : decode cX0_keep 11 = .ok (.invokestatic 25, 3) := by decide +kernel
theorem dX0_keep_14 : decode cX0_keep 14 = .ok (.istore_n 2, 1) := by decide +kernel
theorem dX0_keep_15 : decode cX0_keep 15 = .ok (.iload_n 2, 1) := by decide +kernel
theorem dX0_keep_16 : decode cX0_keep 16 = .ok (.ifCond .lt 22, 3) := by decide +kernel
theorem dX0_keep_19 : decode cX0_keep 19 = .ok (.iload_n 2, 1) := by decide +kernel
theorem dX0_keep_20 : decode cX0_keep 20 = .ok (.aload_n 0, 1) := by decide +kernel
theorem dX0_keep_21 : decode cX0_keep 21 = .ok (.getfield 11, 3) := by decide +kernel
theorem dX0_keep_24 : decode cX0_keep 24 = .ok (.arraylength, 1) := by decide +kernel
theorem dX0_keep_25 : decode cX0_keep 25 = .ok (.if_icmp .ge 13, 3) := by decide +kernel
theorem dX0_keep_28 : decode cX0_keep 28 = .ok (.aload_n 0, 1) := by decide +kernel
theorem dX0_keep_29 : decode cX0_keep 29 = .ok (.getfield 11, 3) := by decide +kernel
theorem dX0_keep_32 : decode cX0_keep 32 = .ok (.iload_n 2, 1) := by decide +kernel
theorem dX0_keep_33 : decode cX0_keep 33 = .ok (.aaload, 1) := by decide +kernel
theorem dX0_keep_34 : decode cX0_keep 34 = .ok (.aload_n 1, 1) := by decide +kernel
theorem dX0_keep_35 : decode cX0_keep 35 = .ok (.invokevirtual 31, 3) := by decide +kernel
theorem dX0_keep_38 : decode cX0_keep 38 = .ok (.aload_n 0, 1) := by decide +kernel
theorem dX0_keep_39 : decode cX0_keep 39 = .ok (.getfield 22, 3) := by decide +kernel
theorem dX0_keep_42 : decode cX0_keep 42 = .ok (.bipush 10, 2) := by decide +kernel
theorem dX0_keep_44 : decode cX0_keep 44 = .ok (.if_icmp .ge 16, 3) := by decide +kernel
theorem dX0_keep_47 : decode cX0_keep 47 = .ok (.aload_n 0, 1) := by decide +kernel
theorem dX0_keep_48 : decode cX0_keep 48 = .ok (.dup, 1) := by decide +kernel
theorem dX0_keep_49 : decode cX0_keep 49 = .ok (.getfield 22, 3) := by decide +kernel
theorem dX0_keep_52 : decode cX0_keep 52 = .ok (.iconst 1, 1) := by decide +kernel
theorem dX0_keep_53 : decode cX0_keep 53 = .ok (.iadd, 1) := by decide +kernel
theorem dX0_keep_54 : decode cX0_keep 54 = .ok (.putfield 22, 3) := by decide +kernel
theorem dX0_keep_57 : decode cX0_keep 57 = .ok (.goto 18, 3) := by decide +kernel
theorem dX0_keep_60 : decode cX0_keep 60 = .ok (.aload_n 0, 1) := by decide +kernel
theorem dX0_keep_61 : decode cX0_keep 61 = .ok (.aload_n 0, 1) := by decide +kernel
theorem dX0_keep_62 : decode cX0_keep 62 = .ok (.getfield 18, 3) := by decide +kernel
theorem dX0_keep_65 : decode cX0_keep 65 = .ok (.iconst 1, 1) := by decide +kernel
theorem dX0_keep_66 : decode cX0_keep 66 = .ok (.iadd, 1) := by decide +kernel
theorem dX0_keep_67 : decode cX0_keep 67 = .ok (.bipush 10, 2) := by decide +kernel
theorem dX0_keep_69 : decode cX0_keep 69 = .ok (.invokestatic 25, 3) := by decide +kernel
theorem dX0_keep_72 : decode cX0_keep 72 = .ok (.putfield 18, 3) := by decide +kernel
theorem dX0_keep_75 : decode cX0_keep 75 = .ok (.return_, 1) := by decide +kernel
theorem dX1_init_0 : decode cX1_init 0 = .ok (.aload_n 0, 1) := by decide +kernel
theorem dX1_init_1 : decode cX1_init 1 = .ok (.invokespecial 1, 3) := by decide +kernel
theorem dX1_init_4 : decode cX1_init 4 = .ok (.return_, 1) := by decide +kernel
theorem dX1_clear_0 : decode cX1_clear 0 = .ok (.aload_n 0, 1) := by decide +kernel
theorem dX1_clear_1 : decode cX1_clear 1 = .ok (.sipush 1000, 3) := by decide +kernel
theorem dX1_clear_4 : decode cX1_clear 4 = .ok (.sipush 10000, 3) := by decide +kernel
theorem dX1_clear_7 : decode cX1_clear 7 = .ok (.iconst 0, 1) := by decide +kernel
theorem dX1_clear_8 : decode cX1_clear 8 = .ok (.invokevirtual 7, 3) := by decide +kernel
theorem dX1_clear_11 : decode cX1_clear 11 = .ok (.aload_n 0, 1) := by decide +kernel
theorem dX1_clear_12 : decode cX1_clear 12 = .ok (.lconst 0, 1) := by decide +kernel
theorem dX1_clear_13 : decode cX1_clear 13 = .ok (.putfield 13, 3) := by decide +kernel
theorem dX1_clear_16 : decode cX1_clear 16 = .ok (.aload_n 0, 1) := by decide +kernel
theorem dX1_clear_17 : decode cX1_clear 17 = .ok (.lconst 0, 1) := by decide +kernel
theorem dX1_clear_18 : decode cX1_clear 18 = .ok (.putfield 17, 3) := by decide +kernel
theorem dX1_clear_21 : decode cX1_clear 21 = .ok (.aload_n 0, 1) := by decide +kernel
theorem dX1_clear_22 : decode cX1_clear 22 = .ok (.lconst 0, 1) := by decide +kernel
theorem dX1_clear_23 : decode cX1_clear 23 = .ok (.putfield 20, 3) := by decide +kernel
theorem dX1_clear_26 : decode cX1_clear 26 = .ok (.aload_n 0, 1) := by decide +kernel
theorem dX1_clear_27 : decode cX1_clear 27 = .ok (.lconst 0, 1) := by decide +kernel
theorem dX1_clear_28 : decode cX1_clear 28 = .ok (.putfield 23, 3) := by decide +kernel
theorem dX1_clear_31 : decode cX1_clear 31 = .ok (.return_, 1) := by decide +kernel
theorem dX1_liquid_0 : decode cX1_liquid 0 = .ok (.aload_n 0, 1) := by decide +kernel
theorem dX1_liquid_1 : decode cX1_liquid 1 = .ok (.iload_n 1, 1) := by decide +kernel
theorem dX1_liquid_2 : decode cX1_liquid 2 = .ok (.putfield 26, 3) := by decide +kernel
theorem dX1_liquid_5 : decode cX1_liquid 5 = .ok (.aload_n 0, 1) := by decide +kernel
theorem dX1_liquid_6 : decode cX1_liquid 6 = .ok (.iload_n 2, 1) := by decide +kernel
theorem dX1_liquid_7 : decode cX1_liquid 7 = .ok (.putfield 30, 3) := by decide +kernel
theorem dX1_liquid_10 : decode cX1_liquid 10 = .ok (.aload_n 0, 1) := by decide +kernel
theorem dX1_liquid_11 : decode cX1_liquid 11 = .ok (.iload_n 3, 1) := by decide +kernel
theorem dX1_liquid_12 : decode cX1_liquid 12 = .ok (.putfield 33, 3) := by decide +kernel
theorem dX1_liquid_15 : decode cX1_liquid 15 = .ok (.return_, 1) := by decide +kernel
theorem dX1_copyFrom_0 : decode cX1_copyFrom 0 = .ok (.aload_n 0, 1) := by decide +kernel
theorem dX1_copyFrom_1 : decode cX1_copyFrom 1 = .ok (.aload_n 1, 1) := by decide +kernel
theorem dX1_copyFrom_2 : decode cX1_copyFrom 2 = .ok (.getfield 26, 3) := by decide +kernel
theorem dX1_copyFrom_5 : decode cX1_copyFrom 5 = .ok (.aload_n 1, 1) := by decide +kernel
theorem dX1_copyFrom_6 : decode cX1_copyFrom 6 = .ok (.getfield 30, 3) := by decide +kernel
theorem dX1_copyFrom_9 : decode cX1_copyFrom 9 = .ok (.aload_n 1, 1) := by decide +kernel
theorem dX1_copyFrom_10 : decode cX1_copyFrom 10 = .ok (.getfield 33, 3) := by decide +kernel
theorem dX1_copyFrom_13 : decode cX1_copyFrom 13 = .ok (.invokevirtual 7, 3) := by decide +kernel
theorem dX1_copyFrom_16 : decode cX1_copyFrom 16 = .ok (.aload_n 0, 1) := by decide +kernel
theorem dX1_copyFrom_17 : decode cX1_copyFrom 17 = .ok (.aload_n 1, 1) := by decide +kernel
theorem dX1_copyFrom_18 : decode cX1_copyFrom 18 = .ok (.getfield 13, 3) := by decide +kernel
theorem dX1_copyFrom_21 : decode cX1_copyFrom 21 = .ok (.putfield 13, 3) := by decide +kernel
theorem dX1_copyFrom_24 : decode cX1_copyFrom 24 = .ok (.aload_n 0, 1) := by decide +kernel
theorem dX1_copyFrom_25 : decode cX1_copyFrom 25 = .ok (.aload_n 1, 1) := by decide +kernel
theorem dX1_copyFrom_26 : decode cX1_copyFrom 26 = .ok (.getfield 17, 3) := by decide +kernel
theorem dX1_copyFrom_29 : decode cX1_copyFrom 29 = .ok (.putfield 17, 3) := by decide +kernel
theorem dX1_copyFrom_32 : decode cX1_copyFrom 32 = .ok (.aload_n 0, 1) := by decide +kernel
theorem dX1_copyFrom_33 : decode cX1_copyFrom 33 = .ok (.aload_n 1, 1) := by decide +kernel
theorem dX1_copyFrom_34 : decode cX1_copyFrom 34 = .ok (.getfield 20, 3) := by decide +kernel
theorem dX1_copyFrom_37 : decode cX1_copyFrom 37 = .ok (.putfield 20, 3) := by decide +kernel
theorem dX1_copyFrom_40 : decode cX1_copyFrom 40 = .ok (.aload_n 0, 1) := by decide +kernel
theorem dX1_copyFrom_41 : decode cX1_copyFrom 41 = .ok (.aload_n 1, 1) := by decide +kernel
theorem dX1_copyFrom_42 : decode cX1_copyFrom 42 = .ok (.getfield 23, 3) := by decide +kernel
theorem dX1_copyFrom_45 : decode cX1_copyFrom 45 = .ok (.putfield 23, 3) := by decide +kernel
theorem dX1_copyFrom_48 : decode cX1_copyFrom 48 = .ok (.return_, 1) := by decide +kernel
theorem dX3_init_0 : decode cX3_init 0 = .ok (.aload_n 0, 1) := by decide +kernel
theorem dX3_init_1 : decode cX3_init 1 = .ok (.invokespecial 3, 3) := by decide +kernel
theorem dX3_init_4 : decode cX3_init 4 = .ok (.aload_n 0, 1) := by decide +kernel
theorem dX3_init_5 : decode cX3_init 5 = .ok (.bipush 8, 2) := by decide +kernel
theorem dX3_init_7 : decode cX3_init 7 = .ok (.newarray .int, 2) := by decide +kernel
theorem dX3_init_9 : decode cX3_init 9 = .ok (.putfield 9, 3) := by decide +kernel
theorem dX3_init_12 : decode cX3_init 12 = .ok (.aload_n 0, 1) := by decide +kernel
theorem dX3_init_13 : decode cX3_init 13 = .ok (.new 15, 3) := by decide +kernel
theorem dX3_init_16 : decode cX3_init 16 = .ok (.dup, 1) := by decide +kernel
theorem dX3_init_17 : decode cX3_init 17 = .ok (.invokespecial 17, 3) := by decide +kernel
theorem dX3_init_20 : decode cX3_init 20 = .ok (.putfield 18, 3) := by decide +kernel
theorem dX3_init_23 : decode cX3_init 23 = .ok (.aload_n 0, 1) := by decide +kernel
theorem dX3_init_24 : decode cX3_init 24 = .ok (.new 15, 3) := by decide +kernel
theorem dX3_init_27 : decode cX3_init 27 = .ok (.dup, 1) := by decide +kernel
theorem dX3_init_28 : decode cX3_init 28 = .ok (.invokespecial 17, 3) := by decide +kernel
theorem dX3_init_31 : decode cX3_init 31 = .ok (.putfield 22, 3) := by decide +kernel
theorem dX3_init_34 : decode cX3_init 34 = .ok (.aload_n 0, 1) := by decide +kernel
theorem dX3_init_35 : decode cX3_init 35 = .ok (.bipush 12, 2) := by decide +kernel
theorem dX3_init_37 : decode cX3_init 37 = .ok (.anewarray 25, 3) := by decide +kernel
theorem dX3_init_40 : decode cX3_init 40 = .ok (.putfield 27, 3) := by decide +kernel
theorem dX3_init_43 : decode cX3_init 43 = .ok (.aload_n 0, 1) := by decide +kernel
theorem dX3_init_44 : decode cX3_init 44 = .ok (.new 25, 3) := by decide +kernel
theorem dX3_init_47 : decode cX3_init 47 = .ok (.dup, 1) := by decide +kernel
theorem dX3_init_48 : decode cX3_init 48 = .ok (.invokespecial 31, 3) := by decide +kernel
theorem dX3_init_51 : decode cX3_init 51 = .ok (.putfield 32, 3) := by decide +kernel
theorem dX3_init_54 : decode cX3_init 54 = .ok (.iconst 0, 1) := by decide +kernel
theorem dX3_init_55 : decode cX3_init 55 = .ok (.istore_n 1, 1) := by decide +kernel
theorem dX3_init_56 : decode cX3_init 56 = .ok (.iload_n 1, 1) := by decide +kernel
theorem dX3_init_57 : decode cX3_init 57 = .ok (.aload_n 0, 1) := by decide +kernel
theorem dX3_init_58 : decode cX3_init 58 = .ok (.getfield 27, 3) := by decide +kernel
theorem dX3_init_61 : decode cX3_init 61 = .ok (.arraylength, 1) := by decide +kernel
theorem dX3_init_62 : decode cX3_init 62 = .ok (.if_icmp .ge 22, 3) := by decide +kernel
theorem dX3_init_65 : decode cX3_init 65 = .ok (.aload_n 0, 1) := by decide +kernel
theorem dX3_init_66 : decode cX3_init 66 = .ok (.getfield 27, 3) := by decide +kernel
theorem dX3_init_69 : decode cX3_init 69 = .ok (.iload_n 1, 1) := by decide +kernel
theorem dX3_init_70 : decode cX3_init 70 = .ok (.new 25, 3) := by decide +kernel
theorem dX3_init_73 : decode cX3_init 73 = .ok (.dup, 1) := by decide +kernel
theorem dX3_init_74 : decode cX3_init 74 = .ok (.invokespecial 31, 3) := by decide +kernel
theorem dX3_init_77 : decode cX3_init 77 = .ok (.aastore, 1) := by decide +kernel
theorem dX3_init_78 : decode cX3_init 78 = .ok (.iinc 1 1, 3) := by decide +kernel
theorem dX3_init_81 : decode cX3_init 81 = .ok (.goto (-25), 3) := by decide +kernel
theorem dX3_init_84 : decode cX3_init 84 = .ok (.return_, 1) := by decide +kernel
theorem dX3_clear_0 : decode cX3_clear 0 = .ok (.aload_n 0, 1) := by decide +kernel
theorem dX3_clear_1 : decode cX3_clear 1 = .ok (.iload_n 1, 1) := by decide +kernel
theorem dX3_clear_2 : decode cX3_clear 2 = .ok (.putfield 36, 3) := by decide +kernel
theorem dX3_clear_5 : decode cX3_clear 5 = .ok (.aload_n 0, 1) := by decide +kernel
theorem dX3_clear_6 : decode cX3_clear 6 = .ok (.iload_n 2, 1) := by decide +kernel
theorem dX3_clear_7 : decode cX3_clear 7 = .ok (.putfield 40, 3) := by decide +kernel
theorem dX3_clear_10 : decode cX3_clear 10 = .ok (.aload_n 0, 1) := by decide +kernel
theorem dX3_clear_11 : decode cX3_clear 11 = .ok (.iconst 0, 1) := by decide +kernel
theorem dX3_clear_12 : decode cX3_clear 12 = .ok (.putfield 43, 3) := by decide +kernel
theorem dX3_clear_15 : decode cX3_clear 15 = .ok (.iconst 0, 1) := by decide +kernel
theorem dX3_clear_16 : decode cX3_clear 16 = .ok (.istore_n 3, 1) := by decide +kernel
theorem dX3_clear_17 : decode cX3_clear 17 = .ok (.iload_n 3, 1) := by decide +kernel
theorem dX3_clear_18 : decode cX3_clear 18 = .ok (.aload_n 0, 1) := by decide +kernel
theorem dX3_clear_19 : decode cX3_clear 19 = .ok (.getfield 9, 3) := by decide +kernel
theorem dX3_clear_22 : decode cX3_clear 22 = .ok (.arraylength, 1) := by decide +kernel
theorem dX3_clear_23 : decode cX3_clear 23 = .ok (.if_icmp .ge 17, 3) := by decide +kernel
theorem dX3_clear_26 : decode cX3_clear 26 = .ok (.aload_n 0, 1) := by decide +kernel
theorem dX3_clear_27 : decode cX3_clear 27 = .ok (.getfield 9, 3) := by decide +kernel
theorem dX3_clear_30 : decode cX3_clear 30 = .ok (.iload_n 3, 1) := by decide +kernel
theorem dX3_clear_31 : decode cX3_clear 31 = .ok (.ldc 46, 2) := by decide +kernel
theorem dX3_clear_33 : decode cX3_clear 33 = .ok (.iastore, 1) := by decide +kernel
theorem dX3_clear_34 : decode cX3_clear 34 = .ok (.iinc 3 1, 3) := by decide +kernel
theorem dX3_clear_37 : decode cX3_clear 37 = .ok (.goto (-20), 3) := by decide +kernel
theorem dX3_clear_40 : decode cX3_clear 40 = .ok (.aload_n 0, 1) := by decide +kernel
theorem dX3_clear_41 : decode cX3_clear 41 = .ok (.getfield 18, 3) := by decide +kernel
theorem dX3_clear_44 : decode cX3_clear 44 = .ok (.invokevirtual 47, 3) := by decide +kernel
theorem dX3_clear_47 : decode cX3_clear 47 = .ok (.aload_n 0, 1) := by decide +kernel
theorem dX3_clear_48 : decode cX3_clear 48 = .ok (.getfield 22, 3) := by decide +kernel
theorem dX3_clear_51 : decode cX3_clear 51 = .ok (.invokevirtual 47, 3) := by decide +kernel
theorem dX3_clear_54 : decode cX3_clear 54 = .ok (.return_, 1) := by decide +kernel
theorem dX3_copyFrom_0 : decode cX3_copyFrom 0 = .ok (.aload_n 0, 1) := by decide +kernel
theorem dX3_copyFrom_1 : decode cX3_copyFrom 1 = .ok (.aload_n 1, 1) := by decide +kernel
theorem dX3_copyFrom_2 : decode cX3_copyFrom 2 = .ok (.getfield 36, 3) := by decide +kernel
theorem dX3_copyFrom_5 : decode cX3_copyFrom 5 = .ok (.putfield 36, 3) := by decide +kernel
theorem dX3_copyFrom_8 : decode cX3_copyFrom 8 = .ok (.aload_n 0, 1) := by decide +kernel
theorem dX3_copyFrom_9 : decode cX3_copyFrom 9 = .ok (.aload_n 1, 1) := by decide +kernel
theorem dX3_copyFrom_10 : decode cX3_copyFrom 10 = .ok (.getfield 40, 3) := by decide +kernel
theorem dX3_copyFrom_13 : decode cX3_copyFrom 13 = .ok (.putfield 40, 3) := by decide +kernel
theorem dX3_copyFrom_16 : decode cX3_copyFrom 16 = .ok (.aload_n 0, 1) := by decide +kernel
theorem dX3_copyFrom_17 : decode cX3_copyFrom 17 = .ok (.aload_n 1, 1) := by decide +kernel
theorem dX3_copyFrom_18 : decode cX3_copyFrom 18 = .ok (.getfield 43, 3) := by decide +kernel
theorem dX3_copyFrom_21 : decode cX3_copyFrom 21 = .ok (.putfield 43, 3) := by decide +kernel
theorem dX3_copyFrom_24 : decode cX3_copyFrom 24 = .ok (.iconst 0, 1) := by decide +kernel
theorem dX3_copyFrom_25 : decode cX3_copyFrom 25 = .ok (.istore_n 2, 1) := by decide +kernel
theorem dX3_copyFrom_26 : decode cX3_copyFrom 26 = .ok (.iload_n 2, 1) := by decide +kernel
theorem dX3_copyFrom_27 : decode cX3_copyFrom 27 = .ok (.aload_n 0, 1) := by decide +kernel
theorem dX3_copyFrom_28 : decode cX3_copyFrom 28 = .ok (.getfield 9, 3) := by decide +kernel
theorem dX3_copyFrom_31 : decode cX3_copyFrom 31 = .ok (.arraylength, 1) := by decide +kernel
theorem dX3_copyFrom_32 : decode cX3_copyFrom 32 = .ok (.if_icmp .ge 20, 3) := by decide +kernel
theorem dX3_copyFrom_35 : decode cX3_copyFrom 35 = .ok (.aload_n 0, 1) := by decide +kernel
theorem dX3_copyFrom_36 : decode cX3_copyFrom 36 = .ok (.getfield 9, 3) := by decide +kernel
theorem dX3_copyFrom_39 : decode cX3_copyFrom 39 = .ok (.iload_n 2, 1) := by decide +kernel
theorem dX3_copyFrom_40 : decode cX3_copyFrom 40 = .ok (.aload_n 1, 1) := by decide +kernel
theorem dX3_copyFrom_41 : decode cX3_copyFrom 41 = .ok (.iload_n 2, 1) := by decide +kernel
theorem dX3_copyFrom_42 : decode cX3_copyFrom 42 = .ok (.invokevirtual 50, 3) := by decide +kernel
theorem dX3_copyFrom_45 : decode cX3_copyFrom 45 = .ok (.iastore, 1) := by decide +kernel
theorem dX3_copyFrom_46 : decode cX3_copyFrom 46 = .ok (.iinc 2 1, 3) := by decide +kernel
theorem dX3_copyFrom_49 : decode cX3_copyFrom 49 = .ok (.goto (-23), 3) := by decide +kernel
theorem dX3_copyFrom_52 : decode cX3_copyFrom 52 = .ok (.aload_n 0, 1) := by decide +kernel
theorem dX3_copyFrom_53 : decode cX3_copyFrom 53 = .ok (.getfield 18, 3) := by decide +kernel
theorem dX3_copyFrom_56 : decode cX3_copyFrom 56 = .ok (.aload_n 1, 1) := by decide +kernel
theorem dX3_copyFrom_57 : decode cX3_copyFrom 57 = .ok (.getfield 18, 3) := by decide +kernel
theorem dX3_copyFrom_60 : decode cX3_copyFrom 60 = .ok (.invokevirtual 54, 3) := by decide +kernel
theorem dX3_copyFrom_63 : decode cX3_copyFrom 63 = .ok (.aload_n 0, 1) := by decide +kernel
theorem dX3_copyFrom_64 : decode cX3_copyFrom 64 = .ok (.getfield 22, 3) := by decide +kernel
theorem dX3_copyFrom_67 : decode cX3_copyFrom 67 = .ok (.aload_n 1, 1) := by decide +kernel
theorem dX3_copyFrom_68 : decode cX3_copyFrom 68 = .ok (.getfield 22, 3) := by decide +kernel
theorem dX3_copyFrom_71 : decode cX3_copyFrom 71 = .ok (.invokevirtual 54, 3) := by decide +kernel
theorem dX3_copyFrom_74 : decode cX3_copyFrom 74 = .ok (.iconst 0, 1) := by decide +kernel
theorem dX3_copyFrom_75 : decode cX3_copyFrom 75 = .ok (.istore_n 2, 1) := by decide +kernel
theorem dX3_copyFrom_76 : decode cX3_copyFrom 76 = .ok (.iload_n 2, 1) := by decide +kernel
theorem dX3_copyFrom_77 : decode cX3_copyFrom 77 = .ok (.aload_n 0, 1) := by decide +kernel
theorem dX3_copyFrom_78 : decode cX3_copyFrom 78 = .ok (.getfield 43, 3) := by decide +kernel
theorem dX3_copyFrom_81 : decode cX3_copyFrom 81 = .ok (.if_icmp .ge 22, 3) := by decide +kernel
theorem dX3_copyFrom_84 : decode cX3_copyFrom 84 = .ok (.aload_n 0, 1) := by decide +kernel
theorem dX3_copyFrom_85 : decode cX3_copyFrom 85 = .ok (.iload_n 2, 1) := by decide +kernel
theorem dX3_copyFrom_86 : decode cX3_copyFrom 86 = .ok (.invokevirtual 58, 3) := by decide +kernel
theorem dX3_copyFrom_89 : decode cX3_copyFrom 89 = .ok (.aload_n 1, 1) := by decide +kernel
theorem dX3_copyFrom_90 : decode cX3_copyFrom 90 = .ok (.iload_n 2, 1) := by decide +kernel
theorem dX3_copyFrom_91 : decode cX3_copyFrom 91 = .ok (.invokevirtual 58, 3) := by decide +kernel
theorem dX3_copyFrom_94 : decode cX3_copyFrom 94 = .ok (.invokevirtual 62, 3) := by decide +kernel
theorem dX3_copyFrom_97 : decode cX3_copyFrom 97 = .ok (.iinc 2 1, 3) := by decide +kernel
theorem dX3_copyFrom_100 : decode cX3_copyFrom 100 = .ok (.goto (-24), 3) := by decide +kernel
theorem dX3_copyFrom_103 : decode cX3_copyFrom 103 = .ok (.return_, 1) := by decide +kernel
theorem dX3_legAt_0 : decode cX3_legAt 0 = .ok (.iload_n 1, 1) := by decide +kernel
theorem dX3_legAt_1 : decode cX3_legAt 1 = .ok (.ifCond .ne 10, 3) := by decide +kernel
theorem dX3_legAt_4 : decode cX3_legAt 4 = .ok (.aload_n 0, 1) := by decide +kernel
theorem dX3_legAt_5 : decode cX3_legAt 5 = .ok (.getfield 18, 3) := by decide +kernel
theorem dX3_legAt_8 : decode cX3_legAt 8 = .ok (.goto 7, 3) := by decide +kernel
theorem dX3_legAt_11 : decode cX3_legAt 11 = .ok (.aload_n 0, 1) := by decide +kernel
theorem dX3_legAt_12 : decode cX3_legAt 12 = .ok (.getfield 22, 3) := by decide +kernel
theorem dX3_legAt_15 : decode cX3_legAt 15 = .ok (.areturn, 1) := by decide +kernel
theorem dX3_tubeAt_0 : decode cX3_tubeAt 0 = .ok (.iload_n 1, 1) := by decide +kernel
theorem dX3_tubeAt_1 : decode cX3_tubeAt 1 = .ok (.ifCond .lt 21, 3) := by decide +kernel
theorem dX3_tubeAt_4 : decode cX3_tubeAt 4 = .ok (.iload_n 1, 1) := by decide +kernel
theorem dX3_tubeAt_5 : decode cX3_tubeAt 5 = .ok (.aload_n 0, 1) := by decide +kernel
theorem dX3_tubeAt_6 : decode cX3_tubeAt 6 = .ok (.getfield 27, 3) := by decide +kernel
theorem dX3_tubeAt_9 : decode cX3_tubeAt 9 = .ok (.arraylength, 1) := by decide +kernel
theorem dX3_tubeAt_10 : decode cX3_tubeAt 10 = .ok (.if_icmp .ge 12, 3) := by decide +kernel
theorem dX3_tubeAt_13 : decode cX3_tubeAt 13 = .ok (.aload_n 0, 1) := by decide +kernel
theorem dX3_tubeAt_14 : decode cX3_tubeAt 14 = .ok (.getfield 27, 3) := by decide +kernel
theorem dX3_tubeAt_17 : decode cX3_tubeAt 17 = .ok (.iload_n 1, 1) := by decide +kernel
theorem dX3_tubeAt_18 : decode cX3_tubeAt 18 = .ok (.aaload, 1) := by decide +kernel
theorem dX3_tubeAt_19 : decode cX3_tubeAt 19 = .ok (.goto 7, 3) := by decide +kernel
theorem dX3_tubeAt_22 : decode cX3_tubeAt 22 = .ok (.aload_n 0, 1) := by decide +kernel
theorem dX3_tubeAt_23 : decode cX3_tubeAt 23 = .ok (.getfield 32, 3) := by decide +kernel
theorem dX3_tubeAt_26 : decode cX3_tubeAt 26 = .ok (.areturn, 1) := by decide +kernel
theorem dX3_pressureAt_0 : decode cX3_pressureAt 0 = .ok (.iload_n 1, 1) := by decide +kernel
theorem dX3_pressureAt_1 : decode cX3_pressureAt 1 = .ok (.ifCond .lt 21, 3) := by decide +kernel
theorem dX3_pressureAt_4 : decode cX3_pressureAt 4 = .ok (.iload_n 1, 1) := by decide +kernel
theorem dX3_pressureAt_5 : decode cX3_pressureAt 5 = .ok (.aload_n 0, 1) := by decide +kernel
theorem dX3_pressureAt_6 : decode cX3_pressureAt 6 = .ok (.getfield 9, 3) := by decide +kernel
theorem dX3_pressureAt_9 : decode cX3_pressureAt 9 = .ok (.arraylength, 1) := by decide +kernel
theorem dX3_pressureAt_10 : decode cX3_pressureAt 10 = .ok (.if_icmp .ge 12, 3) := by decide +kernel
theorem dX3_pressureAt_13 : decode cX3_pressureAt 13 = .ok (.aload_n 0, 1) := by decide +kernel
theorem dX3_pressureAt_14 : decode cX3_pressureAt 14 = .ok (.getfield 9, 3) := by decide +kernel
theorem dX3_pressureAt_17 : decode cX3_pressureAt 17 = .ok (.iload_n 1, 1) := by decide +kernel
theorem dX3_pressureAt_18 : decode cX3_pressureAt 18 = .ok (.iaload, 1) := by decide +kernel
theorem dX3_pressureAt_19 : decode cX3_pressureAt 19 = .ok (.goto 4, 3) := by decide +kernel
theorem dX3_pressureAt_22 : decode cX3_pressureAt 22 = .ok (.iconst 0, 1) := by decide +kernel
theorem dX3_pressureAt_23 : decode cX3_pressureAt 23 = .ok (.ireturn, 1) := by decide +kernel
theorem dX3_press_0 : decode cX3_press 0 = .ok (.iload_n 1, 1) := by decide +kernel
theorem dX3_press_1 : decode cX3_press 1 = .ok (.ifCond .lt 19, 3) := by decide +kernel
theorem dX3_press_4 : decode cX3_press 4 = .ok (.iload_n 1, 1) := by decide +kernel
theorem dX3_press_5 : decode cX3_press 5 = .ok (.aload_n 0, 1) := by decide +kernel
theorem dX3_press_6 : decode cX3_press 6 = .ok (.getfield 9, 3) := by decide +kernel
theorem dX3_press_9 : decode cX3_press 9 = .ok (.arraylength, 1) := by decide +kernel
theorem dX3_press_10 : decode cX3_press 10 = .ok (.if_icmp .ge 10, 3) := by decide +kernel
theorem dX3_press_13 : decode cX3_press 13 = .ok (.aload_n 0, 1) := by decide +kernel
theorem dX3_press_14 : decode cX3_press 14 = .ok (.getfield 9, 3) := by decide +kernel
theorem dX3_press_17 : decode cX3_press 17 = .ok (.iload_n 1, 1) := by decide +kernel
theorem dX3_press_18 : decode cX3_press 18 = .ok (.iload_n 2, 1) := by decide +kernel
theorem dX3_press_19 : decode cX3_press 19 = .ok (.iastore, 1) := by decide +kernel
theorem dX3_press_20 : decode cX3_press 20 = .ok (.return_, 1) := by decide +kernel
theorem dX3_append_0 : decode cX3_append 0 = .ok (.aload_n 0, 1) := by decide +kernel
theorem dX3_append_1 : decode cX3_append 1 = .ok (.getfield 43, 3) := by decide +kernel
theorem dX3_append_4 : decode cX3_append 4 = .ok (.bipush 12, 2) := by decide +kernel
theorem dX3_append_6 : decode cX3_append 6 = .ok (.if_icmp .lt 8, 3) := by decide +kernel
theorem dX3_append_9 : decode cX3_append 9 = .ok (.aload_n 0, 1) := by decide +kernel
theorem dX3_append_10 : decode cX3_append 10 = .ok (.getfield 32, 3) := by decide +kernel
theorem dX3_append_13 : decode cX3_append 13 = .ok (.areturn, 1) := by decide +kernel
theorem dX3_append_14 : decode cX3_append 14 = .ok (.aload_n 0, 1) := by decide +kernel
theorem dX3_append_15 : decode cX3_append 15 = .ok (.dup, 1) := by decide +kernel
theorem dX3_append_16 : decode cX3_append 16 = .ok (.getfield 43, 3) := by decide +kernel
theorem dX3_append_19 : decode cX3_append 19 = .ok (.iconst 1, 1) := by decide +kernel
theorem dX3_append_20 : decode cX3_append 20 = .ok (.iadd, 1) := by decide +kernel
theorem dX3_append_21 : decode cX3_append 21 = .ok (.putfield 43, 3) := by decide +kernel
theorem dX3_append_24 : decode cX3_append 24 = .ok (.aload_n 0, 1) := by decide +kernel
theorem dX3_append_25 : decode cX3_append 25 = .ok (.aload_n 0, 1) := by decide +kernel
theorem dX3_append_26 : decode cX3_append 26 = .ok (.getfield 43, 3) := by decide +kernel
theorem dX3_append_29 : decode cX3_append 29 = .ok (.iconst 1, 1) := by decide +kernel
theorem dX3_append_30 : decode cX3_append 30 = .ok (.isub, 1) := by decide +kernel
theorem dX3_append_31 : decode cX3_append 31 = .ok (.invokevirtual 58, 3) := by decide +kernel
theorem dX3_append_34 : decode cX3_append 34 = .ok (.areturn, 1) := by decide +kernel
theorem dX3_remove_0 : decode cX3_remove 0 = .ok (.iload_n 1, 1) := by decide +kernel
theorem dX3_remove_1 : decode cX3_remove 1 = .ok (.istore_n 2, 1) := by decide +kernel
theorem dX3_remove_2 : decode cX3_remove 2 = .ok (.iload_n 2, 1) := by decide +kernel
theorem dX3_remove_3 : decode cX3_remove 3 = .ok (.aload_n 0, 1) := by decide +kernel
theorem dX3_remove_4 : decode cX3_remove 4 = .ok (.getfield 43, 3) := by decide +kernel
theorem dX3_remove_7 : decode cX3_remove 7 = .ok (.iconst 1, 1) := by decide +kernel
theorem dX3_remove_8 : decode cX3_remove 8 = .ok (.isub, 1) := by decide +kernel
theorem dX3_remove_9 : decode cX3_remove 9 = .ok (.if_icmp .ge 24, 3) := by decide +kernel
theorem dX3_remove_12 : decode cX3_remove 12 = .ok (.aload_n 0, 1) := by decide +kernel
theorem dX3_remove_13 : decode cX3_remove 13 = .ok (.iload_n 2, 1) := by decide +kernel
theorem dX3_remove_14 : decode cX3_remove 14 = .ok (.invokevirtual 58, 3) := by decide +kernel
theorem dX3_remove_17 : decode cX3_remove 17 = .ok (.aload_n 0, 1) := by decide +kernel
theorem dX3_remove_18 : decode cX3_remove 18 = .ok (.iload_n 2, 1) := by decide +kernel
theorem dX3_remove_19 : decode cX3_remove 19 = .ok (.iconst 1, 1) := by decide +kernel
theorem dX3_remove_20 : decode cX3_remove 20 = .ok (.iadd, 1) := by decide +kernel
theorem dX3_remove_21 : decode cX3_remove 21 = .ok (.invokevirtual 58, 3) := by decide +kernel
theorem dX3_remove_24 : decode cX3_remove 24 = .ok (.invokevirtual 62, 3) := by decide +kernel
theorem dX3_remove_27 : decode cX3_remove 27 = .ok (.iinc 2 1, 3) := by decide +kernel
theorem dX3_remove_30 : decode cX3_remove 30 = .ok (.goto (-28), 3) := by decide +kernel
theorem dX3_remove_33 : decode cX3_remove 33 = .ok (.aload_n 0, 1) := by decide +kernel
theorem dX3_remove_34 : decode cX3_remove 34 = .ok (.dup, 1) := by decide +kernel
theorem dX3_remove_35 : decode cX3_remove 35 = .ok (.getfield 43, 3) := by decide +kernel
theorem dX3_remove_38 : decode cX3_remove 38 = .ok (.iconst 1, 1) := by decide +kernel
theorem dX3_remove_39 : decode cX3_remove 39 = .ok (.isub, 1) := by decide +kernel
theorem dX3_remove_40 : decode cX3_remove 40 = .ok (.putfield 43, 3) := by decide +kernel
theorem dX3_remove_43 : decode cX3_remove 43 = .ok (.return_, 1) := by decide +kernel
theorem dX3_countInState_0 : decode cX3_countInState 0 = .ok (.iconst 0, 1) := by decide +kernel
theorem dX3_countInState_1 : decode cX3_countInState 1 = .ok (.istore_n 2, 1) := by decide +kernel
theorem dX3_countInState_2 : decode cX3_countInState 2 = .ok (.iconst 0, 1) := by decide +kernel
theorem dX3_countInState_3 : decode cX3_countInState 3 = .ok (.istore_n 3, 1) := by decide +kernel
theorem dX3_countInState_4 : decode cX3_countInState 4 = .ok (.iload_n 3, 1) := by decide +kernel
theorem dX3_countInState_5 : decode cX3_countInState 5 = .ok (.aload_n 0, 1) := by decide +kernel
theorem dX3_countInState_6 : decode cX3_countInState 6 = .ok (.getfield 43, 3) := by decide +kernel
theorem dX3_countInState_9 : decode cX3_countInState 9 = .ok (.if_icmp .ge 29, 3) := by decide +kernel
theorem dX3_countInState_12 : decode cX3_countInState 12 = .ok (.iload_n 2, 1) := by decide +kernel
theorem dX3_countInState_13 : decode cX3_countInState 13 = .ok (.aload_n 0, 1) := by decide +kernel
theorem dX3_countInState_14 : decode cX3_countInState 14 = .ok (.iload_n 3, 1) := by decide +kernel
theorem dX3_countInState_15 : decode cX3_countInState 15 = .ok (.invokevirtual 58, 3) := by decide +kernel
theorem dX3_countInState_18 : decode cX3_countInState 18 = .ok (.getfield 65, 3) := by decide +kernel
theorem dX3_countInState_21 : decode cX3_countInState 21 = .ok (.iload_n 1, 1) := by decide +kernel
theorem dX3_countInState_22 : decode cX3_countInState 22 = .ok (.if_icmp .ne 7, 3) := by decide +kernel
theorem dX3_countInState_25 : decode cX3_countInState 25 = .ok (.iconst 1, 1) := by decide +kernel
theorem dX3_countInState_26 : decode cX3_countInState 26 = .ok (.goto 4, 3) := by decide +kernel
theorem dX3_countInState_29 : decode cX3_countInState 29 = .ok (.iconst 0, 1) := by decide +kernel
theorem dX3_countInState_30 : decode cX3_countInState 30 = .ok (.iadd, 1) := by decide +kernel
theorem dX3_countInState_31 : decode cX3_countInState 31 = .ok (.istore_n 2, 1) := by decide +kernel
theorem dX3_countInState_32 : decode cX3_countInState 32 = .ok (.iinc 3 1, 3) := by decide +kernel
theorem dX3_countInState_35 : decode cX3_countInState 35 = .ok (.goto (-31), 3) := by decide +kernel
theorem dX3_countInState_38 : decode cX3_countInState 38 = .ok (.iload_n 2, 1) := by decide +kernel
theorem dX3_countInState_39 : decode cX3_countInState 39 = .ok (.ireturn, 1) := by decide +kernel
theorem dX3_countInLeg_0 : decode cX3_countInLeg 0 = .ok (.iconst 0, 1) := by decide +kernel
theorem dX3_countInLeg_1 : decode cX3_countInLeg 1 = .ok (.istore_n 2, 1) := by decide +kernel
theorem dX3_countInLeg_2 : decode cX3_countInLeg 2 = .ok (.iconst 0, 1) := by decide +kernel
theorem dX3_countInLeg_3 : decode cX3_countInLeg 3 = .ok (.istore_n 3, 1) := by decide +kernel
theorem dX3_countInLeg_4 : decode cX3_countInLeg 4 = .ok (.iload_n 3, 1) := by decide +kernel
theorem dX3_countInLeg_5 : decode cX3_countInLeg 5 = .ok (.aload_n 0, 1) := by decide +kernel
theorem dX3_countInLeg_6 : decode cX3_countInLeg 6 = .ok (.getfield 43, 3) := by decide +kernel
theorem dX3_countInLeg_9 : decode cX3_countInLeg 9 = .ok (.if_icmp .ge 29, 3) := by decide +kernel
theorem dX3_countInLeg_12 : decode cX3_countInLeg 12 = .ok (.iload_n 2, 1) := by decide +kernel
theorem dX3_countInLeg_13 : decode cX3_countInLeg 13 = .ok (.aload_n 0, 1) := by decide +kernel
theorem dX3_countInLeg_14 : decode cX3_countInLeg 14 = .ok (.iload_n 3, 1) := by decide +kernel
theorem dX3_countInLeg_15 : decode cX3_countInLeg 15 = .ok (.invokevirtual 58, 3) := by decide +kernel
theorem dX3_countInLeg_18 : decode cX3_countInLeg 18 = .ok (.getfield 68, 3) := by decide +kernel
theorem dX3_countInLeg_21 : decode cX3_countInLeg 21 = .ok (.iload_n 1, 1) := by decide +kernel
theorem dX3_countInLeg_22 : decode cX3_countInLeg 22 = .ok (.if_icmp .ne 7, 3) := by decide +kernel
theorem dX3_countInLeg_25 : decode cX3_countInLeg 25 = .ok (.iconst 1, 1) := by decide +kernel
theorem dX3_countInLeg_26 : decode cX3_countInLeg 26 = .ok (.goto 4, 3) := by decide +kernel
theorem dX3_countInLeg_29 : decode cX3_countInLeg 29 = .ok (.iconst 0, 1) := by decide +kernel
theorem dX3_countInLeg_30 : decode cX3_countInLeg 30 = .ok (.iadd, 1) := by decide +kernel
theorem dX3_countInLeg_31 : decode cX3_countInLeg 31 = .ok (.istore_n 2, 1) := by decide +kernel
theorem dX3_countInLeg_32 : decode cX3_countInLeg 32 = .ok (.iinc 3 1, 3) := by decide +kernel
theorem dX3_countInLeg_35 : decode cX3_countInLeg 35 = .ok (.goto (-31), 3) := by decide +kernel
theorem dX3_countInLeg_38 : decode cX3_countInLeg 38 = .ok (.iload_n 2, 1) := by decide +kernel
theorem dX3_countInLeg_39 : decode cX3_countInLeg 39 = .ok (.ireturn, 1) := by decide +kernel
theorem dX3_numberOf_0 : decode cX3_numberOf 0 = .ok (.aload_n 0, 1) := by decide +kernel
theorem dX3_numberOf_1 : decode cX3_numberOf 1 = .ok (.iload_n 1, 1) := by decide +kernel
theorem dX3_numberOf_2 : decode cX3_numberOf 2 = .ok (.invokevirtual 58, 3) := by decide +kernel
theorem dX3_numberOf_5 : decode cX3_numberOf 5 = .ok (.astore_n 3, 1) := by decide +kernel
theorem dX3_numberOf_6 : decode cX3_numberOf 6 = .ok (.iload_n 2, 1) := by decide +kernel
theorem dX3_numberOf_7 : decode cX3_numberOf 7 = .ok (.tableswitch 129 0 12 #[65, 70, 75, 80, 85, 90, 95, 100, 105, 110, 115, 129, 120], 65) := by decide +kernel
theorem dX3_numberOf_72 : decode cX3_numberOf 72 = .ok (.aload_n 3, 1) := by decide +kernel
theorem dX3_numberOf_73 : decode cX3_numberOf 73 = .ok (.getfield 68, 3) := by decide +kernel
theorem dX3_numberOf_76 : decode cX3_numberOf 76 = .ok (.ireturn, 1) := by decide +kernel
theorem dX3_numberOf_77 : decode cX3_numberOf 77 = .ok (.aload_n 3, 1) := by decide +kernel
theorem dX3_numberOf_78 : decode cX3_numberOf 78 = .ok (.getfield 71, 3) := by decide +kernel
theorem dX3_numberOf_81 : decode cX3_numberOf 81 = .ok (.ireturn, 1) := by decide +kernel
theorem dX3_numberOf_82 : decode cX3_numberOf 82 = .ok (.aload_n 3, 1) := by decide +kernel
theorem dX3_numberOf_83 : decode cX3_numberOf 83 = .ok (.getfield 74, 3) := by decide +kernel
theorem dX3_numberOf_86 : decode cX3_numberOf 86 = .ok (.ireturn, 1) := by decide +kernel
theorem dX3_numberOf_87 : decode cX3_numberOf 87 = .ok (.aload_n 3, 1) := by decide +kernel
theorem dX3_numberOf_88 : decode cX3_numberOf 88 = .ok (.getfield 77, 3) := by decide +kernel
theorem dX3_numberOf_91 : decode cX3_numberOf 91 = .ok (.ireturn, 1) := by decide +kernel
theorem dX3_numberOf_92 : decode cX3_numberOf 92 = .ok (.aload_n 3, 1) := by decide +kernel
theorem dX3_numberOf_93 : decode cX3_numberOf 93 = .ok (.getfield 80, 3) := by decide +kernel
theorem dX3_numberOf_96 : decode cX3_numberOf 96 = .ok (.ireturn, 1) := by decide +kernel
theorem dX3_numberOf_97 : decode cX3_numberOf 97 = .ok (.aload_n 3, 1) := by decide +kernel
theorem dX3_numberOf_98 : decode cX3_numberOf 98 = .ok (.getfield 83, 3) := by decide +kernel
theorem dX3_numberOf_101 : decode cX3_numberOf 101 = .ok (.ireturn, 1) := by decide +kernel
theorem dX3_numberOf_102 : decode cX3_numberOf 102 = .ok (.aload_n 3, 1) := by decide +kernel
theorem dX3_numberOf_103 : decode cX3_numberOf 103 = .ok (.getfield 65, 3) := by decide +kernel
theorem dX3_numberOf_106 : decode cX3_numberOf 106 = .ok (.ireturn, 1) := by decide +kernel
theorem dX3_numberOf_107 : decode cX3_numberOf 107 = .ok (.aload_n 3, 1) := by decide +kernel
theorem dX3_numberOf_108 : decode cX3_numberOf 108 = .ok (.getfield 86, 3) := by decide +kernel
theorem dX3_numberOf_111 : decode cX3_numberOf 111 = .ok (.ireturn, 1) := by decide +kernel
theorem dX3_numberOf_112 : decode cX3_numberOf 112 = .ok (.aload_n 3, 1) := by decide +kernel
theorem dX3_numberOf_113 : decode cX3_numberOf 113 = .ok (.invokevirtual 89, 3) := by decide +kernel
theorem dX3_numberOf_116 : decode cX3_numberOf 116 = .ok (.ireturn, 1) := by decide +kernel
theorem dX3_numberOf_117 : decode cX3_numberOf 117 = .ok (.aload_n 3, 1) := by decide +kernel
theorem dX3_numberOf_118 : decode cX3_numberOf 118 = .ok (.getfield 93, 3) := by decide +kernel
theorem dX3_numberOf_121 : decode cX3_numberOf 121 = .ok (.ireturn, 1) := by decide +kernel
theorem dX3_numberOf_122 : decode cX3_numberOf 122 = .ok (.aload_n 3, 1) := by decide +kernel
theorem dX3_numberOf_123 : decode cX3_numberOf 123 = .ok (.getfield 96, 3) := by decide +kernel
theorem dX3_numberOf_126 : decode cX3_numberOf 126 = .ok (.ireturn, 1) := by decide +kernel
theorem dX3_numberOf_127 : decode cX3_numberOf 127 = .ok (.aload_n 0, 1) := by decide +kernel
theorem dX3_numberOf_128 : decode cX3_numberOf 128 = .ok (.aload_n 3, 1) := by decide +kernel
theorem dX3_numberOf_129 : decode cX3_numberOf 129 = .ok (.getfield 71, 3) := by decide +kernel
theorem dX3_numberOf_132 : decode cX3_numberOf 132 = .ok (.invokevirtual 50, 3) := by decide +kernel
theorem dX3_numberOf_135 : decode cX3_numberOf 135 = .ok (.ireturn, 1) := by decide +kernel
theorem dX3_numberOf_136 : decode cX3_numberOf 136 = .ok (.iload_n 1, 1) := by decide +kernel
theorem dX3_numberOf_137 : decode cX3_numberOf 137 = .ok (.ireturn, 1) := by decide +kernel
theorem dX3_settle_0 : decode cX3_settle 0 = .ok (.iconst 0, 1) := by decide +kernel
theorem dX3_settle_1 : decode cX3_settle 1 = .ok (.istore_n 1, 1) := by decide +kernel
theorem dX3_settle_2 : decode cX3_settle 2 = .ok (.iload_n 1, 1) := by decide +kernel
theorem dX3_settle_3 : decode cX3_settle 3 = .ok (.aload_n 0, 1) := by decide +kernel
theorem dX3_settle_4 : decode cX3_settle 4 = .ok (.getfield 43, 3) := by decide +kernel
theorem dX3_settle_7 : decode cX3_settle 7 = .ok (.if_icmp .ge 85, 3) := by decide +kernel
theorem dX3_settle_10 : decode cX3_settle 10 = .ok (.aload_n 0, 1) := by decide +kernel
theorem dX3_settle_11 : decode cX3_settle 11 = .ok (.iload_n 1, 1) := by decide +kernel
theorem dX3_settle_12 : decode cX3_settle 12 = .ok (.invokevirtual 58, 3) := by decide +kernel
theorem dX3_settle_15 : decode cX3_settle 15 = .ok (.astore_n 2, 1) := by decide +kernel
theorem dX3_settle_16 : decode cX3_settle 16 = .ok (.aload_n 0, 1) := by decide +kernel
theorem dX3_settle_17 : decode cX3_settle 17 = .ok (.aload_n 2, 1) := by decide +kernel
theorem dX3_settle_18 : decode cX3_settle 18 = .ok (.getfield 68, 3) := by decide +kernel
theorem dX3_settle_21 : decode cX3_settle 21 = .ok (.invokevirtual 99, 3) := by decide +kernel
theorem dX3_settle_24 : decode cX3_settle 24 = .ok (.astore_n 3, 1) := by decide +kernel
theorem dX3_settle_25 : decode cX3_settle 25 = .ok (.aload_n 2, 1) := by decide +kernel
theorem dX3_settle_26 : decode cX3_settle 26 = .ok (.aload_n 3, 1) := by decide +kernel
theorem dX3_settle_27 : decode cX3_settle 27 = .ok (.getfield 110, 3) := by decide +kernel
theorem dX3_settle_30 : decode cX3_settle 30 = .ok (.ifCond .ne 7, 3) := by decide +kernel
theorem dX3_settle_33 : decode cX3_settle 33 = .ok (.iconst 0, 1) := by decide +kernel
theorem dX3_settle_34 : decode cX3_settle 34 = .ok (.goto 25, 3) := by decide +kernel
theorem dX3_settle_37 : decode cX3_settle 37 = .ok (.aload_n 0, 1) := by decide +kernel
theorem dX3_settle_38 : decode cX3_settle 38 = .ok (.getfield 40, 3) := by decide +kernel
theorem dX3_settle_41 : decode cX3_settle 41 = .ok (.aload_n 0, 1) := by decide +kernel
theorem dX3_settle_42 : decode cX3_settle 42 = .ok (.aload_n 2, 1) := by decide +kernel
theorem dX3_settle_43 : decode cX3_settle 43 = .ok (.getfield 71, 3) := by decide +kernel
theorem dX3_settle_46 : decode cX3_settle 46 = .ok (.invokevirtual 50, 3) := by decide +kernel
theorem dX3_settle_49 : decode cX3_settle 49 = .ok (.isub, 1) := by decide +kernel
theorem dX3_settle_50 : decode cX3_settle 50 = .ok (.sipush 1000, 3) := by decide +kernel
theorem dX3_settle_53 : decode cX3_settle 53 = .ok (.imul, 1) := by decide +kernel
theorem dX3_settle_54 : decode cX3_settle 54 = .ok (.aload_n 3, 1) := by decide +kernel
theorem dX3_settle_55 : decode cX3_settle 55 = .ok (.getfield 110, 3) := by decide +kernel
theorem dX3_settle_58 : decode cX3_settle 58 = .ok (.idiv, 1) := by decide +kernel
theorem dX3_settle_59 : decode cX3_settle 59 = .ok (.putfield 93, 3) := by decide +kernel
theorem dX3_settle_62 : decode cX3_settle 62 = .ok (.aload_n 2, 1) := by decide +kernel
theorem dX3_settle_63 : decode cX3_settle 63 = .ok (.aload_n 2, 1) := by decide +kernel
theorem dX3_settle_64 : decode cX3_settle 64 = .ok (.getfield 74, 3) := by decide +kernel
theorem dX3_settle_67 : decode cX3_settle 67 = .ok (.ifCond .ne 7, 3) := by decide +kernel
theorem dX3_settle_70 : decode cX3_settle 70 = .ok (.iconst 0, 1) := by decide +kernel
theorem dX3_settle_71 : decode cX3_settle 71 = .ok (.goto 12, 3) := by decide +kernel
theorem dX3_settle_74 : decode cX3_settle 74 = .ok (.aload_n 3, 1) := by decide +kernel
theorem dX3_settle_75 : decode cX3_settle 75 = .ok (.getfield 119, 3) := by decide +kernel
theorem dX3_settle_78 : decode cX3_settle 78 = .ok (.aload_n 2, 1) := by decide +kernel
theorem dX3_settle_79 : decode cX3_settle 79 = .ok (.getfield 74, 3) := by decide +kernel
theorem dX3_settle_82 : decode cX3_settle 82 = .ok (.idiv, 1) := by decide +kernel
theorem dX3_settle_83 : decode cX3_settle 83 = .ok (.putfield 96, 3) := by decide +kernel
theorem dX3_settle_86 : decode cX3_settle 86 = .ok (.iinc 1 1, 3) := by decide +kernel
theorem dX3_settle_89 : decode cX3_settle 89 = .ok (.goto (-87), 3) := by decide +kernel
theorem dX3_settle_92 : decode cX3_settle 92 = .ok (.aload_n 0, 1) := by decide +kernel
theorem dX3_settle_93 : decode cX3_settle 93 = .ok (.iconst 0, 1) := by decide +kernel
theorem dX3_settle_94 : decode cX3_settle 94 = .ok (.invokevirtual 122, 3) := by decide +kernel
theorem dX3_settle_97 : decode cX3_settle 97 = .ok (.aload_n 0, 1) := by decide +kernel
theorem dX3_settle_98 : decode cX3_settle 98 = .ok (.iconst 1, 1) := by decide +kernel
theorem dX3_settle_99 : decode cX3_settle 99 = .ok (.invokevirtual 122, 3) := by decide +kernel
theorem dX3_settle_102 : decode cX3_settle 102 = .ok (.iadd, 1) := by decide +kernel
theorem dX3_settle_103 : decode cX3_settle 103 = .ok (.istore_n 1, 1) := by decide +kernel
theorem dX3_settle_104 : decode cX3_settle 104 = .ok (.iconst 0, 1) := by decide +kernel
theorem dX3_settle_105 : decode cX3_settle 105 = .ok (.istore_n 2, 1) := by decide +kernel
theorem dX3_settle_106 : decode cX3_settle 106 = .ok (.iload_n 2, 1) := by decide +kernel
theorem dX3_settle_107 : decode cX3_settle 107 = .ok (.aload_n 0, 1) := by decide +kernel
theorem dX3_settle_108 : decode cX3_settle 108 = .ok (.getfield 43, 3) := by decide +kernel
theorem dX3_settle_111 : decode cX3_settle 111 = .ok (.if_icmp .ge 35, 3) := by decide +kernel
theorem dX3_settle_114 : decode cX3_settle 114 = .ok (.aload_n 0, 1) := by decide +kernel
theorem dX3_settle_115 : decode cX3_settle 115 = .ok (.iload_n 2, 1) := by decide +kernel
theorem dX3_settle_116 : decode cX3_settle 116 = .ok (.invokevirtual 58, 3) := by decide +kernel
theorem dX3_settle_119 : decode cX3_settle 119 = .ok (.astore_n 3, 1) := by decide +kernel
theorem dX3_settle_120 : decode cX3_settle 120 = .ok (.aload_n 3, 1) := by decide +kernel
theorem dX3_settle_121 : decode cX3_settle 121 = .ok (.aload_n 3, 1) := by decide +kernel
theorem dX3_settle_122 : decode cX3_settle 122 = .ok (.aload_n 0, 1) := by decide +kernel
theorem dX3_settle_123 : decode cX3_settle 123 = .ok (.aload_n 3, 1) := by decide +kernel
theorem dX3_settle_124 : decode cX3_settle 124 = .ok (.getfield 68, 3) := by decide +kernel
theorem dX3_settle_127 : decode cX3_settle 127 = .ok (.invokevirtual 99, 3) := by decide +kernel
theorem dX3_settle_130 : decode cX3_settle 130 = .ok (.getfield 106, 3) := by decide +kernel
theorem dX3_settle_133 : decode cX3_settle 133 = .ok (.invokevirtual 125, 3) := by decide +kernel
theorem dX3_settle_136 : decode cX3_settle 136 = .ok (.l2i, 1) := by decide +kernel
theorem dX3_settle_137 : decode cX3_settle 137 = .ok (.putfield 86, 3) := by decide +kernel
theorem dX3_settle_140 : decode cX3_settle 140 = .ok (.iinc 2 1, 3) := by decide +kernel
theorem dX3_settle_143 : decode cX3_settle 143 = .ok (.goto (-37), 3) := by decide +kernel
theorem dX3_settle_146 : decode cX3_settle 146 = .ok (.iload_n 1, 1) := by decide +kernel
theorem dX3_settle_147 : decode cX3_settle 147 = .ok (.ireturn, 1) := by decide +kernel
theorem dX3_settleLeg_0 : decode cX3_settleLeg 0 = .ok (.aload_n 0, 1) := by decide +kernel
theorem dX3_settleLeg_1 : decode cX3_settleLeg 1 = .ok (.iload_n 1, 1) := by decide +kernel
theorem dX3_settleLeg_2 : decode cX3_settleLeg 2 = .ok (.invokevirtual 99, 3) := by decide +kernel
theorem dX3_settleLeg_5 : decode cX3_settleLeg 5 = .ok (.astore_n 2, 1) := by decide +kernel
theorem dX3_settleLeg_6 : decode cX3_settleLeg 6 = .ok (.iconst 0, 1) := by decide +kernel
theorem dX3_settleLeg_7 : decode cX3_settleLeg 7 = .ok (.istore_n 3, 1) := by decide +kernel
theorem dX3_settleLeg_8 : decode cX3_settleLeg 8 = .ok (.iconst 1, 1) := by decide +kernel
theorem dX3_settleLeg_9 : decode cX3_settleLeg 9 = .ok (.istore 4, 2) := by decide +kernel
theorem dX3_settleLeg_11 : decode cX3_settleLeg 11 = .ok (.iconst 0, 1) := by decide +kernel
theorem dX3_settleLeg_12 : decode cX3_settleLeg 12 = .ok (.istore 5, 2) := by decide +kernel
theorem dX3_settleLeg_14 : decode cX3_settleLeg 14 = .ok (.iload 5, 2) := by decide +kernel
theorem dX3_settleLeg_16 : decode cX3_settleLeg 16 = .ok (.bipush 12, 2) := by decide +kernel
theorem dX3_settleLeg_18 : decode cX3_settleLeg 18 = .ok (.if_icmp .gt 35, 3) := by decide +kernel
theorem dX3_settleLeg_21 : decode cX3_settleLeg 21 = .ok (.iload 4, 2) := by decide +kernel
theorem dX3_settleLeg_23 : decode cX3_settleLeg 23 = .ok (.ifCond .le 30, 3) := by decide +kernel
theorem dX3_settleLeg_26 : decode cX3_settleLeg 26 = .ok (.aload_n 2, 1) := by decide +kernel
theorem dX3_settleLeg_27 : decode cX3_settleLeg 27 = .ok (.aload_n 0, 1) := by decide +kernel
theorem dX3_settleLeg_28 : decode cX3_settleLeg 28 = .ok (.iload_n 1, 1) := by decide +kernel
theorem dX3_settleLeg_29 : decode cX3_settleLeg 29 = .ok (.invokevirtual 129, 3) := by decide +kernel
theorem dX3_settleLeg_32 : decode cX3_settleLeg 32 = .ok (.putfield 106, 3) := by decide +kernel
theorem dX3_settleLeg_35 : decode cX3_settleLeg 35 = .ok (.aload_n 0, 1) := by decide +kernel
theorem dX3_settleLeg_36 : decode cX3_settleLeg 36 = .ok (.iload_n 1, 1) := by decide +kernel
theorem dX3_settleLeg_37 : decode cX3_settleLeg 37 = .ok (.invokevirtual 133, 3) := by decide +kernel
theorem dX3_settleLeg_40 : decode cX3_settleLeg 40 = .ok (.istore 4, 2) := by decide +kernel
theorem dX3_settleLeg_42 : decode cX3_settleLeg 42 = .ok (.iload_n 3, 1) := by decide +kernel
theorem dX3_settleLeg_43 : decode cX3_settleLeg 43 = .ok (.iload 4, 2) := by decide +kernel
theorem dX3_settleLeg_45 : decode cX3_settleLeg 45 = .ok (.iadd, 1) := by decide +kernel
theorem dX3_settleLeg_46 : decode cX3_settleLeg 46 = .ok (.istore_n 3, 1) := by decide +kernel
theorem dX3_settleLeg_47 : decode cX3_settleLeg 47 = .ok (.iinc 5 1, 3) := by decide +kernel
theorem dX3_settleLeg_50 : decode cX3_settleLeg 50 = .ok (.goto (-36), 3) := by decide +kernel
theorem dX3_settleLeg_53 : decode cX3_settleLeg 53 = .ok (.iload_n 3, 1) := by decide +kernel
theorem dX3_settleLeg_54 : decode cX3_settleLeg 54 = .ok (.ireturn, 1) := by decide +kernel
theorem dX3_greatestLevel_0 : decode cX3_greatestLevel 0 = .ok (.aload_n 0, 1) := by decide +kernel
theorem dX3_greatestLevel_1 : decode cX3_greatestLevel 1 = .ok (.iload_n 1, 1) := by decide +kernel
theorem dX3_greatestLevel_2 : decode cX3_greatestLevel 2 = .ok (.invokevirtual 99, 3) := by decide +kernel
theorem dX3_greatestLevel_5 : decode cX3_greatestLevel 5 = .ok (.astore_n 2, 1) := by decide +kernel
theorem dX3_greatestLevel_6 : decode cX3_greatestLevel 6 = .ok (.aload_n 2, 1) := by decide +kernel
theorem dX3_greatestLevel_7 : decode cX3_greatestLevel 7 = .ok (.getfield 136, 3) := by decide +kernel
theorem dX3_greatestLevel_10 : decode cX3_greatestLevel 10 = .ok (.ifCond .ne 5, 3) := by decide +kernel
theorem dX3_greatestLevel_13 : decode cX3_greatestLevel 13 = .ok (.lconst 0, 1) := by decide +kernel
theorem dX3_greatestLevel_14 : decode cX3_greatestLevel 14 = .ok (.lreturn, 1) := by decide +kernel
theorem dX3_greatestLevel_15 : decode cX3_greatestLevel 15 = .ok (.aload_n 2, 1) := by decide +kernel
theorem dX3_greatestLevel_16 : decode cX3_greatestLevel 16 = .ok (.getfield 139, 3) := by decide +kernel
theorem dX3_greatestLevel_19 : decode cX3_greatestLevel 19 = .ok (.aload_n 0, 1) := by decide +kernel
theorem dX3_greatestLevel_20 : decode cX3_greatestLevel 20 = .ok (.iload_n 1, 1) := by decide +kernel
theorem dX3_greatestLevel_21 : decode cX3_greatestLevel 21 = .ok (.invokevirtual 142, 3) := by decide +kernel
theorem dX3_greatestLevel_24 : decode cX3_greatestLevel 24 = .ok (.lsub, 1) := by decide +kernel
theorem dX3_greatestLevel_25 : decode cX3_greatestLevel 25 = .ok (.aload_n 2, 1) := by decide +kernel
theorem dX3_greatestLevel_26 : decode cX3_greatestLevel 26 = .ok (.getfield 136, 3) := by decide +kernel
theorem dX3_greatestLevel_29 : decode cX3_greatestLevel 29 = .ok (.i2l, 1) := by decide +kernel
theorem dX3_greatestLevel_30 : decode cX3_greatestLevel 30 = .ok (.invokestatic 145, 3) := by decide +kernel
theorem dX3_greatestLevel_33 : decode cX3_greatestLevel 33 = .ok (.lstore_n 3, 1) := by decide +kernel
theorem dX3_greatestLevel_34 : decode cX3_greatestLevel 34 = .ok (.aload_n 2, 1) := by decide +kernel
theorem dX3_greatestLevel_35 : decode cX3_greatestLevel 35 = .ok (.getfield 139, 3) := by decide +kernel
theorem dX3_greatestLevel_38 : decode cX3_greatestLevel 38 = .ok (.aload_n 2, 1) := by decide +kernel
theorem dX3_greatestLevel_39 : decode cX3_greatestLevel 39 = .ok (.getfield 136, 3) := by decide +kernel
theorem dX3_greatestLevel_42 : decode cX3_greatestLevel 42 = .ok (.i2l, 1) := by decide +kernel
theorem dX3_greatestLevel_43 : decode cX3_greatestLevel 43 = .ok (.invokestatic 145, 3) := by decide +kernel
theorem dX3_greatestLevel_46 : decode cX3_greatestLevel 46 = .ok (.lstore 5, 2) := by decide +kernel
theorem dX3_greatestLevel_48 : decode cX3_greatestLevel 48 = .ok (.iconst 0, 1) := by decide +kernel
theorem dX3_greatestLevel_49 : decode cX3_greatestLevel 49 = .ok (.istore 7, 2) := by decide +kernel
theorem dX3_greatestLevel_51 : decode cX3_greatestLevel 51 = .ok (.iload 7, 2) := by decide +kernel
theorem dX3_greatestLevel_53 : decode cX3_greatestLevel 53 = .ok (.bipush 64, 2) := by decide +kernel
theorem dX3_greatestLevel_55 : decode cX3_greatestLevel 55 = .ok (.if_icmp .ge 66, 3) := by decide +kernel
theorem dX3_greatestLevel_58 : decode cX3_greatestLevel 58 = .ok (.lload_n 3, 1) := by decide +kernel
theorem dX3_greatestLevel_59 : decode cX3_greatestLevel 59 = .ok (.lload 5, 2) := by decide +kernel
theorem dX3_greatestLevel_61 : decode cX3_greatestLevel 61 = .ok (.lcmp, 1) := by decide +kernel
theorem dX3_greatestLevel_62 : decode cX3_greatestLevel 62 = .ok (.ifCond .ge 59, 3) := by decide +kernel
theorem dX3_greatestLevel_65 : decode cX3_greatestLevel 65 = .ok (.lload_n 3, 1) := by decide +kernel
theorem dX3_greatestLevel_66 : decode cX3_greatestLevel 66 = .ok (.lload 5, 2) := by decide +kernel
theorem dX3_greatestLevel_68 : decode cX3_greatestLevel 68 = .ok (.lload_n 3, 1) := by decide +kernel
theorem dX3_greatestLevel_69 : decode cX3_greatestLevel 69 = .ok (.lsub, 1) := by decide +kernel
theorem dX3_greatestLevel_70 : decode cX3_greatestLevel 70 = .ok (.lconst 1, 1) := by decide +kernel
theorem dX3_greatestLevel_71 : decode cX3_greatestLevel 71 = .ok (.ladd, 1) := by decide +kernel
theorem dX3_greatestLevel_72 : decode cX3_greatestLevel 72 = .ok (.ldc2_w 151, 3) := by decide +kernel
theorem dX3_greatestLevel_75 : decode cX3_greatestLevel 75 = .ok (.ldiv, 1) := by decide +kernel
theorem dX3_greatestLevel_76 : decode cX3_greatestLevel 76 = .ok (.ladd, 1) := by decide +kernel
theorem dX3_greatestLevel_77 : decode cX3_greatestLevel 77 = .ok (.lstore 8, 2) := by decide +kernel
theorem dX3_greatestLevel_79 : decode cX3_greatestLevel 79 = .ok (.aload_n 2, 1) := by decide +kernel
theorem dX3_greatestLevel_80 : decode cX3_greatestLevel 80 = .ok (.getfield 136, 3) := by decide +kernel
theorem dX3_greatestLevel_83 : decode cX3_greatestLevel 83 = .ok (.i2l, 1) := by decide +kernel
theorem dX3_greatestLevel_84 : decode cX3_greatestLevel 84 = .ok (.lload 8, 2) := by decide +kernel
theorem dX3_greatestLevel_86 : decode cX3_greatestLevel 86 = .ok (.lmul, 1) := by decide +kernel
theorem dX3_greatestLevel_87 : decode cX3_greatestLevel 87 = .ok (.aload_n 0, 1) := by decide +kernel
theorem dX3_greatestLevel_88 : decode cX3_greatestLevel 88 = .ok (.iload_n 1, 1) := by decide +kernel
theorem dX3_greatestLevel_89 : decode cX3_greatestLevel 89 = .ok (.lload 8, 2) := by decide +kernel
theorem dX3_greatestLevel_91 : decode cX3_greatestLevel 91 = .ok (.invokevirtual 153, 3) := by decide +kernel
theorem dX3_greatestLevel_94 : decode cX3_greatestLevel 94 = .ok (.ladd, 1) := by decide +kernel
theorem dX3_greatestLevel_95 : decode cX3_greatestLevel 95 = .ok (.aload_n 2, 1) := by decide +kernel
theorem dX3_greatestLevel_96 : decode cX3_greatestLevel 96 = .ok (.getfield 139, 3) := by decide +kernel
theorem dX3_greatestLevel_99 : decode cX3_greatestLevel 99 = .ok (.lcmp, 1) := by decide +kernel
theorem dX3_greatestLevel_100 : decode cX3_greatestLevel 100 = .ok (.ifCond .gt 9, 3) := by decide +kernel
theorem dX3_greatestLevel_103 : decode cX3_greatestLevel 103 = .ok (.lload 8, 2) := by decide +kernel
theorem dX3_greatestLevel_105 : decode cX3_greatestLevel 105 = .ok (.lstore_n 3, 1) := by decide +kernel
theorem dX3_greatestLevel_106 : decode cX3_greatestLevel 106 = .ok (.goto 9, 3) := by decide +kernel
theorem dX3_greatestLevel_109 : decode cX3_greatestLevel 109 = .ok (.lload 8, 2) := by decide +kernel
theorem dX3_greatestLevel_111 : decode cX3_greatestLevel 111 = .ok (.lconst 1, 1) := by decide +kernel
theorem dX3_greatestLevel_112 : decode cX3_greatestLevel 112 = .ok (.lsub, 1) := by decide +kernel
theorem dX3_greatestLevel_113 : decode cX3_greatestLevel 113 = .ok (.lstore 5, 2) := by decide +kernel
theorem dX3_greatestLevel_115 : decode cX3_greatestLevel 115 = .ok (.iinc 7 1, 3) := by decide +kernel
theorem dX3_greatestLevel_118 : decode cX3_greatestLevel 118 = .ok (.goto (-67), 3) := by decide +kernel
theorem dX3_greatestLevel_121 : decode cX3_greatestLevel 121 = .ok (.lload_n 3, 1) := by decide +kernel
theorem dX3_greatestLevel_122 : decode cX3_greatestLevel 122 = .ok (.lreturn, 1) := by decide +kernel
theorem dX3_fullVolumes_0 : decode cX3_fullVolumes 0 = .ok (.lconst 0, 1) := by decide +kernel
theorem dX3_fullVolumes_1 : decode cX3_fullVolumes 1 = .ok (.lstore_n 2, 1) := by decide +kernel
theorem dX3_fullVolumes_2 : decode cX3_fullVolumes 2 = .ok (.iconst 0, 1) := by decide +kernel
theorem dX3_fullVolumes_3 : decode cX3_fullVolumes 3 = .ok (.istore 4, 2) := by decide +kernel
theorem dX3_fullVolumes_5 : decode cX3_fullVolumes 5 = .ok (.iload 4, 2) := by decide +kernel
theorem dX3_fullVolumes_7 : decode cX3_fullVolumes 7 = .ok (.aload_n 0, 1) := by decide +kernel
theorem dX3_fullVolumes_8 : decode cX3_fullVolumes 8 = .ok (.getfield 43, 3) := by decide +kernel
theorem dX3_fullVolumes_11 : decode cX3_fullVolumes 11 = .ok (.if_icmp .ge 42, 3) := by decide +kernel
theorem dX3_fullVolumes_14 : decode cX3_fullVolumes 14 = .ok (.aload_n 0, 1) := by decide +kernel
theorem dX3_fullVolumes_15 : decode cX3_fullVolumes 15 = .ok (.iload 4, 2) := by decide +kernel
theorem dX3_fullVolumes_17 : decode cX3_fullVolumes 17 = .ok (.invokevirtual 58, 3) := by decide +kernel
theorem dX3_fullVolumes_20 : decode cX3_fullVolumes 20 = .ok (.astore 5, 2) := by decide +kernel
theorem dX3_fullVolumes_22 : decode cX3_fullVolumes 22 = .ok (.aload 5, 2) := by decide +kernel
theorem dX3_fullVolumes_24 : decode cX3_fullVolumes 24 = .ok (.getfield 68, 3) := by decide +kernel
theorem dX3_fullVolumes_27 : decode cX3_fullVolumes 27 = .ok (.iload_n 1, 1) := by decide +kernel
theorem dX3_fullVolumes_28 : decode cX3_fullVolumes 28 = .ok (.if_icmp .ne 19, 3) := by decide +kernel
theorem dX3_fullVolumes_31 : decode cX3_fullVolumes 31 = .ok (.aload 5, 2) := by decide +kernel
theorem dX3_fullVolumes_33 : decode cX3_fullVolumes 33 = .ok (.getfield 65, 3) := by decide +kernel
theorem dX3_fullVolumes_36 : decode cX3_fullVolumes 36 = .ok (.ifCond .ne 11, 3) := by decide +kernel
theorem dX3_fullVolumes_39 : decode cX3_fullVolumes 39 = .ok (.lload_n 2, 1) := by decide +kernel
theorem dX3_fullVolumes_40 : decode cX3_fullVolumes 40 = .ok (.aload 5, 2) := by decide +kernel
theorem dX3_fullVolumes_42 : decode cX3_fullVolumes 42 = .ok (.invokevirtual 157, 3) := by decide +kernel
theorem dX3_fullVolumes_45 : decode cX3_fullVolumes 45 = .ok (.ladd, 1) := by decide +kernel
theorem dX3_fullVolumes_46 : decode cX3_fullVolumes 46 = .ok (.lstore_n 2, 1) := by decide +kernel
theorem dX3_fullVolumes_47 : decode cX3_fullVolumes 47 = .ok (.iinc 4 1, 3) := by decide +kernel
theorem dX3_fullVolumes_50 : decode cX3_fullVolumes 50 = .ok (.goto (-45), 3) := by decide +kernel
theorem dX3_fullVolumes_53 : decode cX3_fullVolumes 53 = .ok (.lload_n 2, 1) := by decide +kernel
theorem dX3_fullVolumes_54 : decode cX3_fullVolumes 54 = .ok (.lreturn, 1) := by decide +kernel
theorem dX3_volumesAt_0 : decode cX3_volumesAt 0 = .ok (.lconst 0, 1) := by decide +kernel
theorem dX3_volumesAt_1 : decode cX3_volumesAt 1 = .ok (.lstore 4, 2) := by decide +kernel
theorem dX3_volumesAt_3 : decode cX3_volumesAt 3 = .ok (.iconst 0, 1) := by decide +kernel
theorem dX3_volumesAt_4 : decode cX3_volumesAt 4 = .ok (.istore 6, 2) := by decide +kernel
theorem dX3_volumesAt_6 : decode cX3_volumesAt 6 = .ok (.iload 6, 2) := by decide +kernel
theorem dX3_volumesAt_8 : decode cX3_volumesAt 8 = .ok (.aload_n 0, 1) := by decide +kernel
theorem dX3_volumesAt_9 : decode cX3_volumesAt 9 = .ok (.getfield 43, 3) := by decide +kernel
theorem dX3_volumesAt_12 : decode cX3_volumesAt 12 = .ok (.if_icmp .ge 51, 3) := by decide +kernel
theorem dX3_volumesAt_15 : decode cX3_volumesAt 15 = .ok (.aload_n 0, 1) := by decide +kernel
theorem dX3_volumesAt_16 : decode cX3_volumesAt 16 = .ok (.iload 6, 2) := by decide +kernel
theorem dX3_volumesAt_18 : decode cX3_volumesAt 18 = .ok (.invokevirtual 58, 3) := by decide +kernel
theorem dX3_volumesAt_21 : decode cX3_volumesAt 21 = .ok (.astore 7, 2) := by decide +kernel
theorem dX3_volumesAt_23 : decode cX3_volumesAt 23 = .ok (.aload 7, 2) := by decide +kernel
theorem dX3_volumesAt_25 : decode cX3_volumesAt 25 = .ok (.getfield 68, 3) := by decide +kernel
theorem dX3_volumesAt_28 : decode cX3_volumesAt 28 = .ok (.iload_n 1, 1) := by decide +kernel
theorem dX3_volumesAt_29 : decode cX3_volumesAt 29 = .ok (.if_icmp .ne 28, 3) := by decide +kernel
theorem dX3_volumesAt_32 : decode cX3_volumesAt 32 = .ok (.lload 4, 2) := by decide +kernel
theorem dX3_volumesAt_34 : decode cX3_volumesAt 34 = .ok (.aload 7, 2) := by decide +kernel
theorem dX3_volumesAt_36 : decode cX3_volumesAt 36 = .ok (.lload_n 2, 1) := by decide +kernel
theorem dX3_volumesAt_37 : decode cX3_volumesAt 37 = .ok (.invokevirtual 125, 3) := by decide +kernel
theorem dX3_volumesAt_40 : decode cX3_volumesAt 40 = .ok (.aload 7, 2) := by decide +kernel
theorem dX3_volumesAt_42 : decode cX3_volumesAt 42 = .ok (.getfield 74, 3) := by decide +kernel
theorem dX3_volumesAt_45 : decode cX3_volumesAt 45 = .ok (.i2l, 1) := by decide +kernel
theorem dX3_volumesAt_46 : decode cX3_volumesAt 46 = .ok (.lmul, 1) := by decide +kernel
theorem dX3_volumesAt_47 : decode cX3_volumesAt 47 = .ok (.aload 7, 2) := by decide +kernel
theorem dX3_volumesAt_49 : decode cX3_volumesAt 49 = .ok (.getfield 74, 3) := by decide +kernel
theorem dX3_volumesAt_52 : decode cX3_volumesAt 52 = .ok (.i2l, 1) := by decide +kernel
theorem dX3_volumesAt_53 : decode cX3_volumesAt 53 = .ok (.lmul, 1) := by decide +kernel
theorem dX3_volumesAt_54 : decode cX3_volumesAt 54 = .ok (.ladd, 1) := by decide +kernel
theorem dX3_volumesAt_55 : decode cX3_volumesAt 55 = .ok (.lstore 4, 2) := by decide +kernel
theorem dX3_volumesAt_57 : decode cX3_volumesAt 57 = .ok (.iinc 6 1, 3) := by decide +kernel
theorem dX3_volumesAt_60 : decode cX3_volumesAt 60 = .ok (.goto (-54), 3) := by decide +kernel
theorem dX3_volumesAt_63 : decode cX3_volumesAt 63 = .ok (.lload 4, 2) := by decide +kernel
theorem dX3_volumesAt_65 : decode cX3_volumesAt 65 = .ok (.lreturn, 1) := by decide +kernel
theorem dX3_breakTubes_0 : decode cX3_breakTubes 0 = .ok (.aload_n 0, 1) := by decide +kernel
theorem dX3_breakTubes_1 : decode cX3_breakTubes 1 = .ok (.iload_n 1, 1) := by decide +kernel
theorem dX3_breakTubes_2 : decode cX3_breakTubes 2 = .ok (.invokevirtual 99, 3) := by decide +kernel
theorem dX3_breakTubes_5 : decode cX3_breakTubes 5 = .ok (.astore_n 2, 1) := by decide +kernel
theorem dX3_breakTubes_6 : decode cX3_breakTubes 6 = .ok (.iconst 0, 1) := by decide +kernel
theorem dX3_breakTubes_7 : decode cX3_breakTubes 7 = .ok (.istore_n 3, 1) := by decide +kernel
theorem dX3_breakTubes_8 : decode cX3_breakTubes 8 = .ok (.iconst 0, 1) := by decide +kernel
theorem dX3_breakTubes_9 : decode cX3_breakTubes 9 = .ok (.istore 4, 2) := by decide +kernel
theorem dX3_breakTubes_11 : decode cX3_breakTubes 11 = .ok (.iload 4, 2) := by decide +kernel
theorem dX3_breakTubes_13 : decode cX3_breakTubes 13 = .ok (.aload_n 0, 1) := by decide +kernel
theorem dX3_breakTubes_14 : decode cX3_breakTubes 14 = .ok (.getfield 43, 3) := by decide +kernel
theorem dX3_breakTubes_17 : decode cX3_breakTubes 17 = .ok (.if_icmp .ge 113, 3) := by decide +kernel
theorem dX3_breakTubes_20 : decode cX3_breakTubes 20 = .ok (.aload_n 0, 1) := by decide +kernel
theorem dX3_breakTubes_21 : decode cX3_breakTubes 21 = .ok (.iload 4, 2) := by decide +kernel
theorem dX3_breakTubes_23 : decode cX3_breakTubes 23 = .ok (.invokevirtual 58, 3) := by decide +kernel
theorem dX3_breakTubes_26 : decode cX3_breakTubes 26 = .ok (.astore 5, 2) := by decide +kernel
theorem dX3_breakTubes_28 : decode cX3_breakTubes 28 = .ok (.aload 5, 2) := by decide +kernel
theorem dX3_breakTubes_30 : decode cX3_breakTubes 30 = .ok (.getfield 68, 3) := by decide +kernel
theorem dX3_breakTubes_33 : decode cX3_breakTubes 33 = .ok (.iload_n 1, 1) := by decide +kernel
theorem dX3_breakTubes_34 : decode cX3_breakTubes 34 = .ok (.if_icmp .ne 90, 3) := by decide +kernel
theorem dX3_breakTubes_37 : decode cX3_breakTubes 37 = .ok (.aload 5, 2) := by decide +kernel
theorem dX3_breakTubes_39 : decode cX3_breakTubes 39 = .ok (.getfield 65, 3) := by decide +kernel
theorem dX3_breakTubes_42 : decode cX3_breakTubes 42 = .ok (.ifCond .ne 82, 3) := by decide +kernel
theorem dX3_breakTubes_45 : decode cX3_breakTubes 45 = .ok (.aload 5, 2) := by decide +kernel
theorem dX3_breakTubes_47 : decode cX3_breakTubes 47 = .ok (.aload_n 2, 1) := by decide +kernel
theorem dX3_breakTubes_48 : decode cX3_breakTubes 48 = .ok (.getfield 106, 3) := by decide +kernel
theorem dX3_breakTubes_51 : decode cX3_breakTubes 51 = .ok (.invokevirtual 161, 3) := by decide +kernel
theorem dX3_breakTubes_54 : decode cX3_breakTubes 54 = .ok (.lstore 6, 2) := by decide +kernel
theorem dX3_breakTubes_56 : decode cX3_breakTubes 56 = .ok (.lload 6, 2) := by decide +kernel
theorem dX3_breakTubes_58 : decode cX3_breakTubes 58 = .ok (.lconst 0, 1) := by decide +kernel
theorem dX3_breakTubes_59 : decode cX3_breakTubes 59 = .ok (.lcmp, 1) := by decide +kernel
theorem dX3_breakTubes_60 : decode cX3_breakTubes 60 = .ok (.ifCond .ge 15, 3) := by decide +kernel
theorem dX3_breakTubes_63 : decode cX3_breakTubes 63 = .ok (.aload 5, 2) := by decide +kernel
theorem dX3_breakTubes_65 : decode cX3_breakTubes 65 = .ok (.iconst 1, 1) := by decide +kernel
theorem dX3_breakTubes_66 : decode cX3_breakTubes 66 = .ok (.putfield 65, 3) := by decide +kernel
theorem dX3_breakTubes_69 : decode cX3_breakTubes 69 = .ok (.iinc 3 1, 3) := by decide +kernel
theorem dX3_breakTubes_72 : decode cX3_breakTubes 72 = .ok (.goto 52, 3) := by decide +kernel
theorem dX3_breakTubes_75 : decode cX3_breakTubes 75 = .ok (.lload 6, 2) := by decide +kernel
theorem dX3_breakTubes_77 : decode cX3_breakTubes 77 = .ok (.aload 5, 2) := by decide +kernel
theorem dX3_breakTubes_79 : decode cX3_breakTubes 79 = .ok (.invokevirtual 164, 3) := by decide +kernel
theorem dX3_breakTubes_82 : decode cX3_breakTubes 82 = .ok (.i2l, 1) := by decide +kernel
theorem dX3_breakTubes_83 : decode cX3_breakTubes 83 = .ok (.lcmp, 1) := by decide +kernel
theorem dX3_breakTubes_84 : decode cX3_breakTubes 84 = .ok (.ifCond .le 40, 3) := by decide +kernel
theorem dX3_breakTubes_87 : decode cX3_breakTubes 87 = .ok (.aload 5, 2) := by decide +kernel
theorem dX3_breakTubes_89 : decode cX3_breakTubes 89 = .ok (.iconst 2, 1) := by decide +kernel
theorem dX3_breakTubes_90 : decode cX3_breakTubes 90 = .ok (.putfield 65, 3) := by decide +kernel
theorem dX3_breakTubes_93 : decode cX3_breakTubes 93 = .ok (.iinc 3 1, 3) := by decide +kernel
theorem dX3_breakTubes_96 : decode cX3_breakTubes 96 = .ok (.aload_n 2, 1) := by decide +kernel
theorem dX3_breakTubes_97 : decode cX3_breakTubes 97 = .ok (.dup, 1) := by decide +kernel
theorem dX3_breakTubes_98 : decode cX3_breakTubes 98 = .ok (.getfield 139, 3) := by decide +kernel
theorem dX3_breakTubes_101 : decode cX3_breakTubes 101 = .ok (.aload 5, 2) := by decide +kernel
theorem dX3_breakTubes_103 : decode cX3_breakTubes 103 = .ok (.invokevirtual 157, 3) := by decide +kernel
theorem dX3_breakTubes_106 : decode cX3_breakTubes 106 = .ok (.lsub, 1) := by decide +kernel
theorem dX3_breakTubes_107 : decode cX3_breakTubes 107 = .ok (.putfield 139, 3) := by decide +kernel
theorem dX3_breakTubes_110 : decode cX3_breakTubes 110 = .ok (.aload_n 2, 1) := by decide +kernel
theorem dX3_breakTubes_111 : decode cX3_breakTubes 111 = .ok (.dup, 1) := by decide +kernel
theorem dX3_breakTubes_112 : decode cX3_breakTubes 112 = .ok (.getfield 167, 3) := by decide +kernel
theorem dX3_breakTubes_115 : decode cX3_breakTubes 115 = .ok (.aload 5, 2) := by decide +kernel
theorem dX3_breakTubes_117 : decode cX3_breakTubes 117 = .ok (.invokevirtual 157, 3) := by decide +kernel
theorem dX3_breakTubes_120 : decode cX3_breakTubes 120 = .ok (.ladd, 1) := by decide +kernel
theorem dX3_breakTubes_121 : decode cX3_breakTubes 121 = .ok (.putfield 167, 3) := by decide +kernel
theorem dX3_breakTubes_124 : decode cX3_breakTubes 124 = .ok (.iinc 4 1, 3) := by decide +kernel
theorem dX3_breakTubes_127 : decode cX3_breakTubes 127 = .ok (.goto (-116), 3) := by decide +kernel
theorem dX3_breakTubes_130 : decode cX3_breakTubes 130 = .ok (.iload_n 3, 1) := by decide +kernel
theorem dX3_breakTubes_131 : decode cX3_breakTubes 131 = .ok (.ireturn, 1) := by decide +kernel
theorem dX4_init_0 : decode cX4_init 0 = .ok (.aload_n 0, 1) := by decide +kernel
theorem dX4_init_1 : decode cX4_init 1 = .ok (.invokespecial 3, 3) := by decide +kernel
theorem dX4_init_4 : decode cX4_init 4 = .ok (.aload_n 0, 1) := by decide +kernel
theorem dX4_init_5 : decode cX4_init 5 = .ok (.aload_n 1, 1) := by decide +kernel
theorem dX4_init_6 : decode cX4_init 6 = .ok (.putfield 9, 3) := by decide +kernel
theorem dX4_init_9 : decode cX4_init 9 = .ok (.aload_n 0, 1) := by decide +kernel
theorem dX4_init_10 : decode cX4_init 10 = .ok (.aload_n 2, 1) := by decide +kernel
theorem dX4_init_11 : decode cX4_init 11 = .ok (.putfield 15, 3) := by decide +kernel
theorem dX4_init_14 : decode cX4_init 14 = .ok (.return_, 1) := by decide +kernel
theorem dX4_read_0 : decode cX4_read 0 = .ok (.aload_n 0, 1) := by decide +kernel
theorem dX4_read_1 : decode cX4_read 1 = .ok (.getfield 9, 3) := by decide +kernel
theorem dX4_read_4 : decode cX4_read 4 = .ok (.ldc 19, 2) := by decide +kernel
theorem dX4_read_6 : decode cX4_read 6 = .ok (.invokevirtual 21, 3) := by decide +kernel
theorem dX4_read_9 : decode cX4_read 9 = .ok (.aload_n 0, 1) := by decide +kernel
theorem dX4_read_10 : decode cX4_read 10 = .ok (.getfield 9, 3) := by decide +kernel
theorem dX4_read_13 : decode cX4_read 13 = .ok (.iconst 2, 1) := by decide +kernel
theorem dX4_read_14 : decode cX4_read 14 = .ok (.bipush 8, 2) := by decide +kernel
theorem dX4_read_16 : decode cX4_read 16 = .ok (.invokevirtual 27, 3) := by decide +kernel
theorem dX4_read_19 : decode cX4_read 19 = .ok (.istore_n 1, 1) := by decide +kernel
theorem dX4_read_20 : decode cX4_read 20 = .ok (.aload_n 0, 1) := by decide +kernel
theorem dX4_read_21 : decode cX4_read 21 = .ok (.getfield 9, 3) := by decide +kernel
theorem dX4_read_24 : decode cX4_read 24 = .ok (.iconst 0, 1) := by decide +kernel
theorem dX4_read_25 : decode cX4_read 25 = .ok (.ldc 31, 2) := by decide +kernel
theorem dX4_read_27 : decode cX4_read 27 = .ok (.invokevirtual 27, 3) := by decide +kernel
theorem dX4_read_30 : decode cX4_read 30 = .ok (.istore_n 2, 1) := by decide +kernel
theorem dX4_read_31 : decode cX4_read 31 = .ok (.aload_n 0, 1) := by decide +kernel
theorem dX4_read_32 : decode cX4_read 32 = .ok (.getfield 15, 3) := by decide +kernel
theorem dX4_read_35 : decode cX4_read 35 = .ok (.iload_n 1, 1) := by decide +kernel
theorem dX4_read_36 : decode cX4_read 36 = .ok (.iload_n 2, 1) := by decide +kernel
theorem dX4_read_37 : decode cX4_read 37 = .ok (.invokevirtual 32, 3) := by decide +kernel
theorem dX4_read_40 : decode cX4_read 40 = .ok (.aload_n 0, 1) := by decide +kernel
theorem dX4_read_41 : decode cX4_read 41 = .ok (.getfield 9, 3) := by decide +kernel
theorem dX4_read_44 : decode cX4_read 44 = .ok (.bipush 59, 2) := by decide +kernel
theorem dX4_read_46 : decode cX4_read 46 = .ok (.invokevirtual 38, 3) := by decide +kernel
theorem dX4_read_49 : decode cX4_read 49 = .ok (.iconst 0, 1) := by decide +kernel
theorem dX4_read_50 : decode cX4_read 50 = .ok (.istore_n 3, 1) := by decide +kernel
theorem dX4_read_51 : decode cX4_read 51 = .ok (.iload_n 3, 1) := by decide +kernel
theorem dX4_read_52 : decode cX4_read 52 = .ok (.sipush 600, 3) := by decide +kernel
theorem dX4_read_55 : decode cX4_read 55 = .ok (.if_icmp .ge 32, 3) := by decide +kernel
theorem dX4_read_58 : decode cX4_read 58 = .ok (.aload_n 0, 1) := by decide +kernel
theorem dX4_read_59 : decode cX4_read 59 = .ok (.getfield 9, 3) := by decide +kernel
theorem dX4_read_62 : decode cX4_read 62 = .ok (.invokevirtual 42, 3) := by decide +kernel
theorem dX4_read_65 : decode cX4_read 65 = .ok (.ifCond .eq 22, 3) := by decide +kernel
theorem dX4_read_68 : decode cX4_read 68 = .ok (.aload_n 0, 1) := by decide +kernel
theorem dX4_read_69 : decode cX4_read 69 = .ok (.invokevirtual 46, 3) := by decide +kernel
theorem dX4_read_72 : decode cX4_read 72 = .ok (.aload_n 0, 1) := by decide +kernel
theorem dX4_read_73 : decode cX4_read 73 = .ok (.getfield 9, 3) := by decide +kernel
theorem dX4_read_76 : decode cX4_read 76 = .ok (.bipush 59, 2) := by decide +kernel
theorem dX4_read_78 : decode cX4_read 78 = .ok (.invokevirtual 38, 3) := by decide +kernel
theorem dX4_read_81 : decode cX4_read 81 = .ok (.iinc 3 1, 3) := by decide +kernel
theorem dX4_read_84 : decode cX4_read 84 = .ok (.goto (-33), 3) := by decide +kernel
theorem dX4_read_87 : decode cX4_read 87 = .ok (.return_, 1) := by decide +kernel
theorem dX4_readClause_0 : decode cX4_readClause 0 = .ok (.aload_n 0, 1) := by decide +kernel
theorem dX4_readClause_1 : decode cX4_readClause 1 = .ok (.getfield 9, 3) := by decide +kernel
theorem dX4_readClause_4 : decode cX4_readClause 4 = .ok (.ldc 49, 2) := by decide +kernel
theorem dX4_readClause_6 : decode cX4_readClause 6 = .ok (.invokevirtual 51, 3) := by decide +kernel
theorem dX4_readClause_9 : decode cX4_readClause 9 = .ok (.ifCond .eq 10, 3) := by decide +kernel
theorem dX4_readClause_12 : decode cX4_readClause 12 = .ok (.aload_n 0, 1) := by decide +kernel
theorem dX4_readClause_13 : decode cX4_readClause 13 = .ok (.invokevirtual 55, 3) := by decide +kernel
theorem dX4_readClause_16 : decode cX4_readClause 16 = .ok (.goto 67, 3) := by decide +kernel
theorem dX4_readClause_19 : decode cX4_readClause 19 = .ok (.aload_n 0, 1) := by decide +kernel
theorem dX4_readClause_20 : decode cX4_readClause 20 = .ok (.getfield 9, 3) := by decide +kernel
theorem dX4_readClause_23 : decode cX4_readClause 23 = .ok (.ldc 58, 2) := by decide +kernel
theorem dX4_readClause_25 : decode cX4_readClause 25 = .ok (.invokevirtual 51, 3) := by decide +kernel
theorem dX4_readClause_28 : decode cX4_readClause 28 = .ok (.ifCond .eq 10, 3) := by decide +kernel
theorem dX4_readClause_31 : decode cX4_readClause 31 = .ok (.aload_n 0, 1) := by decide +kernel
theorem dX4_readClause_32 : decode cX4_readClause 32 = .ok (.invokevirtual 60, 3) := by decide +kernel
theorem dX4_readClause_35 : decode cX4_readClause 35 = .ok (.goto 48, 3) := by decide +kernel
theorem dX4_readClause_38 : decode cX4_readClause 38 = .ok (.aload_n 0, 1) := by decide +kernel
theorem dX4_readClause_39 : decode cX4_readClause 39 = .ok (.getfield 9, 3) := by decide +kernel
theorem dX4_readClause_42 : decode cX4_readClause 42 = .ok (.ldc 63, 2) := by decide +kernel
theorem dX4_readClause_44 : decode cX4_readClause 44 = .ok (.invokevirtual 21, 3) := by decide +kernel
theorem dX4_readClause_47 : decode cX4_readClause 47 = .ok (.aload_n 0, 1) := by decide +kernel
theorem dX4_readClause_48 : decode cX4_readClause 48 = .ok (.getfield 9, 3) := by decide +kernel
theorem dX4_readClause_51 : decode cX4_readClause 51 = .ok (.iconst 0, 1) := by decide +kernel
theorem dX4_readClause_52 : decode cX4_readClause 52 = .ok (.aload_n 0, 1) := by decide +kernel
theorem dX4_readClause_53 : decode cX4_readClause 53 = .ok (.getfield 15, 3) := by decide +kernel
theorem dX4_readClause_56 : decode cX4_readClause 56 = .ok (.getfield 65, 3) := by decide +kernel
theorem dX4_readClause_59 : decode cX4_readClause 59 = .ok (.iconst 1, 1) := by decide +kernel
theorem dX4_readClause_60 : decode cX4_readClause 60 = .ok (.isub, 1) := by decide +kernel
theorem dX4_readClause_61 : decode cX4_readClause 61 = .ok (.invokevirtual 27, 3) := by decide +kernel
theorem dX4_readClause_64 : decode cX4_readClause 64 = .ok (.istore_n 1, 1) := by decide +kernel
theorem dX4_readClause_65 : decode cX4_readClause 65 = .ok (.aload_n 0, 1) := by decide +kernel
theorem dX4_readClause_66 : decode cX4_readClause 66 = .ok (.getfield 15, 3) := by decide +kernel
theorem dX4_readClause_69 : decode cX4_readClause 69 = .ok (.iload_n 1, 1) := by decide +kernel
theorem dX4_readClause_70 : decode cX4_readClause 70 = .ok (.aload_n 0, 1) := by decide +kernel
theorem dX4_readClause_71 : decode cX4_readClause 71 = .ok (.getfield 9, 3) := by decide +kernel
theorem dX4_readClause_74 : decode cX4_readClause 74 = .ok (.iconst 0, 1) := by decide +kernel
theorem dX4_readClause_75 : decode cX4_readClause 75 = .ok (.ldc 31, 2) := by decide +kernel
theorem dX4_readClause_77 : decode cX4_readClause 77 = .ok (.invokevirtual 27, 3) := by decide +kernel
theorem dX4_readClause_80 : decode cX4_readClause 80 = .ok (.invokevirtual 69, 3) := by decide +kernel
theorem dX4_readClause_83 : decode cX4_readClause 83 = .ok (.return_, 1) := by decide +kernel
theorem dX4_readLeg_0 : decode cX4_readLeg 0 = .ok (.aload_n 0, 1) := by decide +kernel
theorem dX4_readLeg_1 : decode cX4_readLeg 1 = .ok (.getfield 9, 3) := by decide +kernel
theorem dX4_readLeg_4 : decode cX4_readLeg 4 = .ok (.invokevirtual 72, 3) := by decide +kernel
theorem dX4_readLeg_7 : decode cX4_readLeg 7 = .ok (.aload_n 0, 1) := by decide +kernel
theorem dX4_readLeg_8 : decode cX4_readLeg 8 = .ok (.getfield 15, 3) := by decide +kernel
theorem dX4_readLeg_11 : decode cX4_readLeg 11 = .ok (.aload_n 0, 1) := by decide +kernel
theorem dX4_readLeg_12 : decode cX4_readLeg 12 = .ok (.getfield 9, 3) := by decide +kernel
theorem dX4_readLeg_15 : decode cX4_readLeg 15 = .ok (.iconst 0, 1) := by decide +kernel
theorem dX4_readLeg_16 : decode cX4_readLeg 16 = .ok (.iconst 1, 1) := by decide +kernel
theorem dX4_readLeg_17 : decode cX4_readLeg 17 = .ok (.invokevirtual 27, 3) := by decide +kernel
theorem dX4_readLeg_20 : decode cX4_readLeg 20 = .ok (.invokevirtual 75, 3) := by decide +kernel
theorem dX4_readLeg_23 : decode cX4_readLeg 23 = .ok (.astore_n 1, 1) := by decide +kernel
theorem dX4_readLeg_24 : decode cX4_readLeg 24 = .ok (.aload_n 0, 1) := by decide +kernel
theorem dX4_readLeg_25 : decode cX4_readLeg 25 = .ok (.getfield 9, 3) := by decide +kernel
theorem dX4_readLeg_28 : decode cX4_readLeg 28 = .ok (.bipush 100, 2) := by decide +kernel
theorem dX4_readLeg_30 : decode cX4_readLeg 30 = .ok (.sipush 20000, 3) := by decide +kernel
theorem dX4_readLeg_33 : decode cX4_readLeg 33 = .ok (.invokevirtual 27, 3) := by decide +kernel
theorem dX4_readLeg_36 : decode cX4_readLeg 36 = .ok (.istore_n 2, 1) := by decide +kernel
theorem dX4_readLeg_37 : decode cX4_readLeg 37 = .ok (.aload_n 0, 1) := by decide +kernel
theorem dX4_readLeg_38 : decode cX4_readLeg 38 = .ok (.getfield 9, 3) := by decide +kernel
theorem dX4_readLeg_41 : decode cX4_readLeg 41 = .ok (.bipush 100, 2) := by decide +kernel
theorem dX4_readLeg_43 : decode cX4_readLeg 43 = .ok (.ldc 31, 2) := by decide +kernel
theorem dX4_readLeg_45 : decode cX4_readLeg 45 = .ok (.invokevirtual 27, 3) := by decide +kernel
theorem dX4_readLeg_48 : decode cX4_readLeg 48 = .ok (.istore_n 3, 1) := by decide +kernel
theorem dX4_readLeg_49 : decode cX4_readLeg 49 = .ok (.aload_n 1, 1) := by decide +kernel
theorem dX4_readLeg_50 : decode cX4_readLeg 50 = .ok (.iload_n 2, 1) := by decide +kernel
theorem dX4_readLeg_51 : decode cX4_readLeg 51 = .ok (.iload_n 3, 1) := by decide +kernel
theorem dX4_readLeg_52 : decode cX4_readLeg 52 = .ok (.aload_n 0, 1) := by decide +kernel
theorem dX4_readLeg_53 : decode cX4_readLeg 53 = .ok (.getfield 9, 3) := by decide +kernel
theorem dX4_readLeg_56 : decode cX4_readLeg 56 = .ok (.invokevirtual 79, 3) := by decide +kernel
theorem dX4_readLeg_59 : decode cX4_readLeg 59 = .ok (.invokevirtual 83, 3) := by decide +kernel
theorem dX4_readLeg_62 : decode cX4_readLeg 62 = .ok (.return_, 1) := by decide +kernel
theorem dX4_readTube_0 : decode cX4_readTube 0 = .ok (.aload_n 0, 1) := by decide +kernel
theorem dX4_readTube_1 : decode cX4_readTube 1 = .ok (.getfield 15, 3) := by decide +kernel
theorem dX4_readTube_4 : decode cX4_readTube 4 = .ok (.getfield 89, 3) := by decide +kernel
theorem dX4_readTube_7 : decode cX4_readTube 7 = .ok (.bipush 12, 2) := by decide +kernel
theorem dX4_readTube_9 : decode cX4_readTube 9 = .ok (.if_icmp .lt 12, 3) := by decide +kernel
theorem dX4_readTube_12 : decode cX4_readTube 12 = .ok (.aload_n 0, 1) := by decide +kernel
theorem dX4_readTube_13 : decode cX4_readTube 13 = .ok (.getfield 9, 3) := by decide +kernel
theorem dX4_readTube_16 : decode cX4_readTube 16 = .ok (.iconst 3, 1) := by decide +kernel
theorem dX4_readTube_17 : decode cX4_readTube 17 = .ok (.invokevirtual 92, 3) := by decide +kernel
theorem dX4_readTube_20 : decode cX4_readTube 20 = .ok (.return_, 1) := by decide +kernel
theorem dX4_readTube_21 : decode cX4_readTube 21 = .ok (.aload_n 0, 1) := by decide +kernel
theorem dX4_readTube_22 : decode cX4_readTube 22 = .ok (.getfield 9, 3) := by decide +kernel
theorem dX4_readTube_25 : decode cX4_readTube 25 = .ok (.invokevirtual 72, 3) := by decide +kernel
theorem dX4_readTube_28 : decode cX4_readTube 28 = .ok (.aload_n 0, 1) := by decide +kernel
theorem dX4_readTube_29 : decode cX4_readTube 29 = .ok (.getfield 15, 3) := by decide +kernel
theorem dX4_readTube_32 : decode cX4_readTube 32 = .ok (.invokevirtual 96, 3) := by decide +kernel
theorem dX4_readTube_35 : decode cX4_readTube 35 = .ok (.astore_n 1, 1) := by decide +kernel
theorem dX4_readTube_36 : decode cX4_readTube 36 = .ok (.aload_n 0, 1) := by decide +kernel
theorem dX4_readTube_37 : decode cX4_readTube 37 = .ok (.getfield 9, 3) := by decide +kernel
theorem dX4_readTube_40 : decode cX4_readTube 40 = .ok (.iconst 0, 1) := by decide +kernel
theorem dX4_readTube_41 : decode cX4_readTube 41 = .ok (.iconst 1, 1) := by decide +kernel
theorem dX4_readTube_42 : decode cX4_readTube 42 = .ok (.invokevirtual 27, 3) := by decide +kernel
theorem dX4_readTube_45 : decode cX4_readTube 45 = .ok (.istore_n 2, 1) := by decide +kernel
theorem dX4_readTube_46 : decode cX4_readTube 46 = .ok (.aload_n 1, 1) := by decide +kernel
theorem dX4_readTube_47 : decode cX4_readTube 47 = .ok (.iload_n 2, 1) := by decide +kernel
theorem dX4_readTube_48 : decode cX4_readTube 48 = .ok (.aload_n 0, 1) := by decide +kernel
theorem dX4_readTube_49 : decode cX4_readTube 49 = .ok (.getfield 9, 3) := by decide +kernel
theorem dX4_readTube_52 : decode cX4_readTube 52 = .ok (.iconst 0, 1) := by decide +kernel
theorem dX4_readTube_53 : decode cX4_readTube 53 = .ok (.aload_n 0, 1) := by decide +kernel
theorem dX4_readTube_54 : decode cX4_readTube 54 = .ok (.getfield 15, 3) := by decide +kernel
theorem dX4_readTube_57 : decode cX4_readTube 57 = .ok (.getfield 65, 3) := by decide +kernel
theorem dX4_readTube_60 : decode cX4_readTube 60 = .ok (.iconst 1, 1) := by decide +kernel
theorem dX4_readTube_61 : decode cX4_readTube 61 = .ok (.isub, 1) := by decide +kernel
theorem dX4_readTube_62 : decode cX4_readTube 62 = .ok (.invokevirtual 27, 3) := by decide +kernel
theorem dX4_readTube_65 : decode cX4_readTube 65 = .ok (.invokevirtual 100, 3) := by decide +kernel
theorem dX4_readTube_68 : decode cX4_readTube 68 = .ok (.aload_n 0, 1) := by decide +kernel
theorem dX4_readTube_69 : decode cX4_readTube 69 = .ok (.getfield 9, 3) := by decide +kernel
theorem dX4_readTube_72 : decode cX4_readTube 72 = .ok (.iconst 1, 1) := by decide +kernel
theorem dX4_readTube_73 : decode cX4_readTube 73 = .ok (.bipush 20, 2) := by decide +kernel
theorem dX4_readTube_75 : decode cX4_readTube 75 = .ok (.invokevirtual 27, 3) := by decide +kernel
theorem dX4_readTube_78 : decode cX4_readTube 78 = .ok (.istore_n 3, 1) := by decide +kernel
theorem dX4_readTube_79 : decode cX4_readTube 79 = .ok (.aload_n 0, 1) := by decide +kernel
theorem dX4_readTube_80 : decode cX4_readTube 80 = .ok (.getfield 9, 3) := by decide +kernel
theorem dX4_readTube_83 : decode cX4_readTube 83 = .ok (.bipush 50, 2) := by decide +kernel
theorem dX4_readTube_85 : decode cX4_readTube 85 = .ok (.sipush 1000, 3) := by decide +kernel
theorem dX4_readTube_88 : decode cX4_readTube 88 = .ok (.invokevirtual 27, 3) := by decide +kernel
theorem dX4_readTube_91 : decode cX4_readTube 91 = .ok (.istore 4, 2) := by decide +kernel
theorem dX4_readTube_93 : decode cX4_readTube 93 = .ok (.aload_n 1, 1) := by decide +kernel
theorem dX4_readTube_94 : decode cX4_readTube 94 = .ok (.iload_n 3, 1) := by decide +kernel
theorem dX4_readTube_95 : decode cX4_readTube 95 = .ok (.iload 4, 2) := by decide +kernel
theorem dX4_readTube_97 : decode cX4_readTube 97 = .ok (.aload_n 0, 1) := by decide +kernel
theorem dX4_readTube_98 : decode cX4_readTube 98 = .ok (.getfield 9, 3) := by decide +kernel
theorem dX4_readTube_101 : decode cX4_readTube 101 = .ok (.bipush 10, 2) := by decide +kernel
theorem dX4_readTube_103 : decode cX4_readTube 103 = .ok (.sipush 2000, 3) := by decide +kernel
theorem dX4_readTube_106 : decode cX4_readTube 106 = .ok (.invokevirtual 27, 3) := by decide +kernel
theorem dX4_readTube_109 : decode cX4_readTube 109 = .ok (.invokevirtual 105, 3) := by decide +kernel
theorem dX4_readTube_112 : decode cX4_readTube 112 = .ok (.aload_n 0, 1) := by decide +kernel
theorem dX4_readTube_113 : decode cX4_readTube 113 = .ok (.getfield 9, 3) := by decide +kernel
theorem dX4_readTube_116 : decode cX4_readTube 116 = .ok (.ldc 108, 2) := by decide +kernel
theorem dX4_readTube_118 : decode cX4_readTube 118 = .ok (.invokevirtual 51, 3) := by decide +kernel
theorem dX4_readTube_121 : decode cX4_readTube 121 = .ok (.ifCond .eq 21, 3) := by decide +kernel
theorem dX4_readTube_124 : decode cX4_readTube 124 = .ok (.aload_n 0, 1) := by decide +kernel
theorem dX4_readTube_125 : decode cX4_readTube 125 = .ok (.getfield 9, 3) := by decide +kernel
theorem dX4_readTube_128 : decode cX4_readTube 128 = .ok (.invokevirtual 72, 3) := by decide +kernel
theorem dX4_readTube_131 : decode cX4_readTube 131 = .ok (.aload_n 1, 1) := by decide +kernel
theorem dX4_readTube_132 : decode cX4_readTube 132 = .ok (.aload_n 0, 1) := by decide +kernel
theorem dX4_readTube_133 : decode cX4_readTube 133 = .ok (.getfield 9, 3) := by decide +kernel
theorem dX4_readTube_136 : decode cX4_readTube 136 = .ok (.invokevirtual 79, 3) := by decide +kernel
theorem dX4_readTube_139 : decode cX4_readTube 139 = .ok (.putfield 110, 3) := by decide +kernel
theorem dX4_readTube_142 : decode cX4_readTube 142 = .ok (.return_, 1) := by decide +kernel
theorem dX5_init_0 : decode cX5_init 0 = .ok (.aload_n 0, 1) := by decide +kernel
theorem dX5_init_1 : decode cX5_init 1 = .ok (.invokespecial 3, 3) := by decide +kernel
theorem dX5_init_4 : decode cX5_init 4 = .ok (.aload_n 0, 1) := by decide +kernel
theorem dX5_init_5 : decode cX5_init 5 = .ok (.sipush 600, 3) := by decide +kernel
theorem dX5_init_8 : decode cX5_init 8 = .ok (.newarray .byte, 2) := by decide +kernel
theorem dX5_init_10 : decode cX5_init 10 = .ok (.putfield 9, 3) := by decide +kernel
theorem dX5_init_13 : decode cX5_init 13 = .ok (.aload_n 0, 1) := by decide +kernel
theorem dX5_init_14 : decode cX5_init 14 = .ok (.iconst (-1), 1) := by decide +kernel
theorem dX5_init_15 : decode cX5_init 15 = .ok (.putfield 15, 3) := by decide +kernel
theorem dX5_init_18 : decode cX5_init 18 = .ok (.return_, 1) := by decide +kernel
theorem dX5_hasRoomFor_0 : decode cX5_hasRoomFor 0 = .ok (.aload_n 0, 1) := by decide +kernel
theorem dX5_hasRoomFor_1 : decode cX5_hasRoomFor 1 = .ok (.getfield 19, 3) := by decide +kernel
theorem dX5_hasRoomFor_4 : decode cX5_hasRoomFor 4 = .ok (.iload_n 1, 1) := by decide +kernel
theorem dX5_hasRoomFor_5 : decode cX5_hasRoomFor 5 = .ok (.iadd, 1) := by decide +kernel
theorem dX5_hasRoomFor_6 : decode cX5_hasRoomFor 6 = .ok (.aload_n 0, 1) := by decide +kernel
theorem dX5_hasRoomFor_7 : decode cX5_hasRoomFor 7 = .ok (.getfield 9, 3) := by decide +kernel
theorem dX5_hasRoomFor_10 : decode cX5_hasRoomFor 10 = .ok (.arraylength, 1) := by decide +kernel
theorem dX5_hasRoomFor_11 : decode cX5_hasRoomFor 11 = .ok (.if_icmp .gt 7, 3) := by decide +kernel
theorem dX5_hasRoomFor_14 : decode cX5_hasRoomFor 14 = .ok (.iconst 1, 1) := by decide +kernel
theorem dX5_hasRoomFor_15 : decode cX5_hasRoomFor 15 = .ok (.goto 4, 3) := by decide +kernel
theorem dX5_hasRoomFor_18 : decode cX5_hasRoomFor 18 = .ok (.iconst 0, 1) := by decide +kernel
theorem dX5_hasRoomFor_19 : decode cX5_hasRoomFor 19 = .ok (.ireturn, 1) := by decide +kernel
theorem dX5_append_0 : decode cX5_append 0 = .ok (.bipush 24, 2) := by decide +kernel
theorem dX5_append_2 : decode cX5_append 2 = .ok (.istore_n 2, 1) := by decide +kernel
theorem dX5_append_3 : decode cX5_append 3 = .ok (.iload_n 2, 1) := by decide +kernel
theorem dX5_append_4 : decode cX5_append 4 = .ok (.ifCond .lt 51, 3) := by decide +kernel
theorem dX5_append_7 : decode cX5_append 7 = .ok (.aload_n 0, 1) := by decide +kernel
theorem dX5_append_8 : decode cX5_append 8 = .ok (.getfield 19, 3) := by decide +kernel
theorem dX5_append_11 : decode cX5_append 11 = .ok (.ifCond .lt 38, 3) := by decide +kernel
theorem dX5_append_14 : decode cX5_append 14 = .ok (.aload_n 0, 1) := by decide +kernel
theorem dX5_append_15 : decode cX5_append 15 = .ok (.getfield 19, 3) := by decide +kernel
theorem dX5_append_18 : decode cX5_append 18 = .ok (.aload_n 0, 1) := by decide +kernel
theorem dX5_append_19 : decode cX5_append 19 = .ok (.getfield 9, 3) := by decide +kernel
theorem dX5_append_22 : decode cX5_append 22 = .ok (.arraylength, 1) := by decide +kernel
theorem dX5_append_23 : decode cX5_append 23 = .ok (.if_icmp .ge 26, 3) := by decide +kernel
theorem dX5_append_26 : decode cX5_append 26 = .ok (.aload_n 0, 1) := by decide +kernel
theorem dX5_append_27 : decode cX5_append 27 = .ok (.getfield 9, 3) := by decide +kernel
theorem dX5_append_30 : decode cX5_append 30 = .ok (.aload_n 0, 1) := by decide +kernel
theorem dX5_append_31 : decode cX5_append 31 = .ok (.getfield 19, 3) := by decide +kernel
theorem dX5_append_34 : decode cX5_append 34 = .ok (.iload_n 1, 1) := by decide +kernel
theorem dX5_append_35 : decode cX5_append 35 = .ok (.iload_n 2, 1) := by decide +kernel
theorem dX5_append_36 : decode cX5_append 36 = .ok (.ishr, 1) := by decide +kernel
theorem dX5_append_37 : decode cX5_append 37 = .ok (.i2b, 1) := by decide +kernel
theorem dX5_append_38 : decode cX5_append 38 = .ok (.bastore, 1) := by decide +kernel
theorem dX5_append_39 : decode cX5_append 39 = .ok (.aload_n 0, 1) := by decide +kernel
theorem dX5_append_40 : decode cX5_append 40 = .ok (.dup, 1) := by decide +kernel
theorem dX5_append_41 : decode cX5_append 41 = .ok (.getfield 19, 3) := by decide +kernel
theorem dX5_append_44 : decode cX5_append 44 = .ok (.iconst 1, 1) := by decide +kernel
theorem dX5_append_45 : decode cX5_append 45 = .ok (.iadd, 1) := by decide +kernel
theorem dX5_append_46 : decode cX5_append 46 = .ok (.putfield 19, 3) := by decide +kernel
theorem dX5_append_49 : decode cX5_append 49 = .ok (.iinc 2 (-8), 3) := by decide +kernel
theorem dX5_append_52 : decode cX5_append 52 = .ok (.goto (-49), 3) := by decide +kernel
theorem dX5_append_55 : decode cX5_append 55 = .ok (.return_, 1) := by decide +kernel
theorem dX5_empty_0 : decode cX5_empty 0 = .ok (.aload_n 0, 1) := by decide +kernel
theorem dX5_empty_1 : decode cX5_empty 1 = .ok (.iconst 0, 1) := by decide +kernel
theorem dX5_empty_2 : decode cX5_empty 2 = .ok (.putfield 19, 3) := by decide +kernel
theorem dX5_empty_5 : decode cX5_empty 5 = .ok (.return_, 1) := by decide +kernel
theorem dX5_begin_0 : decode cX5_begin 0 = .ok (.aload_n 0, 1) := by decide +kernel
theorem dX5_begin_1 : decode cX5_begin 1 = .ok (.iload_n 1, 1) := by decide +kernel
theorem dX5_begin_2 : decode cX5_begin 2 = .ok (.aload_n 0, 1) := by decide +kernel
theorem dX5_begin_3 : decode cX5_begin 3 = .ok (.getfield 9, 3) := by decide +kernel
theorem dX5_begin_6 : decode cX5_begin 6 = .ok (.arraylength, 1) := by decide +kernel
theorem dX5_begin_7 : decode cX5_begin 7 = .ok (.invokestatic 22, 3) := by decide +kernel
theorem dX5_begin_10 : decode cX5_begin 10 = .ok (.putfield 28, 3) := by decide +kernel
theorem dX5_begin_13 : decode cX5_begin 13 = .ok (.aload_n 0, 1) := by decide +kernel
theorem dX5_begin_14 : decode cX5_begin 14 = .ok (.iconst 0, 1) := by decide +kernel
theorem dX5_begin_15 : decode cX5_begin 15 = .ok (.putfield 31, 3) := by decide +kernel
theorem dX5_begin_18 : decode cX5_begin 18 = .ok (.aload_n 0, 1) := by decide +kernel
theorem dX5_begin_19 : decode cX5_begin 19 = .ok (.iconst 0, 1) := by decide +kernel
theorem dX5_begin_20 : decode cX5_begin 20 = .ok (.putfield 34, 3) := by decide +kernel
theorem dX5_begin_23 : decode cX5_begin 23 = .ok (.aload_n 0, 1) := by decide +kernel
theorem dX5_begin_24 : decode cX5_begin 24 = .ok (.iconst (-1), 1) := by decide +kernel
theorem dX5_begin_25 : decode cX5_begin 25 = .ok (.putfield 15, 3) := by decide +kernel
theorem dX5_begin_28 : decode cX5_begin 28 = .ok (.aload_n 0, 1) := by decide +kernel
theorem dX5_begin_29 : decode cX5_begin 29 = .ok (.invokevirtual 37, 3) := by decide +kernel
theorem dX5_begin_32 : decode cX5_begin 32 = .ok (.return_, 1) := by decide +kernel
theorem dX5_advance_0 : decode cX5_advance 0 = .ok (.aload_n 0, 1) := by decide +kernel
theorem dX5_advance_1 : decode cX5_advance 1 = .ok (.getfield 31, 3) := by decide +kernel
theorem dX5_advance_4 : decode cX5_advance 4 = .ok (.aload_n 0, 1) := by decide +kernel
theorem dX5_advance_5 : decode cX5_advance 5 = .ok (.getfield 28, 3) := by decide +kernel
theorem dX5_advance_8 : decode cX5_advance 8 = .ok (.if_icmp .ge 42, 3) := by decide +kernel
theorem dX5_advance_11 : decode cX5_advance 11 = .ok (.aload_n 0, 1) := by decide +kernel
theorem dX5_advance_12 : decode cX5_advance 12 = .ok (.aload_n 0, 1) := by decide +kernel
theorem dX5_advance_13 : decode cX5_advance 13 = .ok (.getfield 31, 3) := by decide +kernel
theorem dX5_advance_16 : decode cX5_advance 16 = .ok (.invokevirtual 40, 3) := by decide +kernel
theorem dX5_advance_19 : decode cX5_advance 19 = .ok (.bipush 32, 2) := by decide +kernel
theorem dX5_advance_21 : decode cX5_advance 21 = .ok (.if_icmp .eq 16, 3) := by decide +kernel
theorem dX5_advance_24 : decode cX5_advance 24 = .ok (.aload_n 0, 1) := by decide +kernel
theorem dX5_advance_25 : decode cX5_advance 25 = .ok (.aload_n 0, 1) := by decide +kernel
theorem dX5_advance_26 : decode cX5_advance 26 = .ok (.getfield 31, 3) := by decide +kernel
theorem dX5_advance_29 : decode cX5_advance 29 = .ok (.invokevirtual 40, 3) := by decide +kernel
theorem dX5_advance_32 : decode cX5_advance 32 = .ok (.bipush 10, 2) := by decide +kernel
theorem dX5_advance_34 : decode cX5_advance 34 = .ok (.if_icmp .ne 16, 3) := by decide +kernel
theorem dX5_advance_37 : decode cX5_advance 37 = .ok (.aload_n 0, 1) := by decide +kernel
theorem dX5_advance_38 : decode cX5_advance 38 = .ok (.dup, 1) := by decide +kernel
theorem dX5_advance_39 : decode cX5_advance 39 = .ok (.getfield 31, 3) := by decide +kernel
theorem dX5_advance_42 : decode cX5_advance 42 = .ok (.iconst 1, 1) := by decide +kernel
theorem dX5_advance_43 : decode cX5_advance 43 = .ok (.iadd, 1) := by decide +kernel
theorem dX5_advance_44 : decode cX5_advance 44 = .ok (.putfield 31, 3) := by decide +kernel
theorem dX5_advance_47 : decode cX5_advance 47 = .ok (.goto (-47), 3) := by decide +kernel
theorem dX5_advance_50 : decode cX5_advance 50 = .ok (.aload_n 0, 1) := by decide +kernel
theorem dX5_advance_51 : decode cX5_advance 51 = .ok (.aload_n 0, 1) := by decide +kernel
theorem dX5_advance_52 : decode cX5_advance 52 = .ok (.getfield 31, 3) := by decide +kernel
theorem dX5_advance_55 : decode cX5_advance 55 = .ok (.putfield 44, 3) := by decide +kernel
theorem dX5_advance_58 : decode cX5_advance 58 = .ok (.aload_n 0, 1) := by decide +kernel
theorem dX5_advance_59 : decode cX5_advance 59 = .ok (.iconst 0, 1) := by decide +kernel
theorem dX5_advance_60 : decode cX5_advance 60 = .ok (.putfield 47, 3) := by decide +kernel
theorem dX5_advance_63 : decode cX5_advance 63 = .ok (.aload_n 0, 1) := by decide +kernel
theorem dX5_advance_64 : decode cX5_advance 64 = .ok (.getfield 31, 3) := by decide +kernel
theorem dX5_advance_67 : decode cX5_advance 67 = .ok (.aload_n 0, 1) := by decide +kernel
theorem dX5_advance_68 : decode cX5_advance 68 = .ok (.getfield 28, 3) := by decide +kernel
theorem dX5_advance_71 : decode cX5_advance 71 = .ok (.if_icmp .lt 11, 3) := by decide +kernel
theorem dX5_advance_74 : decode cX5_advance 74 = .ok (.aload_n 0, 1) := by decide +kernel
theorem dX5_advance_75 : decode cX5_advance 75 = .ok (.iconst 0, 1) := by decide +kernel
theorem dX5_advance_76 : decode cX5_advance 76 = .ok (.putfield 50, 3) := by decide +kernel
theorem dX5_advance_79 : decode cX5_advance 79 = .ok (.goto 171, 3) := by decide +kernel
theorem dX5_advance_82 : decode cX5_advance 82 = .ok (.aload_n 0, 1) := by decide +kernel
theorem dX5_advance_83 : decode cX5_advance 83 = .ok (.aload_n 0, 1) := by decide +kernel
theorem dX5_advance_84 : decode cX5_advance 84 = .ok (.getfield 31, 3) := by decide +kernel
theorem dX5_advance_87 : decode cX5_advance 87 = .ok (.invokevirtual 40, 3) := by decide +kernel
theorem dX5_advance_90 : decode cX5_advance 90 = .ok (.invokestatic 53, 3) := by decide +kernel
theorem dX5_advance_93 : decode cX5_advance 93 = .ok (.ifCond .eq 46, 3) := by decide +kernel
theorem dX5_advance_96 : decode cX5_advance 96 = .ok (.aload_n 0, 1) := by decide +kernel
theorem dX5_advance_97 : decode cX5_advance 97 = .ok (.iconst 1, 1) := by decide +kernel
theorem dX5_advance_98 : decode cX5_advance 98 = .ok (.putfield 50, 3) := by decide +kernel
theorem dX5_advance_101 : decode cX5_advance 101 = .ok (.aload_n 0, 1) := by decide +kernel
theorem dX5_advance_102 : decode cX5_advance 102 = .ok (.getfield 31, 3) := by decide +kernel
theorem dX5_advance_105 : decode cX5_advance 105 = .ok (.aload_n 0, 1) := by decide +kernel
theorem dX5_advance_106 : decode cX5_advance 106 = .ok (.getfield 28, 3) := by decide +kernel
theorem dX5_advance_109 : decode cX5_advance 109 = .ok (.if_icmp .ge 141, 3) := by decide +kernel
theorem dX5_advance_112 : decode cX5_advance 112 = .ok (.aload_n 0, 1) := by decide +kernel
theorem dX5_advance_113 : decode cX5_advance 113 = .ok (.aload_n 0, 1) := by decide +kernel
theorem dX5_advance_114 : decode cX5_advance 114 = .ok (.getfield 31, 3) := by decide +kernel
theorem dX5_advance_117 : decode cX5_advance 117 = .ok (.invokevirtual 40, 3) := by decide +kernel
theorem dX5_advance_120 : decode cX5_advance 120 = .ok (.invokestatic 53, 3) := by decide +kernel
theorem dX5_advance_123 : decode cX5_advance 123 = .ok (.ifCond .eq 127, 3) := by decide +kernel
theorem dX5_advance_126 : decode cX5_advance 126 = .ok (.aload_n 0, 1) := by decide +kernel
theorem dX5_advance_127 : decode cX5_advance 127 = .ok (.dup, 1) := by decide +kernel
theorem dX5_advance_128 : decode cX5_advance 128 = .ok (.getfield 31, 3) := by decide +kernel
theorem dX5_advance_131 : decode cX5_advance 131 = .ok (.iconst 1, 1) := by decide +kernel
theorem dX5_advance_132 : decode cX5_advance 132 = .ok (.iadd, 1) := by decide +kernel
theorem dX5_advance_133 : decode cX5_advance 133 = .ok (.putfield 31, 3) := by decide +kernel
theorem dX5_advance_136 : decode cX5_advance 136 = .ok (.goto (-35), 3) := by decide +kernel
theorem dX5_advance_139 : decode cX5_advance 139 = .ok (.aload_n 0, 1) := by decide +kernel
theorem dX5_advance_140 : decode cX5_advance 140 = .ok (.aload_n 0, 1) := by decide +kernel
theorem dX5_advance_141 : decode cX5_advance 141 = .ok (.getfield 31, 3) := by decide +kernel
theorem dX5_advance_144 : decode cX5_advance 144 = .ok (.invokevirtual 40, 3) := by decide +kernel
theorem dX5_advance_147 : decode cX5_advance 147 = .ok (.invokestatic 57, 3) := by decide +kernel
theorem dX5_advance_150 : decode cX5_advance 150 = .ok (.ifCond .eq 85, 3) := by decide +kernel
theorem dX5_advance_153 : decode cX5_advance 153 = .ok (.aload_n 0, 1) := by decide +kernel
theorem dX5_advance_154 : decode cX5_advance 154 = .ok (.iconst 2, 1) := by decide +kernel
theorem dX5_advance_155 : decode cX5_advance 155 = .ok (.putfield 50, 3) := by decide +kernel
theorem dX5_advance_158 : decode cX5_advance 158 = .ok (.aload_n 0, 1) := by decide +kernel
theorem dX5_advance_159 : decode cX5_advance 159 = .ok (.getfield 31, 3) := by decide +kernel
theorem dX5_advance_162 : decode cX5_advance 162 = .ok (.aload_n 0, 1) := by decide +kernel
theorem dX5_advance_163 : decode cX5_advance 163 = .ok (.getfield 28, 3) := by decide +kernel
theorem dX5_advance_166 : decode cX5_advance 166 = .ok (.if_icmp .ge 84, 3) := by decide +kernel
theorem dX5_advance_169 : decode cX5_advance 169 = .ok (.aload_n 0, 1) := by decide +kernel
theorem dX5_advance_170 : decode cX5_advance 170 = .ok (.aload_n 0, 1) := by decide +kernel
theorem dX5_advance_171 : decode cX5_advance 171 = .ok (.getfield 31, 3) := by decide +kernel
theorem dX5_advance_174 : decode cX5_advance 174 = .ok (.invokevirtual 40, 3) := by decide +kernel
theorem dX5_advance_177 : decode cX5_advance 177 = .ok (.invokestatic 57, 3) := by decide +kernel
theorem dX5_advance_180 : decode cX5_advance 180 = .ok (.ifCond .eq 70, 3) := by decide +kernel
theorem dX5_advance_183 : decode cX5_advance 183 = .ok (.aload_n 0, 1) := by decide +kernel
theorem dX5_advance_184 : decode cX5_advance 184 = .ok (.aload_n 0, 1) := by decide +kernel
theorem dX5_advance_185 : decode cX5_advance 185 = .ok (.getfield 47, 3) := by decide +kernel
theorem dX5_advance_188 : decode cX5_advance 188 = .ok (.ldc 60, 2) := by decide +kernel
theorem dX5_advance_190 : decode cX5_advance 190 = .ok (.if_icmp .le 10, 3) := by decide +kernel
theorem dX5_advance_193 : decode cX5_advance 193 = .ok (.aload_n 0, 1) := by decide +kernel
theorem dX5_advance_194 : decode cX5_advance 194 = .ok (.getfield 47, 3) := by decide +kernel
theorem dX5_advance_197 : decode cX5_advance 197 = .ok (.goto 22, 3) := by decide +kernel
theorem dX5_advance_200 : decode cX5_advance 200 = .ok (.aload_n 0, 1) := by decide +kernel
theorem dX5_advance_201 : decode cX5_advance 201 = .ok (.getfield 47, 3) := by decide +kernel
theorem dX5_advance_204 : decode cX5_advance 204 = .ok (.bipush 10, 2) := by decide +kernel
theorem dX5_advance_206 : decode cX5_advance 206 = .ok (.imul, 1) := by decide +kernel
theorem dX5_advance_207 : decode cX5_advance 207 = .ok (.aload_n 0, 1) := by decide +kernel
theorem dX5_advance_208 : decode cX5_advance 208 = .ok (.aload_n 0, 1) := by decide +kernel
theorem dX5_advance_209 : decode cX5_advance 209 = .ok (.getfield 31, 3) := by decide +kernel
theorem dX5_advance_212 : decode cX5_advance 212 = .ok (.invokevirtual 40, 3) := by decide +kernel
theorem dX5_advance_215 : decode cX5_advance 215 = .ok (.iadd, 1) := by decide +kernel
theorem dX5_advance_216 : decode cX5_advance 216 = .ok (.bipush 48, 2) := by decide +kernel
theorem dX5_advance_218 : decode cX5_advance 218 = .ok (.isub, 1) := by decide +kernel
theorem dX5_advance_219 : decode cX5_advance 219 = .ok (.putfield 47, 3) := by decide +kernel
theorem dX5_advance_222 : decode cX5_advance 222 = .ok (.aload_n 0, 1) := by decide +kernel
theorem dX5_advance_223 : decode cX5_advance 223 = .ok (.dup, 1) := by decide +kernel
theorem dX5_advance_224 : decode cX5_advance 224 = .ok (.getfield 31, 3) := by decide +kernel
theorem dX5_advance_227 : decode cX5_advance 227 = .ok (.iconst 1, 1) := by decide +kernel
theorem dX5_advance_228 : decode cX5_advance 228 = .ok (.iadd, 1) := by decide +kernel
theorem dX5_advance_229 : decode cX5_advance 229 = .ok (.putfield 31, 3) := by decide +kernel
theorem dX5_advance_232 : decode cX5_advance 232 = .ok (.goto (-74), 3) := by decide +kernel
theorem dX5_advance_235 : decode cX5_advance 235 = .ok (.aload_n 0, 1) := by decide +kernel
theorem dX5_advance_236 : decode cX5_advance 236 = .ok (.iconst 3, 1) := by decide +kernel
theorem dX5_advance_237 : decode cX5_advance 237 = .ok (.putfield 50, 3) := by decide +kernel
theorem dX5_advance_240 : decode cX5_advance 240 = .ok (.aload_n 0, 1) := by decide +kernel
theorem dX5_advance_241 : decode cX5_advance 241 = .ok (.dup, 1) := by decide +kernel
theorem dX5_advance_242 : decode cX5_advance 242 = .ok (.getfield 31, 3) := by decide +kernel
theorem dX5_advance_245 : decode cX5_advance 245 = .ok (.iconst 1, 1) := by decide +kernel
theorem dX5_advance_246 : decode cX5_advance 246 = .ok (.iadd, 1) := by decide +kernel
theorem dX5_advance_247 : decode cX5_advance 247 = .ok (.putfield 31, 3) := by decide +kernel
theorem dX5_advance_250 : decode cX5_advance 250 = .ok (.return_, 1) := by decide +kernel
theorem dX5_byteAt_0 : decode cX5_byteAt 0 = .ok (.iload_n 1, 1) := by decide +kernel
theorem dX5_byteAt_1 : decode cX5_byteAt 1 = .ok (.ifCond .lt 21, 3) := by decide +kernel
theorem dX5_byteAt_4 : decode cX5_byteAt 4 = .ok (.iload_n 1, 1) := by decide +kernel
theorem dX5_byteAt_5 : decode cX5_byteAt 5 = .ok (.aload_n 0, 1) := by decide +kernel
theorem dX5_byteAt_6 : decode cX5_byteAt 6 = .ok (.getfield 9, 3) := by decide +kernel
theorem dX5_byteAt_9 : decode cX5_byteAt 9 = .ok (.arraylength, 1) := by decide +kernel
theorem dX5_byteAt_10 : decode cX5_byteAt 10 = .ok (.if_icmp .ge 12, 3) := by decide +kernel
theorem dX5_byteAt_13 : decode cX5_byteAt 13 = .ok (.aload_n 0, 1) := by decide +kernel
theorem dX5_byteAt_14 : decode cX5_byteAt 14 = .ok (.getfield 9, 3) := by decide +kernel
theorem dX5_byteAt_17 : decode cX5_byteAt 17 = .ok (.iload_n 1, 1) := by decide +kernel
theorem dX5_byteAt_18 : decode cX5_byteAt 18 = .ok (.baload, 1) := by decide +kernel
theorem dX5_byteAt_19 : decode cX5_byteAt 19 = .ok (.goto 4, 3) := by decide +kernel
theorem dX5_byteAt_22 : decode cX5_byteAt 22 = .ok (.iconst 0, 1) := by decide +kernel
theorem dX5_byteAt_23 : decode cX5_byteAt 23 = .ok (.ireturn, 1) := by decide +kernel
theorem dX5_isLetter_0 : decode cX5_isLetter 0 = .ok (.iload_n 0, 1) := by decide +kernel
theorem dX5_isLetter_1 : decode cX5_isLetter 1 = .ok (.bipush 97, 2) := by decide +kernel
theorem dX5_isLetter_3 : decode cX5_isLetter 3 = .ok (.if_icmp .lt 13, 3) := by decide +kernel
theorem dX5_isLetter_6 : decode cX5_isLetter 6 = .ok (.iload_n 0, 1) := by decide +kernel
theorem dX5_isLetter_7 : decode cX5_isLetter 7 = .ok (.bipush 122, 2) := by decide +kernel
theorem dX5_isLetter_9 : decode cX5_isLetter 9 = .ok (.if_icmp .gt 7, 3) := by decide +kernel
theorem dX5_isLetter_12 : decode cX5_isLetter 12 = .ok (.iconst 1, 1) := by decide +kernel
theorem dX5_isLetter_13 : decode cX5_isLetter 13 = .ok (.goto 4, 3) := by decide +kernel
theorem dX5_isLetter_16 : decode cX5_isLetter 16 = .ok (.iconst 0, 1) := by decide +kernel
theorem dX5_isLetter_17 : decode cX5_isLetter 17 = .ok (.ireturn, 1) := by decide +kernel
theorem dX5_isDigit_0 : decode cX5_isDigit 0 = .ok (.iload_n 0, 1) := by decide +kernel
theorem dX5_isDigit_1 : decode cX5_isDigit 1 = .ok (.bipush 48, 2) := by decide +kernel
theorem dX5_isDigit_3 : decode cX5_isDigit 3 = .ok (.if_icmp .lt 13, 3) := by decide +kernel
theorem dX5_isDigit_6 : decode cX5_isDigit 6 = .ok (.iload_n 0, 1) := by decide +kernel
theorem dX5_isDigit_7 : decode cX5_isDigit 7 = .ok (.bipush 57, 2) := by decide +kernel
theorem dX5_isDigit_9 : decode cX5_isDigit 9 = .ok (.if_icmp .gt 7, 3) := by decide +kernel
theorem dX5_isDigit_12 : decode cX5_isDigit 12 = .ok (.iconst 1, 1) := by decide +kernel
theorem dX5_isDigit_13 : decode cX5_isDigit 13 = .ok (.goto 4, 3) := by decide +kernel
theorem dX5_isDigit_16 : decode cX5_isDigit 16 = .ok (.iconst 0, 1) := by decide +kernel
theorem dX5_isDigit_17 : decode cX5_isDigit 17 = .ok (.ireturn, 1) := by decide +kernel
theorem dX5_fail_0 : decode cX5_fail 0 = .ok (.aload_n 0, 1) := by decide +kernel
theorem dX5_fail_1 : decode cX5_fail 1 = .ok (.getfield 34, 3) := by decide +kernel
theorem dX5_fail_4 : decode cX5_fail 4 = .ok (.ifCond .ne 16, 3) := by decide +kernel
theorem dX5_fail_7 : decode cX5_fail 7 = .ok (.aload_n 0, 1) := by decide +kernel
theorem dX5_fail_8 : decode cX5_fail 8 = .ok (.iload_n 1, 1) := by decide +kernel
theorem dX5_fail_9 : decode cX5_fail 9 = .ok (.putfield 34, 3) := by decide +kernel
theorem dX5_fail_12 : decode cX5_fail 12 = .ok (.aload_n 0, 1) := by decide +kernel
theorem dX5_fail_13 : decode cX5_fail 13 = .ok (.aload_n 0, 1) := by decide +kernel
theorem dX5_fail_14 : decode cX5_fail 14 = .ok (.getfield 44, 3) := by decide +kernel
theorem dX5_fail_17 : decode cX5_fail 17 = .ok (.putfield 15, 3) := by decide +kernel
theorem dX5_fail_20 : decode cX5_fail 20 = .ok (.return_, 1) := by decide +kernel
theorem dX5_goesOn_0 : decode cX5_goesOn 0 = .ok (.aload_n 0, 1) := by decide +kernel
theorem dX5_goesOn_1 : decode cX5_goesOn 1 = .ok (.getfield 34, 3) := by decide +kernel
theorem dX5_goesOn_4 : decode cX5_goesOn 4 = .ok (.ifCond .ne 14, 3) := by decide +kernel
theorem dX5_goesOn_7 : decode cX5_goesOn 7 = .ok (.aload_n 0, 1) := by decide +kernel
theorem dX5_goesOn_8 : decode cX5_goesOn 8 = .ok (.getfield 50, 3) := by decide +kernel
theorem dX5_goesOn_11 : decode cX5_goesOn 11 = .ok (.ifCond .eq 7, 3) := by decide +kernel
theorem dX5_goesOn_14 : decode cX5_goesOn 14 = .ok (.iconst 1, 1) := by decide +kernel
theorem dX5_goesOn_15 : decode cX5_goesOn 15 = .ok (.goto 4, 3) := by decide +kernel
theorem dX5_goesOn_18 : decode cX5_goesOn 18 = .ok (.iconst 0, 1) := by decide +kernel
theorem dX5_goesOn_19 : decode cX5_goesOn 19 = .ok (.ireturn, 1) := by decide +kernel
theorem dX5_isWord_0 : decode cX5_isWord 0 = .ok (.aload_n 0, 1) := by decide +kernel
theorem dX5_isWord_1 : decode cX5_isWord 1 = .ok (.getfield 50, 3) := by decide +kernel
theorem dX5_isWord_4 : decode cX5_isWord 4 = .ok (.iconst 1, 1) := by decide +kernel
theorem dX5_isWord_5 : decode cX5_isWord 5 = .ok (.if_icmp .ne 23, 3) := by decide +kernel
theorem dX5_isWord_8 : decode cX5_isWord 8 = .ok (.aload_n 0, 1) := by decide +kernel
theorem dX5_isWord_9 : decode cX5_isWord 9 = .ok (.getfield 31, 3) := by decide +kernel
theorem dX5_isWord_12 : decode cX5_isWord 12 = .ok (.aload_n 0, 1) := by decide +kernel
theorem dX5_isWord_13 : decode cX5_isWord 13 = .ok (.getfield 44, 3) := by decide +kernel
theorem dX5_isWord_16 : decode cX5_isWord 16 = .ok (.isub, 1) := by decide +kernel
theorem dX5_isWord_17 : decode cX5_isWord 17 = .ok (.aload_n 1, 1) := by decide +kernel
theorem dX5_isWord_18 : decode cX5_isWord 18 = .ok (.invokevirtual 61, 3) := by decide +kernel
theorem dX5_isWord_21 : decode cX5_isWord 21 = .ok (.if_icmp .ne 7, 3) := by decide +kernel
theorem dX5_isWord_24 : decode cX5_isWord 24 = .ok (.iconst 1, 1) := by decide +kernel
theorem dX5_isWord_25 : decode cX5_isWord 25 = .ok (.goto 4, 3) := by decide +kernel
theorem dX5_isWord_28 : decode cX5_isWord 28 = .ok (.iconst 0, 1) := by decide +kernel
theorem dX5_isWord_29 : decode cX5_isWord 29 = .ok (.istore_n 2, 1) := by decide +kernel
theorem dX5_isWord_30 : decode cX5_isWord 30 = .ok (.iconst 0, 1) := by decide +kernel
theorem dX5_isWord_31 : decode cX5_isWord 31 = .ok (.istore_n 3, 1) := by decide +kernel
theorem dX5_isWord_32 : decode cX5_isWord 32 = .ok (.iload_n 3, 1) := by decide +kernel
theorem dX5_isWord_33 : decode cX5_isWord 33 = .ok (.aload_n 1, 1) := by decide +kernel
theorem dX5_isWord_34 : decode cX5_isWord 34 = .ok (.invokevirtual 61, 3) := by decide +kernel
theorem dX5_isWord_37 : decode cX5_isWord 37 = .ok (.if_icmp .ge 57, 3) := by decide +kernel
theorem dX5_isWord_40 : decode cX5_isWord 40 = .ok (.iload_n 2, 1) := by decide +kernel
theorem dX5_isWord_41 : decode cX5_isWord 41 = .ok (.ifCond .eq 53, 3) := by decide +kernel
theorem dX5_isWord_44 : decode cX5_isWord 44 = .ok (.aload_n 0, 1) := by decide +kernel
theorem dX5_isWord_45 : decode cX5_isWord 45 = .ok (.getfield 44, 3) := by decide +kernel
theorem dX5_isWord_48 : decode cX5_isWord 48 = .ok (.iload_n 3, 1) := by decide +kernel
theorem dX5_isWord_49 : decode cX5_isWord 49 = .ok (.iadd, 1) := by decide +kernel
theorem dX5_isWord_50 : decode cX5_isWord 50 = .ok (.istore 4, 2) := by decide +kernel
theorem dX5_isWord_52 : decode cX5_isWord 52 = .ok (.iload 4, 2) := by decide +kernel
theorem dX5_isWord_54 : decode cX5_isWord 54 = .ok (.ifCond .lt 32, 3) := by decide +kernel
theorem dX5_isWord_57 : decode cX5_isWord 57 = .ok (.iload 4, 2) := by decide +kernel
theorem dX5_isWord_59 : decode cX5_isWord 59 = .ok (.aload_n 0, 1) := by decide +kernel
theorem dX5_isWord_60 : decode cX5_isWord 60 = .ok (.getfield 9, 3) := by decide +kernel
theorem dX5_isWord_63 : decode cX5_isWord 63 = .ok (.arraylength, 1) := by decide +kernel
theorem dX5_isWord_64 : decode cX5_isWord 64 = .ok (.if_icmp .ge 22, 3) := by decide +kernel
theorem dX5_isWord_67 : decode cX5_isWord 67 = .ok (.aload_n 0, 1) := by decide +kernel
theorem dX5_isWord_68 : decode cX5_isWord 68 = .ok (.getfield 9, 3) := by decide +kernel
theorem dX5_isWord_71 : decode cX5_isWord 71 = .ok (.iload 4, 2) := by decide +kernel
theorem dX5_isWord_73 : decode cX5_isWord 73 = .ok (.baload, 1) := by decide +kernel
theorem dX5_isWord_74 : decode cX5_isWord 74 = .ok (.aload_n 1, 1) := by decide +kernel
theorem dX5_isWord_75 : decode cX5_isWord 75 = .ok (.iload_n 3, 1) := by decide +kernel
theorem dX5_isWord_76 : decode cX5_isWord 76 = .ok (.invokevirtual 67, 3) := by decide +kernel
theorem dX5_isWord_79 : decode cX5_isWord 79 = .ok (.if_icmp .ne 7, 3) := by decide +kernel
theorem dX5_isWord_82 : decode cX5_isWord 82 = .ok (.iconst 1, 1) := by decide +kernel
theorem dX5_isWord_83 : decode cX5_isWord 83 = .ok (.goto 4, 3) := by decide +kernel
theorem dX5_isWord_86 : decode cX5_isWord 86 = .ok (.iconst 0, 1) := by decide +kernel
theorem dX5_isWord_87 : decode cX5_isWord 87 = .ok (.istore_n 2, 1) := by decide +kernel
theorem dX5_isWord_88 : decode cX5_isWord 88 = .ok (.iinc 3 1, 3) := by decide +kernel
theorem dX5_isWord_91 : decode cX5_isWord 91 = .ok (.goto (-59), 3) := by decide +kernel
theorem dX5_isWord_94 : decode cX5_isWord 94 = .ok (.iload_n 2, 1) := by decide +kernel
theorem dX5_isWord_95 : decode cX5_isWord 95 = .ok (.ireturn, 1) := by decide +kernel
theorem dX5_isSign_0 : decode cX5_isSign 0 = .ok (.aload_n 0, 1) := by decide +kernel
theorem dX5_isSign_1 : decode cX5_isSign 1 = .ok (.getfield 50, 3) := by decide +kernel
theorem dX5_isSign_4 : decode cX5_isSign 4 = .ok (.iconst 3, 1) := by decide +kernel
theorem dX5_isSign_5 : decode cX5_isSign 5 = .ok (.if_icmp .ne 19, 3) := by decide +kernel
theorem dX5_isSign_8 : decode cX5_isSign 8 = .ok (.aload_n 0, 1) := by decide +kernel
theorem dX5_isSign_9 : decode cX5_isSign 9 = .ok (.aload_n 0, 1) := by decide +kernel
theorem dX5_isSign_10 : decode cX5_isSign 10 = .ok (.getfield 44, 3) := by decide +kernel
theorem dX5_isSign_13 : decode cX5_isSign 13 = .ok (.invokevirtual 40, 3) := by decide +kernel
theorem dX5_isSign_16 : decode cX5_isSign 16 = .ok (.iload_n 1, 1) := by decide +kernel
theorem dX5_isSign_17 : decode cX5_isSign 17 = .ok (.if_icmp .ne 7, 3) := by decide +kernel
theorem dX5_isSign_20 : decode cX5_isSign 20 = .ok (.iconst 1, 1) := by decide +kernel
theorem dX5_isSign_21 : decode cX5_isSign 21 = .ok (.goto 4, 3) := by decide +kernel
theorem dX5_isSign_24 : decode cX5_isSign 24 = .ok (.iconst 0, 1) := by decide +kernel
theorem dX5_isSign_25 : decode cX5_isSign 25 = .ok (.ireturn, 1) := by decide +kernel
theorem dX5_takeWord_0 : decode cX5_takeWord 0 = .ok (.aload_n 0, 1) := by decide +kernel
theorem dX5_takeWord_1 : decode cX5_takeWord 1 = .ok (.aload_n 1, 1) := by decide +kernel
theorem dX5_takeWord_2 : decode cX5_takeWord 2 = .ok (.invokevirtual 71, 3) := by decide +kernel
theorem dX5_takeWord_5 : decode cX5_takeWord 5 = .ok (.ifCond .eq 10, 3) := by decide +kernel
theorem dX5_takeWord_8 : decode cX5_takeWord 8 = .ok (.aload_n 0, 1) := by decide +kernel
theorem dX5_takeWord_9 : decode cX5_takeWord 9 = .ok (.invokevirtual 37, 3) := by decide +kernel
theorem dX5_takeWord_12 : decode cX5_takeWord 12 = .ok (.goto 8, 3) := by decide +kernel
theorem dX5_takeWord_15 : decode cX5_takeWord 15 = .ok (.aload_n 0, 1) := by decide +kernel
theorem dX5_takeWord_16 : decode cX5_takeWord 16 = .ok (.iconst 1, 1) := by decide +kernel
theorem dX5_takeWord_17 : decode cX5_takeWord 17 = .ok (.invokevirtual 75, 3) := by decide +kernel
theorem dX5_takeWord_20 : decode cX5_takeWord 20 = .ok (.return_, 1) := by decide +kernel
theorem dX5_takeSign_0 : decode cX5_takeSign 0 = .ok (.aload_n 0, 1) := by decide +kernel
theorem dX5_takeSign_1 : decode cX5_takeSign 1 = .ok (.iload_n 1, 1) := by decide +kernel
theorem dX5_takeSign_2 : decode cX5_takeSign 2 = .ok (.invokevirtual 79, 3) := by decide +kernel
theorem dX5_takeSign_5 : decode cX5_takeSign 5 = .ok (.ifCond .eq 10, 3) := by decide +kernel
theorem dX5_takeSign_8 : decode cX5_takeSign 8 = .ok (.aload_n 0, 1) := by decide +kernel
theorem dX5_takeSign_9 : decode cX5_takeSign 9 = .ok (.invokevirtual 37, 3) := by decide +kernel
theorem dX5_takeSign_12 : decode cX5_takeSign 12 = .ok (.goto 8, 3) := by decide +kernel
theorem dX5_takeSign_15 : decode cX5_takeSign 15 = .ok (.aload_n 0, 1) := by decide +kernel
theorem dX5_takeSign_16 : decode cX5_takeSign 16 = .ok (.iconst 1, 1) := by decide +kernel
theorem dX5_takeSign_17 : decode cX5_takeSign 17 = .ok (.invokevirtual 75, 3) := by decide +kernel
theorem dX5_takeSign_20 : decode cX5_takeSign 20 = .ok (.return_, 1) := by decide +kernel
theorem dX5_takeNumber_0 : decode cX5_takeNumber 0 = .ok (.aload_n 0, 1) := by decide +kernel
theorem dX5_takeNumber_1 : decode cX5_takeNumber 1 = .ok (.getfield 47, 3) := by decide +kernel
theorem dX5_takeNumber_4 : decode cX5_takeNumber 4 = .ok (.istore_n 3, 1) := by decide +kernel
theorem dX5_takeNumber_5 : decode cX5_takeNumber 5 = .ok (.aload_n 0, 1) := by decide +kernel
theorem dX5_takeNumber_6 : decode cX5_takeNumber 6 = .ok (.getfield 50, 3) := by decide +kernel
theorem dX5_takeNumber_9 : decode cX5_takeNumber 9 = .ok (.iconst 2, 1) := by decide +kernel
theorem dX5_takeNumber_10 : decode cX5_takeNumber 10 = .ok (.if_icmp .eq 10, 3) := by decide +kernel
theorem dX5_takeNumber_13 : decode cX5_takeNumber 13 = .ok (.aload_n 0, 1) := by decide +kernel
theorem dX5_takeNumber_14 : decode cX5_takeNumber 14 = .ok (.iconst 1, 1) := by decide +kernel
theorem dX5_takeNumber_15 : decode cX5_takeNumber 15 = .ok (.invokevirtual 75, 3) := by decide +kernel
theorem dX5_takeNumber_18 : decode cX5_takeNumber 18 = .ok (.iload_n 1, 1) := by decide +kernel
theorem dX5_takeNumber_19 : decode cX5_takeNumber 19 = .ok (.ireturn, 1) := by decide +kernel
theorem dX5_takeNumber_20 : decode cX5_takeNumber 20 = .ok (.iload_n 3, 1) := by decide +kernel
theorem dX5_takeNumber_21 : decode cX5_takeNumber 21 = .ok (.iload_n 1, 1) := by decide +kernel
theorem dX5_takeNumber_22 : decode cX5_takeNumber 22 = .ok (.if_icmp .lt 8, 3) := by decide +kernel
theorem dX5_takeNumber_25 : decode cX5_takeNumber 25 = .ok (.iload_n 3, 1) := by decide +kernel
theorem dX5_takeNumber_26 : decode cX5_takeNumber 26 = .ok (.iload_n 2, 1) := by decide +kernel
theorem dX5_takeNumber_27 : decode cX5_takeNumber 27 = .ok (.if_icmp .le 10, 3) := by decide +kernel
theorem dX5_takeNumber_30 : decode cX5_takeNumber 30 = .ok (.aload_n 0, 1) := by decide +kernel
theorem dX5_takeNumber_31 : decode cX5_takeNumber 31 = .ok (.iconst 2, 1) := by decide +kernel
theorem dX5_takeNumber_32 : decode cX5_takeNumber 32 = .ok (.invokevirtual 75, 3) := by decide +kernel
theorem dX5_takeNumber_35 : decode cX5_takeNumber 35 = .ok (.iload_n 1, 1) := by decide +kernel
theorem dX5_takeNumber_36 : decode cX5_takeNumber 36 = .ok (.ireturn, 1) := by decide +kernel
theorem dX5_takeNumber_37 : decode cX5_takeNumber 37 = .ok (.aload_n 0, 1) := by decide +kernel
theorem dX5_takeNumber_38 : decode cX5_takeNumber 38 = .ok (.invokevirtual 37, 3) := by decide +kernel
theorem dX5_takeNumber_41 : decode cX5_takeNumber 41 = .ok (.iload_n 3, 1) := by decide +kernel
theorem dX5_takeNumber_42 : decode cX5_takeNumber 42 = .ok (.ireturn, 1) := by decide +kernel
theorem dX5_takeSigned_0 : decode cX5_takeSigned 0 = .ok (.aload_n 0, 1) := by decide +kernel
theorem dX5_takeSigned_1 : decode cX5_takeSigned 1 = .ok (.bipush 45, 2) := by decide +kernel
theorem dX5_takeSigned_3 : decode cX5_takeSigned 3 = .ok (.invokevirtual 79, 3) := by decide +kernel
theorem dX5_takeSigned_6 : decode cX5_takeSigned 6 = .ok (.istore_n 1, 1) := by decide +kernel
theorem dX5_takeSigned_7 : decode cX5_takeSigned 7 = .ok (.iload_n 1, 1) := by decide +kernel
theorem dX5_takeSigned_8 : decode cX5_takeSigned 8 = .ok (.ifCond .eq 7, 3) := by decide +kernel
theorem dX5_takeSigned_11 : decode cX5_takeSigned 11 = .ok (.aload_n 0, 1) := by decide +kernel
theorem dX5_takeSigned_12 : decode cX5_takeSigned 12 = .ok (.invokevirtual 37, 3) := by decide +kernel
theorem dX5_takeSigned_15 : decode cX5_takeSigned 15 = .ok (.aload_n 0, 1) := by decide +kernel
theorem dX5_takeSigned_16 : decode cX5_takeSigned 16 = .ok (.iconst 0, 1) := by decide +kernel
theorem dX5_takeSigned_17 : decode cX5_takeSigned 17 = .ok (.sipush 9999, 3) := by decide +kernel
theorem dX5_takeSigned_20 : decode cX5_takeSigned 20 = .ok (.invokevirtual 83, 3) := by decide +kernel
theorem dX5_takeSigned_23 : decode cX5_takeSigned 23 = .ok (.istore_n 2, 1) := by decide +kernel
theorem dX5_takeSigned_24 : decode cX5_takeSigned 24 = .ok (.iload_n 1, 1) := by decide +kernel
theorem dX5_takeSigned_25 : decode cX5_takeSigned 25 = .ok (.ifCond .eq 8, 3) := by decide +kernel
theorem dX5_takeSigned_28 : decode cX5_takeSigned 28 = .ok (.iload_n 2, 1) := by decide +kernel
theorem dX5_takeSigned_29 : decode cX5_takeSigned 29 = .ok (.ineg, 1) := by decide +kernel
theorem dX5_takeSigned_30 : decode cX5_takeSigned 30 = .ok (.goto 4, 3) := by decide +kernel
theorem dX5_takeSigned_33 : decode cX5_takeSigned 33 = .ok (.iload_n 2, 1) := by decide +kernel
theorem dX5_takeSigned_34 : decode cX5_takeSigned 34 = .ok (.ireturn, 1) := by decide +kernel
theorem dX6_init_0 : decode cX6_init 0 = .ok (.aload_n 0, 1) := by decide +kernel
theorem dX6_init_1 : decode cX6_init 1 = .ok (.invokespecial 3, 3) := by decide +kernel
theorem dX6_init_4 : decode cX6_init 4 = .ok (.return_, 1) := by decide +kernel
theorem dX6_stand_0 : decode cX6_stand 0 = .ok (.aload_n 0, 1) := by decide +kernel
theorem dX6_stand_1 : decode cX6_stand 1 = .ok (.iload_n 1, 1) := by decide +kernel
theorem dX6_stand_2 : decode cX6_stand 2 = .ok (.putfield 9, 3) := by decide +kernel
theorem dX6_stand_5 : decode cX6_stand 5 = .ok (.aload_n 0, 1) := by decide +kernel
theorem dX6_stand_6 : decode cX6_stand 6 = .ok (.iload_n 2, 1) := by decide +kernel
theorem dX6_stand_7 : decode cX6_stand 7 = .ok (.putfield 15, 3) := by decide +kernel
theorem dX6_stand_10 : decode cX6_stand 10 = .ok (.aload_n 0, 1) := by decide +kernel
theorem dX6_stand_11 : decode cX6_stand 11 = .ok (.iconst 0, 1) := by decide +kernel
theorem dX6_stand_12 : decode cX6_stand 12 = .ok (.putfield 18, 3) := by decide +kernel
theorem dX6_stand_15 : decode cX6_stand 15 = .ok (.aload_n 0, 1) := by decide +kernel
theorem dX6_stand_16 : decode cX6_stand 16 = .ok (.iconst 0, 1) := by decide +kernel
theorem dX6_stand_17 : decode cX6_stand 17 = .ok (.putfield 21, 3) := by decide +kernel
theorem dX6_stand_20 : decode cX6_stand 20 = .ok (.return_, 1) := by decide +kernel
theorem dX6_shape_0 : decode cX6_shape 0 = .ok (.aload_n 0, 1) := by decide +kernel
theorem dX6_shape_1 : decode cX6_shape 1 = .ok (.iload_n 1, 1) := by decide +kernel
theorem dX6_shape_2 : decode cX6_shape 2 = .ok (.putfield 24, 3) := by decide +kernel
theorem dX6_shape_5 : decode cX6_shape 5 = .ok (.aload_n 0, 1) := by decide +kernel
theorem dX6_shape_6 : decode cX6_shape 6 = .ok (.iload_n 2, 1) := by decide +kernel
theorem dX6_shape_7 : decode cX6_shape 7 = .ok (.putfield 27, 3) := by decide +kernel
theorem dX6_shape_10 : decode cX6_shape 10 = .ok (.aload_n 0, 1) := by decide +kernel
theorem dX6_shape_11 : decode cX6_shape 11 = .ok (.iload_n 3, 1) := by decide +kernel
theorem dX6_shape_12 : decode cX6_shape 12 = .ok (.putfield 30, 3) := by decide +kernel
theorem dX6_shape_15 : decode cX6_shape 15 = .ok (.return_, 1) := by decide +kernel
theorem dX6_copyFrom_0 : decode cX6_copyFrom 0 = .ok (.aload_n 0, 1) := by decide +kernel
theorem dX6_copyFrom_1 : decode cX6_copyFrom 1 = .ok (.aload_n 1, 1) := by decide +kernel
theorem dX6_copyFrom_2 : decode cX6_copyFrom 2 = .ok (.getfield 9, 3) := by decide +kernel
theorem dX6_copyFrom_5 : decode cX6_copyFrom 5 = .ok (.aload_n 1, 1) := by decide +kernel
theorem dX6_copyFrom_6 : decode cX6_copyFrom 6 = .ok (.getfield 15, 3) := by decide +kernel
theorem dX6_copyFrom_9 : decode cX6_copyFrom 9 = .ok (.invokevirtual 33, 3) := by decide +kernel
theorem dX6_copyFrom_12 : decode cX6_copyFrom 12 = .ok (.aload_n 0, 1) := by decide +kernel
theorem dX6_copyFrom_13 : decode cX6_copyFrom 13 = .ok (.aload_n 1, 1) := by decide +kernel
theorem dX6_copyFrom_14 : decode cX6_copyFrom 14 = .ok (.getfield 24, 3) := by decide +kernel
theorem dX6_copyFrom_17 : decode cX6_copyFrom 17 = .ok (.aload_n 1, 1) := by decide +kernel
theorem dX6_copyFrom_18 : decode cX6_copyFrom 18 = .ok (.getfield 27, 3) := by decide +kernel
theorem dX6_copyFrom_21 : decode cX6_copyFrom 21 = .ok (.aload_n 1, 1) := by decide +kernel
theorem dX6_copyFrom_22 : decode cX6_copyFrom 22 = .ok (.getfield 30, 3) := by decide +kernel
theorem dX6_copyFrom_25 : decode cX6_copyFrom 25 = .ok (.invokevirtual 37, 3) := by decide +kernel
theorem dX6_copyFrom_28 : decode cX6_copyFrom 28 = .ok (.aload_n 0, 1) := by decide +kernel
theorem dX6_copyFrom_29 : decode cX6_copyFrom 29 = .ok (.aload_n 1, 1) := by decide +kernel
theorem dX6_copyFrom_30 : decode cX6_copyFrom 30 = .ok (.getfield 18, 3) := by decide +kernel
theorem dX6_copyFrom_33 : decode cX6_copyFrom 33 = .ok (.putfield 18, 3) := by decide +kernel
theorem dX6_copyFrom_36 : decode cX6_copyFrom 36 = .ok (.aload_n 0, 1) := by decide +kernel
theorem dX6_copyFrom_37 : decode cX6_copyFrom 37 = .ok (.aload_n 1, 1) := by decide +kernel
theorem dX6_copyFrom_38 : decode cX6_copyFrom 38 = .ok (.getfield 21, 3) := by decide +kernel
theorem dX6_copyFrom_41 : decode cX6_copyFrom 41 = .ok (.putfield 21, 3) := by decide +kernel
theorem dX6_copyFrom_44 : decode cX6_copyFrom 44 = .ok (.aload_n 0, 1) := by decide +kernel
theorem dX6_copyFrom_45 : decode cX6_copyFrom 45 = .ok (.aload_n 1, 1) := by decide +kernel
theorem dX6_copyFrom_46 : decode cX6_copyFrom 46 = .ok (.getfield 41, 3) := by decide +kernel
theorem dX6_copyFrom_49 : decode cX6_copyFrom 49 = .ok (.putfield 41, 3) := by decide +kernel
theorem dX6_copyFrom_52 : decode cX6_copyFrom 52 = .ok (.aload_n 0, 1) := by decide +kernel
theorem dX6_copyFrom_53 : decode cX6_copyFrom 53 = .ok (.aload_n 1, 1) := by decide +kernel
theorem dX6_copyFrom_54 : decode cX6_copyFrom 54 = .ok (.getfield 44, 3) := by decide +kernel
theorem dX6_copyFrom_57 : decode cX6_copyFrom 57 = .ok (.putfield 44, 3) := by decide +kernel
theorem dX6_copyFrom_60 : decode cX6_copyFrom 60 = .ok (.aload_n 0, 1) := by decide +kernel
theorem dX6_copyFrom_61 : decode cX6_copyFrom 61 = .ok (.aload_n 1, 1) := by decide +kernel
theorem dX6_copyFrom_62 : decode cX6_copyFrom 62 = .ok (.getfield 47, 3) := by decide +kernel
theorem dX6_copyFrom_65 : decode cX6_copyFrom 65 = .ok (.putfield 47, 3) := by decide +kernel
theorem dX6_copyFrom_68 : decode cX6_copyFrom 68 = .ok (.return_, 1) := by decide +kernel
theorem dX6_fullColumn_0 : decode cX6_fullColumn 0 = .ok (.bipush 100, 2) := by decide +kernel
theorem dX6_fullColumn_2 : decode cX6_fullColumn 2 = .ok (.aload_n 0, 1) := by decide +kernel
theorem dX6_fullColumn_3 : decode cX6_fullColumn 3 = .ok (.getfield 30, 3) := by decide +kernel
theorem dX6_fullColumn_6 : decode cX6_fullColumn 6 = .ok (.imul, 1) := by decide +kernel
theorem dX6_fullColumn_7 : decode cX6_fullColumn 7 = .ok (.ireturn, 1) := by decide +kernel
theorem dX6_fullVolume_0 : decode cX6_fullVolume 0 = .ok (.aload_n 0, 1) := by decide +kernel
theorem dX6_fullVolume_1 : decode cX6_fullVolume 1 = .ok (.invokevirtual 50, 3) := by decide +kernel
theorem dX6_fullVolume_4 : decode cX6_fullVolume 4 = .ok (.i2l, 1) := by decide +kernel
theorem dX6_fullVolume_5 : decode cX6_fullVolume 5 = .ok (.aload_n 0, 1) := by decide +kernel
theorem dX6_fullVolume_6 : decode cX6_fullVolume 6 = .ok (.getfield 24, 3) := by decide +kernel
theorem dX6_fullVolume_9 : decode cX6_fullVolume 9 = .ok (.i2l, 1) := by decide +kernel
theorem dX6_fullVolume_10 : decode cX6_fullVolume 10 = .ok (.lmul, 1) := by decide +kernel
theorem dX6_fullVolume_11 : decode cX6_fullVolume 11 = .ok (.aload_n 0, 1) := by decide +kernel
theorem dX6_fullVolume_12 : decode cX6_fullVolume 12 = .ok (.getfield 24, 3) := by decide +kernel
theorem dX6_fullVolume_15 : decode cX6_fullVolume 15 = .ok (.i2l, 1) := by decide +kernel
theorem dX6_fullVolume_16 : decode cX6_fullVolume 16 = .ok (.lmul, 1) := by decide +kernel
theorem dX6_fullVolume_17 : decode cX6_fullVolume 17 = .ok (.lreturn, 1) := by decide +kernel
theorem dX6_runAt_0 : decode cX6_runAt 0 = .ok (.aload_n 0, 1) := by decide +kernel
theorem dX6_runAt_1 : decode cX6_runAt 1 = .ok (.getfield 27, 3) := by decide +kernel
theorem dX6_runAt_4 : decode cX6_runAt 4 = .ok (.ifCond .ne 7, 3) := by decide +kernel
theorem dX6_runAt_7 : decode cX6_runAt 7 = .ok (.lconst 0, 1) := by decide +kernel
theorem dX6_runAt_8 : decode cX6_runAt 8 = .ok (.goto 26, 3) := by decide +kernel
theorem dX6_runAt_11 : decode cX6_runAt 11 = .ok (.lload_n 1, 1) := by decide +kernel
theorem dX6_runAt_12 : decode cX6_runAt 12 = .ok (.aload_n 0, 1) := by decide +kernel
theorem dX6_runAt_13 : decode cX6_runAt 13 = .ok (.getfield 41, 3) := by decide +kernel
theorem dX6_runAt_16 : decode cX6_runAt 16 = .ok (.i2l, 1) := by decide +kernel
theorem dX6_runAt_17 : decode cX6_runAt 17 = .ok (.ladd, 1) := by decide +kernel
theorem dX6_runAt_18 : decode cX6_runAt 18 = .ok (.aload_n 0, 1) := by decide +kernel
theorem dX6_runAt_19 : decode cX6_runAt 19 = .ok (.getfield 44, 3) := by decide +kernel
theorem dX6_runAt_22 : decode cX6_runAt 22 = .ok (.i2l, 1) := by decide +kernel
theorem dX6_runAt_23 : decode cX6_runAt 23 = .ok (.ladd, 1) := by decide +kernel
theorem dX6_runAt_24 : decode cX6_runAt 24 = .ok (.ldc2_w 54, 3) := by decide +kernel
theorem dX6_runAt_27 : decode cX6_runAt 27 = .ok (.lmul, 1) := by decide +kernel
theorem dX6_runAt_28 : decode cX6_runAt 28 = .ok (.aload_n 0, 1) := by decide +kernel
theorem dX6_runAt_29 : decode cX6_runAt 29 = .ok (.getfield 27, 3) := by decide +kernel
theorem dX6_runAt_32 : decode cX6_runAt 32 = .ok (.i2l, 1) := by decide +kernel
theorem dX6_runAt_33 : decode cX6_runAt 33 = .ok (.ldiv, 1) := by decide +kernel
theorem dX6_runAt_34 : decode cX6_runAt 34 = .ok (.lreturn, 1) := by decide +kernel
theorem dX6_columnAt_0 : decode cX6_columnAt 0 = .ok (.aload_n 0, 1) := by decide +kernel
theorem dX6_columnAt_1 : decode cX6_columnAt 1 = .ok (.getfield 21, 3) := by decide +kernel
theorem dX6_columnAt_4 : decode cX6_columnAt 4 = .ok (.ifCond .ne 23, 3) := by decide +kernel
theorem dX6_columnAt_7 : decode cX6_columnAt 7 = .ok (.lconst 0, 1) := by decide +kernel
theorem dX6_columnAt_8 : decode cX6_columnAt 8 = .ok (.aload_n 0, 1) := by decide +kernel
theorem dX6_columnAt_9 : decode cX6_columnAt 9 = .ok (.invokevirtual 50, 3) := by decide +kernel
theorem dX6_columnAt_12 : decode cX6_columnAt 12 = .ok (.i2l, 1) := by decide +kernel
theorem dX6_columnAt_13 : decode cX6_columnAt 13 = .ok (.aload_n 0, 1) := by decide +kernel
theorem dX6_columnAt_14 : decode cX6_columnAt 14 = .ok (.lload_n 1, 1) := by decide +kernel
theorem dX6_columnAt_15 : decode cX6_columnAt 15 = .ok (.invokevirtual 56, 3) := by decide +kernel
theorem dX6_columnAt_18 : decode cX6_columnAt 18 = .ok (.invokestatic 60, 3) := by decide +kernel
theorem dX6_columnAt_21 : decode cX6_columnAt 21 = .ok (.invokestatic 66, 3) := by decide +kernel
theorem dX6_columnAt_24 : decode cX6_columnAt 24 = .ok (.goto 4, 3) := by decide +kernel
theorem dX6_columnAt_27 : decode cX6_columnAt 27 = .ok (.lconst 0, 1) := by decide +kernel
theorem dX6_columnAt_28 : decode cX6_columnAt 28 = .ok (.lreturn, 1) := by decide +kernel
theorem dX6_shownReading_0 : decode cX6_shownReading 0 = .ok (.aload_n 0, 1) := by decide +kernel
theorem dX6_shownReading_1 : decode cX6_shownReading 1 = .ok (.getfield 47, 3) := by decide +kernel
theorem dX6_shownReading_4 : decode cX6_shownReading 4 = .ok (.bipush 10, 2) := by decide +kernel
theorem dX6_shownReading_6 : decode cX6_shownReading 6 = .ok (.idiv, 1) := by decide +kernel
theorem dX6_shownReading_7 : decode cX6_shownReading 7 = .ok (.aload_n 0, 1) := by decide +kernel
theorem dX6_shownReading_8 : decode cX6_shownReading 8 = .ok (.getfield 18, 3) := by decide +kernel
theorem dX6_shownReading_11 : decode cX6_shownReading 11 = .ok (.iadd, 1) := by decide +kernel
theorem dX6_shownReading_12 : decode cX6_shownReading 12 = .ok (.ireturn, 1) := by decide +kernel
theorem dX7_init_0 : decode cX7_init 0 = .ok (.aload_n 0, 1) := by decide +kernel
theorem dX7_init_1 : decode cX7_init 1 = .ok (.invokespecial 1, 3) := by decide +kernel
theorem dX7_init_4 : decode cX7_init 4 = .ok (.aload_n 0, 1) := by decide +kernel
theorem dX7_init_5 : decode cX7_init 5 = .ok (.new 7, 3) := by decide +kernel
theorem dX7_init_8 : decode cX7_init 8 = .ok (.dup, 1) := by decide +kernel
theorem dX7_init_9 : decode cX7_init 9 = .ok (.invokespecial 9, 3) := by decide +kernel
theorem dX7_init_12 : decode cX7_init 12 = .ok (.putfield 10, 3) := by decide +kernel
theorem dX7_init_15 : decode cX7_init 15 = .ok (.aload_n 0, 1) := by decide +kernel
theorem dX7_init_16 : decode cX7_init 16 = .ok (.new 7, 3) := by decide +kernel
theorem dX7_init_19 : decode cX7_init 19 = .ok (.dup, 1) := by decide +kernel
theorem dX7_init_20 : decode cX7_init 20 = .ok (.invokespecial 9, 3) := by decide +kernel
theorem dX7_init_23 : decode cX7_init 23 = .ok (.putfield 16, 3) := by decide +kernel
theorem dX7_init_26 : decode cX7_init 26 = .ok (.aload_n 0, 1) := by decide +kernel
theorem dX7_init_27 : decode cX7_init 27 = .ok (.new 7, 3) := by decide +kernel
theorem dX7_init_30 : decode cX7_init 30 = .ok (.dup, 1) := by decide +kernel
theorem dX7_init_31 : decode cX7_init 31 = .ok (.invokespecial 9, 3) := by decide +kernel
theorem dX7_init_34 : decode cX7_init 34 = .ok (.putfield 19, 3) := by decide +kernel
theorem dX7_init_37 : decode cX7_init 37 = .ok (.aload_n 0, 1) := by decide +kernel
theorem dX7_init_38 : decode cX7_init 38 = .ok (.new 22, 3) := by decide +kernel
theorem dX7_init_41 : decode cX7_init 41 = .ok (.dup, 1) := by decide +kernel
theorem dX7_init_42 : decode cX7_init 42 = .ok (.invokespecial 24, 3) := by decide +kernel
theorem dX7_init_45 : decode cX7_init 45 = .ok (.putfield 25, 3) := by decide +kernel
theorem dX7_init_48 : decode cX7_init 48 = .ok (.aload_n 0, 1) := by decide +kernel
theorem dX7_init_49 : decode cX7_init 49 = .ok (.new 29, 3) := by decide +kernel
theorem dX7_init_52 : decode cX7_init 52 = .ok (.dup, 1) := by decide +kernel
theorem dX7_init_53 : decode cX7_init 53 = .ok (.invokespecial 31, 3) := by decide +kernel
theorem dX7_init_56 : decode cX7_init 56 = .ok (.putfield 32, 3) := by decide +kernel
theorem dX7_init_59 : decode cX7_init 59 = .ok (.aload_n 0, 1) := by decide +kernel
theorem dX7_init_60 : decode cX7_init 60 = .ok (.new 36, 3) := by decide +kernel
theorem dX7_init_63 : decode cX7_init 63 = .ok (.dup, 1) := by decide +kernel
theorem dX7_init_64 : decode cX7_init 64 = .ok (.invokespecial 38, 3) := by decide +kernel
theorem dX7_init_67 : decode cX7_init 67 = .ok (.putfield 39, 3) := by decide +kernel
theorem dX7_init_70 : decode cX7_init 70 = .ok (.aload_n 0, 1) := by decide +kernel
theorem dX7_init_71 : decode cX7_init 71 = .ok (.getfield 10, 3) := by decide +kernel
theorem dX7_init_74 : decode cX7_init 74 = .ok (.iconst 2, 1) := by decide +kernel
theorem dX7_init_75 : decode cX7_init 75 = .ok (.ldc 43, 2) := by decide +kernel
theorem dX7_init_77 : decode cX7_init 77 = .ok (.invokevirtual 44, 3) := by decide +kernel
theorem dX7_init_80 : decode cX7_init 80 = .ok (.return_, 1) := by decide +kernel
theorem dX7_feed_0 : decode cX7_feed 0 = .ok (.aload_n 0, 1) := by decide +kernel
theorem dX7_feed_1 : decode cX7_feed 1 = .ok (.getfield 32, 3) := by decide +kernel
theorem dX7_feed_4 : decode cX7_feed 4 = .ok (.bipush 20, 2) := by decide +kernel
theorem dX7_feed_6 : decode cX7_feed 6 = .ok (.invokevirtual 48, 3) := by decide +kernel
theorem dX7_feed_9 : decode cX7_feed 9 = .ok (.ifCond .ne 5, 3) := by decide +kernel
theorem dX7_feed_12 : decode cX7_feed 12 = .ok (.iconst (-1), 1) := by decide +kernel
theorem dX7_feed_13 : decode cX7_feed 13 = .ok (.ireturn, 1) := by decide +kernel
theorem dX7_feed_14 : decode cX7_feed 14 = .ok (.aload_n 0, 1) := by decide +kernel
theorem dX7_feed_15 : decode cX7_feed 15 = .ok (.getfield 32, 3) := by decide +kernel
theorem dX7_feed_18 : decode cX7_feed 18 = .ok (.iload_n 1, 1) := by decide +kernel
theorem dX7_feed_19 : decode cX7_feed 19 = .ok (.invokevirtual 52, 3) := by decide +kernel
theorem dX7_feed_22 : decode cX7_feed 22 = .ok (.aload_n 0, 1) := by decide +kernel
theorem dX7_feed_23 : decode cX7_feed 23 = .ok (.getfield 32, 3) := by decide +kernel
theorem dX7_feed_26 : decode cX7_feed 26 = .ok (.iload_n 2, 1) := by decide +kernel
theorem dX7_feed_27 : decode cX7_feed 27 = .ok (.invokevirtual 52, 3) := by decide +kernel
theorem dX7_feed_30 : decode cX7_feed 30 = .ok (.aload_n 0, 1) := by decide +kernel
theorem dX7_feed_31 : decode cX7_feed 31 = .ok (.getfield 32, 3) := by decide +kernel
theorem dX7_feed_34 : decode cX7_feed 34 = .ok (.iload_n 3, 1) := by decide +kernel
theorem dX7_feed_35 : decode cX7_feed 35 = .ok (.invokevirtual 52, 3) := by decide +kernel
theorem dX7_feed_38 : decode cX7_feed 38 = .ok (.aload_n 0, 1) := by decide +kernel
theorem dX7_feed_39 : decode cX7_feed 39 = .ok (.getfield 32, 3) := by decide +kernel
theorem dX7_feed_42 : decode cX7_feed 42 = .ok (.iload 4, 2) := by decide +kernel
theorem dX7_feed_44 : decode cX7_feed 44 = .ok (.invokevirtual 52, 3) := by decide +kernel
theorem dX7_feed_47 : decode cX7_feed 47 = .ok (.aload_n 0, 1) := by decide +kernel
theorem dX7_feed_48 : decode cX7_feed 48 = .ok (.getfield 32, 3) := by decide +kernel
theorem dX7_feed_51 : decode cX7_feed 51 = .ok (.iload 5, 2) := by decide +kernel
theorem dX7_feed_53 : decode cX7_feed 53 = .ok (.invokevirtual 52, 3) := by decide +kernel
theorem dX7_feed_56 : decode cX7_feed 56 = .ok (.aload_n 0, 1) := by decide +kernel
theorem dX7_feed_57 : decode cX7_feed 57 = .ok (.getfield 32, 3) := by decide +kernel
theorem dX7_feed_60 : decode cX7_feed 60 = .ok (.getfield 56, 3) := by decide +kernel
theorem dX7_feed_63 : decode cX7_feed 63 = .ok (.ireturn, 1) := by decide +kernel
theorem dX7_load_0 : decode cX7_load 0 = .ok (.iload_n 1, 1) := by decide +kernel
theorem dX7_load_1 : decode cX7_load 1 = .ok (.iconst 0, 1) := by decide +kernel
theorem dX7_load_2 : decode cX7_load 2 = .ok (.aload_n 0, 1) := by decide +kernel
theorem dX7_load_3 : decode cX7_load 3 = .ok (.getfield 32, 3) := by decide +kernel
theorem dX7_load_6 : decode cX7_load 6 = .ok (.getfield 56, 3) := by decide +kernel
theorem dX7_load_9 : decode cX7_load 9 = .ok (.invokestatic 60, 3) := by decide +kernel
theorem dX7_load_12 : decode cX7_load 12 = .ok (.aload_n 0, 1) := by decide +kernel
theorem dX7_load_13 : decode cX7_load 13 = .ok (.getfield 32, 3) := by decide +kernel
theorem dX7_load_16 : decode cX7_load 16 = .ok (.iload_n 1, 1) := by decide +kernel
theorem dX7_load_17 : decode cX7_load 17 = .ok (.invokevirtual 64, 3) := by decide +kernel
theorem dX7_load_20 : decode cX7_load 20 = .ok (.new 67, 3) := by decide +kernel
theorem dX7_load_23 : decode cX7_load 23 = .ok (.dup, 1) := by decide +kernel
theorem dX7_load_24 : decode cX7_load 24 = .ok (.aload_n 0, 1) := by decide +kernel
theorem dX7_load_25 : decode cX7_load 25 = .ok (.getfield 32, 3) := by decide +kernel
theorem dX7_load_28 : decode cX7_load 28 = .ok (.aload_n 0, 1) := by decide +kernel
theorem dX7_load_29 : decode cX7_load 29 = .ok (.getfield 16, 3) := by decide +kernel
theorem dX7_load_32 : decode cX7_load 32 = .ok (.invokespecial 69, 3) := by decide +kernel
theorem dX7_load_35 : decode cX7_load 35 = .ok (.astore_n 2, 1) := by decide +kernel
theorem dX7_load_36 : decode cX7_load 36 = .ok (.aload_n 2, 1) := by decide +kernel
theorem dX7_load_37 : decode cX7_load 37 = .ok (.invokevirtual 72, 3) := by decide +kernel
theorem dX7_load_40 : decode cX7_load 40 = .ok (.aload_n 0, 1) := by decide +kernel
theorem dX7_load_41 : decode cX7_load 41 = .ok (.getfield 32, 3) := by decide +kernel
theorem dX7_load_44 : decode cX7_load 44 = .ok (.invokevirtual 75, 3) := by decide +kernel
theorem dX7_load_47 : decode cX7_load 47 = .ok (.aload_n 0, 1) := by decide +kernel
theorem dX7_load_48 : decode cX7_load 48 = .ok (.getfield 32, 3) := by decide +kernel
theorem dX7_load_51 : decode cX7_load 51 = .ok (.getfield 78, 3) := by decide +kernel
theorem dX7_load_54 : decode cX7_load 54 = .ok (.ifCond .eq 14, 3) := by decide +kernel
theorem dX7_load_57 : decode cX7_load 57 = .ok (.bipush (-10), 2) := by decide +kernel
theorem dX7_load_59 : decode cX7_load 59 = .ok (.aload_n 0, 1) := by decide +kernel
theorem dX7_load_60 : decode cX7_load 60 = .ok (.getfield 32, 3) := by decide +kernel
theorem dX7_load_63 : decode cX7_load 63 = .ok (.getfield 78, 3) := by decide +kernel
theorem dX7_load_66 : decode cX7_load 66 = .ok (.isub, 1) := by decide +kernel
theorem dX7_load_67 : decode cX7_load 67 = .ok (.ireturn, 1) := by decide +kernel
theorem dX7_load_68 : decode cX7_load 68 = .ok (.aload_n 0, 1) := by decide +kernel
theorem dX7_load_69 : decode cX7_load 69 = .ok (.getfield 10, 3) := by decide +kernel
theorem dX7_load_72 : decode cX7_load 72 = .ok (.aload_n 0, 1) := by decide +kernel
theorem dX7_load_73 : decode cX7_load 73 = .ok (.getfield 16, 3) := by decide +kernel
theorem dX7_load_76 : decode cX7_load 76 = .ok (.invokevirtual 81, 3) := by decide +kernel
theorem dX7_load_79 : decode cX7_load 79 = .ok (.aload_n 0, 1) := by decide +kernel
theorem dX7_load_80 : decode cX7_load 80 = .ok (.getfield 10, 3) := by decide +kernel
theorem dX7_load_83 : decode cX7_load 83 = .ok (.invokevirtual 85, 3) := by decide +kernel
theorem dX7_load_86 : decode cX7_load 86 = .ok (.pop, 1) := by decide +kernel
theorem dX7_load_87 : decode cX7_load 87 = .ok (.aload_n 0, 1) := by decide +kernel
theorem dX7_load_88 : decode cX7_load 88 = .ok (.getfield 25, 3) := by decide +kernel
theorem dX7_load_91 : decode cX7_load 91 = .ok (.invokevirtual 89, 3) := by decide +kernel
theorem dX7_load_94 : decode cX7_load 94 = .ok (.aload_n 0, 1) := by decide +kernel
theorem dX7_load_95 : decode cX7_load 95 = .ok (.iconst 0, 1) := by decide +kernel
theorem dX7_load_96 : decode cX7_load 96 = .ok (.putfield 91, 3) := by decide +kernel
theorem dX7_load_99 : decode cX7_load 99 = .ok (.aload_n 0, 1) := by decide +kernel
theorem dX7_load_100 : decode cX7_load 100 = .ok (.getfield 10, 3) := by decide +kernel
theorem dX7_load_103 : decode cX7_load 103 = .ok (.iconst 0, 1) := by decide +kernel
theorem dX7_load_104 : decode cX7_load 104 = .ok (.invokevirtual 95, 3) := by decide +kernel
theorem dX7_load_107 : decode cX7_load 107 = .ok (.ireturn, 1) := by decide +kernel
theorem dX7_errorPosition_0 : decode cX7_errorPosition 0 = .ok (.aload_n 0, 1) := by decide +kernel
theorem dX7_errorPosition_1 : decode cX7_errorPosition 1 = .ok (.getfield 32, 3) := by decide +kernel
theorem dX7_errorPosition_4 : decode cX7_errorPosition 4 = .ok (.getfield 99, 3) := by decide +kernel
theorem dX7_errorPosition_7 : decode cX7_errorPosition 7 = .ok (.ireturn, 1) := by decide +kernel
theorem dX7_size_0 : decode cX7_size 0 = .ok (.iload_n 1, 1) := by decide +kernel
theorem dX7_size_1 : decode cX7_size 1 = .ok (.tableswitch 116 0 7 #[47, 55, 63, 71, 80, 89, 98, 107], 47) := by decide +kernel
theorem dX7_size_48 : decode cX7_size 48 = .ok (.aload_n 0, 1) := by decide +kernel
theorem dX7_size_49 : decode cX7_size 49 = .ok (.getfield 10, 3) := by decide +kernel
theorem dX7_size_52 : decode cX7_size 52 = .ok (.getfield 102, 3) := by decide +kernel
theorem dX7_size_55 : decode cX7_size 55 = .ok (.ireturn, 1) := by decide +kernel
theorem dX7_size_56 : decode cX7_size 56 = .ok (.aload_n 0, 1) := by decide +kernel
theorem dX7_size_57 : decode cX7_size 57 = .ok (.getfield 10, 3) := by decide +kernel
theorem dX7_size_60 : decode cX7_size 60 = .ok (.getfield 105, 3) := by decide +kernel
theorem dX7_size_63 : decode cX7_size 63 = .ok (.ireturn, 1) := by decide +kernel
theorem dX7_size_64 : decode cX7_size 64 = .ok (.aload_n 0, 1) := by decide +kernel
theorem dX7_size_65 : decode cX7_size 65 = .ok (.getfield 10, 3) := by decide +kernel
theorem dX7_size_68 : decode cX7_size 68 = .ok (.getfield 108, 3) := by decide +kernel
theorem dX7_size_71 : decode cX7_size 71 = .ok (.ireturn, 1) := by decide +kernel
theorem dX7_size_72 : decode cX7_size 72 = .ok (.aload_n 0, 1) := by decide +kernel
theorem dX7_size_73 : decode cX7_size 73 = .ok (.getfield 10, 3) := by decide +kernel
theorem dX7_size_76 : decode cX7_size 76 = .ok (.iconst 0, 1) := by decide +kernel
theorem dX7_size_77 : decode cX7_size 77 = .ok (.invokevirtual 95, 3) := by decide +kernel
theorem dX7_size_80 : decode cX7_size 80 = .ok (.ireturn, 1) := by decide +kernel
theorem dX7_size_81 : decode cX7_size 81 = .ok (.aload_n 0, 1) := by decide +kernel
theorem dX7_size_82 : decode cX7_size 82 = .ok (.getfield 10, 3) := by decide +kernel
theorem dX7_size_85 : decode cX7_size 85 = .ok (.iconst 1, 1) := by decide +kernel
theorem dX7_size_86 : decode cX7_size 86 = .ok (.invokevirtual 95, 3) := by decide +kernel
theorem dX7_size_89 : decode cX7_size 89 = .ok (.ireturn, 1) := by decide +kernel
theorem dX7_size_90 : decode cX7_size 90 = .ok (.aload_n 0, 1) := by decide +kernel
theorem dX7_size_91 : decode cX7_size 91 = .ok (.getfield 10, 3) := by decide +kernel
theorem dX7_size_94 : decode cX7_size 94 = .ok (.iconst 2, 1) := by decide +kernel
theorem dX7_size_95 : decode cX7_size 95 = .ok (.invokevirtual 95, 3) := by decide +kernel
theorem dX7_size_98 : decode cX7_size 98 = .ok (.ireturn, 1) := by decide +kernel
theorem dX7_size_99 : decode cX7_size 99 = .ok (.aload_n 0, 1) := by decide +kernel
theorem dX7_size_100 : decode cX7_size 100 = .ok (.getfield 10, 3) := by decide +kernel
theorem dX7_size_103 : decode cX7_size 103 = .ok (.iconst 0, 1) := by decide +kernel
theorem dX7_size_104 : decode cX7_size 104 = .ok (.invokevirtual 111, 3) := by decide +kernel
theorem dX7_size_107 : decode cX7_size 107 = .ok (.ireturn, 1) := by decide +kernel
theorem dX7_size_108 : decode cX7_size 108 = .ok (.aload_n 0, 1) := by decide +kernel
theorem dX7_size_109 : decode cX7_size 109 = .ok (.getfield 10, 3) := by decide +kernel
theorem dX7_size_112 : decode cX7_size 112 = .ok (.iconst 1, 1) := by decide +kernel
theorem dX7_size_113 : decode cX7_size 113 = .ok (.invokevirtual 111, 3) := by decide +kernel
theorem dX7_size_116 : decode cX7_size 116 = .ok (.ireturn, 1) := by decide +kernel
theorem dX7_size_117 : decode cX7_size 117 = .ok (.new 114, 3) := by decide +kernel
theorem dX7_size_120 : decode cX7_size 120 = .ok (.dup, 1) := by decide +kernel
theorem dX7_size_121 : decode cX7_size 121 = .ok (.ldc 116, 2) := by decide +kernel
theorem dX7_size_123 : decode cX7_size 123 = .ok (.invokespecial 118, 3) := by decide +kernel
theorem dX7_size_126 : decode cX7_size 126 = .ok (.athrow, 1) := by decide +kernel
theorem dX7_pressure_0 : decode cX7_pressure 0 = .ok (.aload_n 0, 1) := by decide +kernel
theorem dX7_pressure_1 : decode cX7_pressure 1 = .ok (.iload_n 1, 1) := by decide +kernel
theorem dX7_pressure_2 : decode cX7_pressure 2 = .ok (.invokevirtual 121, 3) := by decide +kernel
theorem dX7_pressure_5 : decode cX7_pressure 5 = .ok (.aload_n 0, 1) := by decide +kernel
theorem dX7_pressure_6 : decode cX7_pressure 6 = .ok (.getfield 10, 3) := by decide +kernel
theorem dX7_pressure_9 : decode cX7_pressure 9 = .ok (.iload_n 1, 1) := by decide +kernel
theorem dX7_pressure_10 : decode cX7_pressure 10 = .ok (.invokevirtual 124, 3) := by decide +kernel
theorem dX7_pressure_13 : decode cX7_pressure 13 = .ok (.ireturn, 1) := by decide +kernel
theorem dX7_leg_0 : decode cX7_leg 0 = .ok (.iload_n 1, 1) := by decide +kernel
theorem dX7_leg_1 : decode cX7_leg 1 = .ok (.invokestatic 127, 3) := by decide +kernel
theorem dX7_leg_4 : decode cX7_leg 4 = .ok (.aload_n 0, 1) := by decide +kernel
theorem dX7_leg_5 : decode cX7_leg 5 = .ok (.getfield 10, 3) := by decide +kernel
theorem dX7_leg_8 : decode cX7_leg 8 = .ok (.iload_n 1, 1) := by decide +kernel
theorem dX7_leg_9 : decode cX7_leg 9 = .ok (.invokevirtual 130, 3) := by decide +kernel
theorem dX7_leg_12 : decode cX7_leg 12 = .ok (.astore_n 3, 1) := by decide +kernel
theorem dX7_leg_13 : decode cX7_leg 13 = .ok (.iload_n 2, 1) := by decide +kernel
theorem dX7_leg_14 : decode cX7_leg 14 = .ok (.tableswitch 51 0 3 #[30, 35, 40, 45], 30) := by decide +kernel
theorem dX7_leg_44 : decode cX7_leg 44 = .ok (.aload_n 3, 1) := by decide +kernel
theorem dX7_leg_45 : decode cX7_leg 45 = .ok (.getfield 134, 3) := by decide +kernel
theorem dX7_leg_48 : decode cX7_leg 48 = .ok (.ireturn, 1) := by decide +kernel
theorem dX7_leg_49 : decode cX7_leg 49 = .ok (.aload_n 3, 1) := by decide +kernel
theorem dX7_leg_50 : decode cX7_leg 50 = .ok (.getfield 139, 3) := by decide +kernel
theorem dX7_leg_53 : decode cX7_leg 53 = .ok (.ireturn, 1) := by decide +kernel
theorem dX7_leg_54 : decode cX7_leg 54 = .ok (.aload_n 3, 1) := by decide +kernel
theorem dX7_leg_55 : decode cX7_leg 55 = .ok (.getfield 142, 3) := by decide +kernel
theorem dX7_leg_58 : decode cX7_leg 58 = .ok (.ireturn, 1) := by decide +kernel
theorem dX7_leg_59 : decode cX7_leg 59 = .ok (.aload_n 3, 1) := by decide +kernel
theorem dX7_leg_60 : decode cX7_leg 60 = .ok (.getfield 145, 3) := by decide +kernel
theorem dX7_leg_63 : decode cX7_leg 63 = .ok (.l2i, 1) := by decide +kernel
theorem dX7_leg_64 : decode cX7_leg 64 = .ok (.ireturn, 1) := by decide +kernel
theorem dX7_leg_65 : decode cX7_leg 65 = .ok (.new 114, 3) := by decide +kernel
theorem dX7_leg_68 : decode cX7_leg 68 = .ok (.dup, 1) := by decide +kernel
theorem dX7_leg_69 : decode cX7_leg 69 = .ok (.ldc 149, 2) := by decide +kernel
theorem dX7_leg_71 : decode cX7_leg 71 = .ok (.invokespecial 118, 3) := by decide +kernel
theorem dX7_leg_74 : decode cX7_leg 74 = .ok (.athrow, 1) := by decide +kernel
theorem dX7_account_0 : decode cX7_account 0 = .ok (.iload_n 1, 1) := by decide +kernel
theorem dX7_account_1 : decode cX7_account 1 = .ok (.invokestatic 127, 3) := by decide +kernel
theorem dX7_account_4 : decode cX7_account 4 = .ok (.aload_n 0, 1) := by decide +kernel
theorem dX7_account_5 : decode cX7_account 5 = .ok (.getfield 10, 3) := by decide +kernel
theorem dX7_account_8 : decode cX7_account 8 = .ok (.iload_n 1, 1) := by decide +kernel
theorem dX7_account_9 : decode cX7_account 9 = .ok (.invokevirtual 130, 3) := by decide +kernel
theorem dX7_account_12 : decode cX7_account 12 = .ok (.astore_n 3, 1) := by decide +kernel
theorem dX7_account_13 : decode cX7_account 13 = .ok (.aload_n 0, 1) := by decide +kernel
theorem dX7_account_14 : decode cX7_account 14 = .ok (.getfield 10, 3) := by decide +kernel
theorem dX7_account_17 : decode cX7_account 17 = .ok (.iload_n 1, 1) := by decide +kernel
theorem dX7_account_18 : decode cX7_account 18 = .ok (.aload_n 3, 1) := by decide +kernel
theorem dX7_account_19 : decode cX7_account 19 = .ok (.getfield 145, 3) := by decide +kernel
theorem dX7_account_22 : decode cX7_account 22 = .ok (.invokevirtual 151, 3) := by decide +kernel
theorem dX7_account_25 : decode cX7_account 25 = .ok (.lstore 4, 2) := by decide +kernel
theorem dX7_account_27 : decode cX7_account 27 = .ok (.iload_n 2, 1) := by decide +kernel
theorem dX7_account_28 : decode cX7_account 28 = .ok (.tableswitch 73 0 4 #[36, 41, 44, 49, 54], 36) := by decide +kernel
theorem dX7_account_64 : decode cX7_account 64 = .ok (.aload_n 3, 1) := by decide +kernel
theorem dX7_account_65 : decode cX7_account 65 = .ok (.getfield 155, 3) := by decide +kernel
theorem dX7_account_68 : decode cX7_account 68 = .ok (.lreturn, 1) := by decide +kernel
theorem dX7_account_69 : decode cX7_account 69 = .ok (.lload 4, 2) := by decide +kernel
theorem dX7_account_71 : decode cX7_account 71 = .ok (.lreturn, 1) := by decide +kernel
theorem dX7_account_72 : decode cX7_account 72 = .ok (.aload_n 3, 1) := by decide +kernel
theorem dX7_account_73 : decode cX7_account 73 = .ok (.getfield 158, 3) := by decide +kernel
theorem dX7_account_76 : decode cX7_account 76 = .ok (.lreturn, 1) := by decide +kernel
theorem dX7_account_77 : decode cX7_account 77 = .ok (.aload_n 3, 1) := by decide +kernel
theorem dX7_account_78 : decode cX7_account 78 = .ok (.getfield 161, 3) := by decide +kernel
theorem dX7_account_81 : decode cX7_account 81 = .ok (.lreturn, 1) := by decide +kernel
theorem dX7_account_82 : decode cX7_account 82 = .ok (.aload_n 3, 1) := by decide +kernel
theorem dX7_account_83 : decode cX7_account 83 = .ok (.getfield 155, 3) := by decide +kernel
theorem dX7_account_86 : decode cX7_account 86 = .ok (.aload_n 3, 1) := by decide +kernel
theorem dX7_account_87 : decode cX7_account 87 = .ok (.getfield 139, 3) := by decide +kernel
theorem dX7_account_90 : decode cX7_account 90 = .ok (.i2l, 1) := by decide +kernel
theorem dX7_account_91 : decode cX7_account 91 = .ok (.aload_n 3, 1) := by decide +kernel
theorem dX7_account_92 : decode cX7_account 92 = .ok (.getfield 145, 3) := by decide +kernel
theorem dX7_account_95 : decode cX7_account 95 = .ok (.lmul, 1) := by decide +kernel
theorem dX7_account_96 : decode cX7_account 96 = .ok (.lsub, 1) := by decide +kernel
theorem dX7_account_97 : decode cX7_account 97 = .ok (.lload 4, 2) := by decide +kernel
theorem dX7_account_99 : decode cX7_account 99 = .ok (.lsub, 1) := by decide +kernel
theorem dX7_account_100 : decode cX7_account 100 = .ok (.lreturn, 1) := by decide +kernel
theorem dX7_account_101 : decode cX7_account 101 = .ok (.new 114, 3) := by decide +kernel
theorem dX7_account_104 : decode cX7_account 104 = .ok (.dup, 1) := by decide +kernel
theorem dX7_account_105 : decode cX7_account 105 = .ok (.ldc 164, 2) := by decide +kernel
theorem dX7_account_107 : decode cX7_account 107 = .ok (.invokespecial 118, 3) := by decide +kernel
theorem dX7_account_110 : decode cX7_account 110 = .ok (.athrow, 1) := by decide +kernel
theorem dX7_tube_0 : decode cX7_tube 0 = .ok (.aload_n 0, 1) := by decide +kernel
theorem dX7_tube_1 : decode cX7_tube 1 = .ok (.iload_n 1, 1) := by decide +kernel
theorem dX7_tube_2 : decode cX7_tube 2 = .ok (.invokevirtual 166, 3) := by decide +kernel
theorem dX7_tube_5 : decode cX7_tube 5 = .ok (.iload_n 2, 1) := by decide +kernel
theorem dX7_tube_6 : decode cX7_tube 6 = .ok (.ifCond .lt 9, 3) := by decide +kernel
theorem dX7_tube_9 : decode cX7_tube 9 = .ok (.iload_n 2, 1) := by decide +kernel
theorem dX7_tube_10 : decode cX7_tube 10 = .ok (.bipush 10, 2) := by decide +kernel
theorem dX7_tube_12 : decode cX7_tube 12 = .ok (.if_icmp .le 13, 3) := by decide +kernel
theorem dX7_tube_15 : decode cX7_tube 15 = .ok (.new 114, 3) := by decide +kernel
theorem dX7_tube_18 : decode cX7_tube 18 = .ok (.dup, 1) := by decide +kernel
theorem dX7_tube_19 : decode cX7_tube 19 = .ok (.ldc 169, 2) := by decide +kernel
theorem dX7_tube_21 : decode cX7_tube 21 = .ok (.invokespecial 118, 3) := by decide +kernel
theorem dX7_tube_24 : decode cX7_tube 24 = .ok (.athrow, 1) := by decide +kernel
theorem dX7_tube_25 : decode cX7_tube 25 = .ok (.aload_n 0, 1) := by decide +kernel
theorem dX7_tube_26 : decode cX7_tube 26 = .ok (.getfield 10, 3) := by decide +kernel
theorem dX7_tube_29 : decode cX7_tube 29 = .ok (.iload_n 1, 1) := by decide +kernel
theorem dX7_tube_30 : decode cX7_tube 30 = .ok (.iload_n 2, 1) := by decide +kernel
theorem dX7_tube_31 : decode cX7_tube 31 = .ok (.invokevirtual 171, 3) := by decide +kernel
theorem dX7_tube_34 : decode cX7_tube 34 = .ok (.ireturn, 1) := by decide +kernel
theorem dX7_room_0 : decode cX7_room 0 = .ok (.aload_n 0, 1) := by decide +kernel
theorem dX7_room_1 : decode cX7_room 1 = .ok (.iload_n 1, 1) := by decide +kernel
theorem dX7_room_2 : decode cX7_room 2 = .ok (.invokevirtual 166, 3) := by decide +kernel
theorem dX7_room_5 : decode cX7_room 5 = .ok (.aload_n 0, 1) := by decide +kernel
theorem dX7_room_6 : decode cX7_room 6 = .ok (.getfield 10, 3) := by decide +kernel
theorem dX7_room_9 : decode cX7_room 9 = .ok (.iload_n 1, 1) := by decide +kernel
theorem dX7_room_10 : decode cX7_room 10 = .ok (.invokevirtual 175, 3) := by decide +kernel
theorem dX7_room_13 : decode cX7_room 13 = .ok (.astore_n 2, 1) := by decide +kernel
theorem dX7_room_14 : decode cX7_room 14 = .ok (.aload_n 2, 1) := by decide +kernel
theorem dX7_room_15 : decode cX7_room 15 = .ok (.getfield 179, 3) := by decide +kernel
theorem dX7_room_18 : decode cX7_room 18 = .ok (.ifCond .ne 15, 3) := by decide +kernel
theorem dX7_room_21 : decode cX7_room 21 = .ok (.aload_n 2, 1) := by decide +kernel
theorem dX7_room_22 : decode cX7_room 22 = .ok (.invokevirtual 196, 3) := by decide +kernel
theorem dX7_room_25 : decode cX7_room 25 = .ok (.aload_n 2, 1) := by decide +kernel
theorem dX7_room_26 : decode cX7_room 26 = .ok (.getfield 199, 3) := by decide +kernel
theorem dX7_room_29 : decode cX7_room 29 = .ok (.isub, 1) := by decide +kernel
theorem dX7_room_30 : decode cX7_room 30 = .ok (.goto 4, 3) := by decide +kernel
theorem dX7_room_33 : decode cX7_room 33 = .ok (.iconst (-1), 1) := by decide +kernel
theorem dX7_room_34 : decode cX7_room 34 = .ok (.ireturn, 1) := by decide +kernel
theorem dX7_setPressure_0 : decode cX7_setPressure 0 = .ok (.aload_n 0, 1) := by decide +kernel
theorem dX7_setPressure_1 : decode cX7_setPressure 1 = .ok (.iload_n 1, 1) := by decide +kernel
theorem dX7_setPressure_2 : decode cX7_setPressure 2 = .ok (.invokevirtual 121, 3) := by decide +kernel
theorem dX7_setPressure_5 : decode cX7_setPressure 5 = .ok (.iload_n 2, 1) := by decide +kernel
theorem dX7_setPressure_6 : decode cX7_setPressure 6 = .ok (.iconst 0, 1) := by decide +kernel
theorem dX7_setPressure_7 : decode cX7_setPressure 7 = .ok (.ldc 207, 2) := by decide +kernel
theorem dX7_setPressure_9 : decode cX7_setPressure 9 = .ok (.invokestatic 60, 3) := by decide +kernel
theorem dX7_setPressure_12 : decode cX7_setPressure 12 = .ok (.aload_n 0, 1) := by decide +kernel
theorem dX7_setPressure_13 : decode cX7_setPressure 13 = .ok (.getfield 25, 3) := by decide +kernel
theorem dX7_setPressure_16 : decode cX7_setPressure 16 = .ok (.aload_n 0, 1) := by decide +kernel
theorem dX7_setPressure_17 : decode cX7_setPressure 17 = .ok (.getfield 10, 3) := by decide +kernel
theorem dX7_setPressure_20 : decode cX7_setPressure 20 = .ok (.invokevirtual 229, 3) := by decide +kernel
theorem dX7_setPressure_23 : decode cX7_setPressure 23 = .ok (.aload_n 0, 1) := by decide +kernel
theorem dX7_setPressure_24 : decode cX7_setPressure 24 = .ok (.getfield 10, 3) := by decide +kernel
theorem dX7_setPressure_27 : decode cX7_setPressure 27 = .ok (.iload_n 1, 1) := by decide +kernel
theorem dX7_setPressure_28 : decode cX7_setPressure 28 = .ok (.iload_n 2, 1) := by decide +kernel
theorem dX7_setPressure_29 : decode cX7_setPressure 29 = .ok (.invokevirtual 223, 3) := by decide +kernel
theorem dX7_setPressure_32 : decode cX7_setPressure 32 = .ok (.aload_n 0, 1) := by decide +kernel
theorem dX7_setPressure_33 : decode cX7_setPressure 33 = .ok (.getfield 10, 3) := by decide +kernel
theorem dX7_setPressure_36 : decode cX7_setPressure 36 = .ok (.invokevirtual 85, 3) := by decide +kernel
theorem dX7_setPressure_39 : decode cX7_setPressure 39 = .ok (.ireturn, 1) := by decide +kernel
theorem dX7_setReference_0 : decode cX7_setReference 0 = .ok (.iload_n 1, 1) := by decide +kernel
theorem dX7_setReference_1 : decode cX7_setReference 1 = .ok (.iconst 0, 1) := by decide +kernel
theorem dX7_setReference_2 : decode cX7_setReference 2 = .ok (.ldc 207, 2) := by decide +kernel
theorem dX7_setReference_4 : decode cX7_setReference 4 = .ok (.invokestatic 60, 3) := by decide +kernel
theorem dX7_setReference_7 : decode cX7_setReference 7 = .ok (.aload_n 0, 1) := by decide +kernel
theorem dX7_setReference_8 : decode cX7_setReference 8 = .ok (.getfield 25, 3) := by decide +kernel
theorem dX7_setReference_11 : decode cX7_setReference 11 = .ok (.aload_n 0, 1) := by decide +kernel
theorem dX7_setReference_12 : decode cX7_setReference 12 = .ok (.getfield 10, 3) := by decide +kernel
theorem dX7_setReference_15 : decode cX7_setReference 15 = .ok (.invokevirtual 229, 3) := by decide +kernel
theorem dX7_setReference_18 : decode cX7_setReference 18 = .ok (.aload_n 0, 1) := by decide +kernel
theorem dX7_setReference_19 : decode cX7_setReference 19 = .ok (.getfield 10, 3) := by decide +kernel
theorem dX7_setReference_22 : decode cX7_setReference 22 = .ok (.iload_n 1, 1) := by decide +kernel
theorem dX7_setReference_23 : decode cX7_setReference 23 = .ok (.putfield 105, 3) := by decide +kernel
theorem dX7_setReference_26 : decode cX7_setReference 26 = .ok (.aload_n 0, 1) := by decide +kernel
theorem dX7_setReference_27 : decode cX7_setReference 27 = .ok (.getfield 10, 3) := by decide +kernel
theorem dX7_setReference_30 : decode cX7_setReference 30 = .ok (.invokevirtual 85, 3) := by decide +kernel
theorem dX7_setReference_33 : decode cX7_setReference 33 = .ok (.ireturn, 1) := by decide +kernel
theorem dX7_sweep_0 : decode cX7_sweep 0 = .ok (.aload_n 0, 1) := by decide +kernel
theorem dX7_sweep_1 : decode cX7_sweep 1 = .ok (.iload_n 1, 1) := by decide +kernel
theorem dX7_sweep_2 : decode cX7_sweep 2 = .ok (.invokevirtual 121, 3) := by decide +kernel
theorem dX7_sweep_5 : decode cX7_sweep 5 = .ok (.iload_n 2, 1) := by decide +kernel
theorem dX7_sweep_6 : decode cX7_sweep 6 = .ok (.iconst 0, 1) := by decide +kernel
theorem dX7_sweep_7 : decode cX7_sweep 7 = .ok (.ldc 207, 2) := by decide +kernel
theorem dX7_sweep_9 : decode cX7_sweep 9 = .ok (.invokestatic 60, 3) := by decide +kernel
theorem dX7_sweep_12 : decode cX7_sweep 12 = .ok (.iload_n 3, 1) := by decide +kernel
theorem dX7_sweep_13 : decode cX7_sweep 13 = .ok (.iconst 1, 1) := by decide +kernel
theorem dX7_sweep_14 : decode cX7_sweep 14 = .ok (.bipush 50, 2) := by decide +kernel
theorem dX7_sweep_16 : decode cX7_sweep 16 = .ok (.invokestatic 60, 3) := by decide +kernel
theorem dX7_sweep_19 : decode cX7_sweep 19 = .ok (.aload_n 0, 1) := by decide +kernel
theorem dX7_sweep_20 : decode cX7_sweep 20 = .ok (.getfield 25, 3) := by decide +kernel
theorem dX7_sweep_23 : decode cX7_sweep 23 = .ok (.aload_n 0, 1) := by decide +kernel
theorem dX7_sweep_24 : decode cX7_sweep 24 = .ok (.getfield 10, 3) := by decide +kernel
theorem dX7_sweep_27 : decode cX7_sweep 27 = .ok (.invokevirtual 229, 3) := by decide +kernel
theorem dX7_sweep_30 : decode cX7_sweep 30 = .ok (.aload_n 0, 1) := by decide +kernel
theorem dX7_sweep_31 : decode cX7_sweep 31 = .ok (.getfield 10, 3) := by decide +kernel
theorem dX7_sweep_34 : decode cX7_sweep 34 = .ok (.iload_n 1, 1) := by decide +kernel
theorem dX7_sweep_35 : decode cX7_sweep 35 = .ok (.invokevirtual 124, 3) := by decide +kernel
theorem dX7_sweep_38 : decode cX7_sweep 38 = .ok (.istore 4, 2) := by decide +kernel
theorem dX7_sweep_40 : decode cX7_sweep 40 = .ok (.iconst 0, 1) := by decide +kernel
theorem dX7_sweep_41 : decode cX7_sweep 41 = .ok (.istore 5, 2) := by decide +kernel
theorem dX7_sweep_43 : decode cX7_sweep 43 = .ok (.iconst 1, 1) := by decide +kernel
theorem dX7_sweep_44 : decode cX7_sweep 44 = .ok (.istore 6, 2) := by decide +kernel
theorem dX7_sweep_46 : decode cX7_sweep 46 = .ok (.iload 6, 2) := by decide +kernel
theorem dX7_sweep_48 : decode cX7_sweep 48 = .ok (.iload_n 3, 1) := by decide +kernel
theorem dX7_sweep_49 : decode cX7_sweep 49 = .ok (.if_icmp .gt 41, 3) := by decide +kernel
theorem dX7_sweep_52 : decode cX7_sweep 52 = .ok (.aload_n 0, 1) := by decide +kernel
theorem dX7_sweep_53 : decode cX7_sweep 53 = .ok (.getfield 10, 3) := by decide +kernel
theorem dX7_sweep_56 : decode cX7_sweep 56 = .ok (.iload_n 1, 1) := by decide +kernel
theorem dX7_sweep_57 : decode cX7_sweep 57 = .ok (.iload 4, 2) := by decide +kernel
theorem dX7_sweep_59 : decode cX7_sweep 59 = .ok (.iload_n 2, 1) := by decide +kernel
theorem dX7_sweep_60 : decode cX7_sweep 60 = .ok (.iload 4, 2) := by decide +kernel
theorem dX7_sweep_62 : decode cX7_sweep 62 = .ok (.isub, 1) := by decide +kernel
theorem dX7_sweep_63 : decode cX7_sweep 63 = .ok (.iload 6, 2) := by decide +kernel
theorem dX7_sweep_65 : decode cX7_sweep 65 = .ok (.imul, 1) := by decide +kernel
theorem dX7_sweep_66 : decode cX7_sweep 66 = .ok (.iload_n 3, 1) := by decide +kernel
theorem dX7_sweep_67 : decode cX7_sweep 67 = .ok (.idiv, 1) := by decide +kernel
theorem dX7_sweep_68 : decode cX7_sweep 68 = .ok (.iadd, 1) := by decide +kernel
theorem dX7_sweep_69 : decode cX7_sweep 69 = .ok (.invokevirtual 223, 3) := by decide +kernel
theorem dX7_sweep_72 : decode cX7_sweep 72 = .ok (.iload 5, 2) := by decide +kernel
theorem dX7_sweep_74 : decode cX7_sweep 74 = .ok (.aload_n 0, 1) := by decide +kernel
theorem dX7_sweep_75 : decode cX7_sweep 75 = .ok (.getfield 10, 3) := by decide +kernel
theorem dX7_sweep_78 : decode cX7_sweep 78 = .ok (.invokevirtual 85, 3) := by decide +kernel
theorem dX7_sweep_81 : decode cX7_sweep 81 = .ok (.iadd, 1) := by decide +kernel
theorem dX7_sweep_82 : decode cX7_sweep 82 = .ok (.istore 5, 2) := by decide +kernel
theorem dX7_sweep_84 : decode cX7_sweep 84 = .ok (.iinc 6 1, 3) := by decide +kernel
theorem dX7_sweep_87 : decode cX7_sweep 87 = .ok (.goto (-41), 3) := by decide +kernel
theorem dX7_sweep_90 : decode cX7_sweep 90 = .ok (.iload 5, 2) := by decide +kernel
theorem dX7_sweep_92 : decode cX7_sweep 92 = .ok (.ireturn, 1) := by decide +kernel
theorem dX7_setSlant_0 : decode cX7_setSlant 0 = .ok (.aload_n 0, 1) := by decide +kernel
theorem dX7_setSlant_1 : decode cX7_setSlant 1 = .ok (.iload_n 1, 1) := by decide +kernel
theorem dX7_setSlant_2 : decode cX7_setSlant 2 = .ok (.invokevirtual 166, 3) := by decide +kernel
theorem dX7_setSlant_5 : decode cX7_setSlant 5 = .ok (.iload_n 2, 1) := by decide +kernel
theorem dX7_setSlant_6 : decode cX7_setSlant 6 = .ok (.bipush 50, 2) := by decide +kernel
theorem dX7_setSlant_8 : decode cX7_setSlant 8 = .ok (.sipush 1000, 3) := by decide +kernel
theorem dX7_setSlant_11 : decode cX7_setSlant 11 = .ok (.invokestatic 60, 3) := by decide +kernel
theorem dX7_setSlant_14 : decode cX7_setSlant 14 = .ok (.aload_n 0, 1) := by decide +kernel
theorem dX7_setSlant_15 : decode cX7_setSlant 15 = .ok (.getfield 25, 3) := by decide +kernel
theorem dX7_setSlant_18 : decode cX7_setSlant 18 = .ok (.aload_n 0, 1) := by decide +kernel
theorem dX7_setSlant_19 : decode cX7_setSlant 19 = .ok (.getfield 10, 3) := by decide +kernel
theorem dX7_setSlant_22 : decode cX7_setSlant 22 = .ok (.invokevirtual 229, 3) := by decide +kernel
theorem dX7_setSlant_25 : decode cX7_setSlant 25 = .ok (.aload_n 0, 1) := by decide +kernel
theorem dX7_setSlant_26 : decode cX7_setSlant 26 = .ok (.getfield 10, 3) := by decide +kernel
theorem dX7_setSlant_29 : decode cX7_setSlant 29 = .ok (.iload_n 1, 1) := by decide +kernel
theorem dX7_setSlant_30 : decode cX7_setSlant 30 = .ok (.invokevirtual 175, 3) := by decide +kernel
theorem dX7_setSlant_33 : decode cX7_setSlant 33 = .ok (.iload_n 2, 1) := by decide +kernel
theorem dX7_setSlant_34 : decode cX7_setSlant 34 = .ok (.putfield 226, 3) := by decide +kernel
theorem dX7_setSlant_37 : decode cX7_setSlant 37 = .ok (.aload_n 0, 1) := by decide +kernel
theorem dX7_setSlant_38 : decode cX7_setSlant 38 = .ok (.getfield 10, 3) := by decide +kernel
theorem dX7_setSlant_41 : decode cX7_setSlant 41 = .ok (.invokevirtual 85, 3) := by decide +kernel
theorem dX7_setSlant_44 : decode cX7_setSlant 44 = .ok (.ireturn, 1) := by decide +kernel
theorem dX7_setMark_0 : decode cX7_setMark 0 = .ok (.aload_n 0, 1) := by decide +kernel
theorem dX7_setMark_1 : decode cX7_setMark 1 = .ok (.iload_n 1, 1) := by decide +kernel
theorem dX7_setMark_2 : decode cX7_setMark 2 = .ok (.invokevirtual 166, 3) := by decide +kernel
theorem dX7_setMark_5 : decode cX7_setMark 5 = .ok (.aload_n 0, 1) := by decide +kernel
theorem dX7_setMark_6 : decode cX7_setMark 6 = .ok (.getfield 10, 3) := by decide +kernel
theorem dX7_setMark_9 : decode cX7_setMark 9 = .ok (.iload_n 1, 1) := by decide +kernel
theorem dX7_setMark_10 : decode cX7_setMark 10 = .ok (.invokevirtual 175, 3) := by decide +kernel
theorem dX7_setMark_13 : decode cX7_setMark 13 = .ok (.astore_n 2, 1) := by decide +kernel
theorem dX7_setMark_14 : decode cX7_setMark 14 = .ok (.aload_n 2, 1) := by decide +kernel
theorem dX7_setMark_15 : decode cX7_setMark 15 = .ok (.getfield 179, 3) := by decide +kernel
theorem dX7_setMark_18 : decode cX7_setMark 18 = .ok (.ifCond .eq 6, 3) := by decide +kernel
theorem dX7_setMark_21 : decode cX7_setMark 21 = .ok (.ldc 188, 2) := by decide +kernel
theorem dX7_setMark_23 : decode cX7_setMark 23 = .ok (.ireturn, 1) := by decide +kernel
theorem dX7_setMark_24 : decode cX7_setMark 24 = .ok (.aload_n 2, 1) := by decide +kernel
theorem dX7_setMark_25 : decode cX7_setMark 25 = .ok (.getfield 199, 3) := by decide +kernel
theorem dX7_setMark_28 : decode cX7_setMark 28 = .ok (.bipush 10, 2) := by decide +kernel
theorem dX7_setMark_30 : decode cX7_setMark 30 = .ok (.idiv, 1) := by decide +kernel
theorem dX7_setMark_31 : decode cX7_setMark 31 = .ok (.ineg, 1) := by decide +kernel
theorem dX7_setMark_32 : decode cX7_setMark 32 = .ok (.istore_n 3, 1) := by decide +kernel
theorem dX7_setMark_33 : decode cX7_setMark 33 = .ok (.iload_n 3, 1) := by decide +kernel
theorem dX7_setMark_34 : decode cX7_setMark 34 = .ok (.sipush (-9999), 3) := by decide +kernel
theorem dX7_setMark_37 : decode cX7_setMark 37 = .ok (.if_icmp .ge 6, 3) := by decide +kernel
theorem dX7_setMark_40 : decode cX7_setMark 40 = .ok (.ldc 232, 2) := by decide +kernel
theorem dX7_setMark_42 : decode cX7_setMark 42 = .ok (.ireturn, 1) := by decide +kernel
theorem dX7_setMark_43 : decode cX7_setMark 43 = .ok (.aload_n 0, 1) := by decide +kernel
theorem dX7_setMark_44 : decode cX7_setMark 44 = .ok (.getfield 25, 3) := by decide +kernel
theorem dX7_setMark_47 : decode cX7_setMark 47 = .ok (.aload_n 0, 1) := by decide +kernel
theorem dX7_setMark_48 : decode cX7_setMark 48 = .ok (.getfield 10, 3) := by decide +kernel
theorem dX7_setMark_51 : decode cX7_setMark 51 = .ok (.invokevirtual 229, 3) := by decide +kernel
theorem dX7_setMark_54 : decode cX7_setMark 54 = .ok (.aload_n 2, 1) := by decide +kernel
theorem dX7_setMark_55 : decode cX7_setMark 55 = .ok (.iload_n 3, 1) := by decide +kernel
theorem dX7_setMark_56 : decode cX7_setMark 56 = .ok (.putfield 233, 3) := by decide +kernel
theorem dX7_setMark_59 : decode cX7_setMark 59 = .ok (.iload_n 3, 1) := by decide +kernel
theorem dX7_setMark_60 : decode cX7_setMark 60 = .ok (.ireturn, 1) := by decide +kernel
theorem dX7_setCurve_0 : decode cX7_setCurve 0 = .ok (.iload_n 1, 1) := by decide +kernel
theorem dX7_setCurve_1 : decode cX7_setCurve 1 = .ok (.invokestatic 127, 3) := by decide +kernel
theorem dX7_setCurve_4 : decode cX7_setCurve 4 = .ok (.iload_n 2, 1) := by decide +kernel
theorem dX7_setCurve_5 : decode cX7_setCurve 5 = .ok (.sipush (-9999), 3) := by decide +kernel
theorem dX7_setCurve_8 : decode cX7_setCurve 8 = .ok (.sipush 9999, 3) := by decide +kernel
theorem dX7_setCurve_11 : decode cX7_setCurve 11 = .ok (.invokestatic 60, 3) := by decide +kernel
theorem dX7_setCurve_14 : decode cX7_setCurve 14 = .ok (.aload_n 0, 1) := by decide +kernel
theorem dX7_setCurve_15 : decode cX7_setCurve 15 = .ok (.getfield 25, 3) := by decide +kernel
theorem dX7_setCurve_18 : decode cX7_setCurve 18 = .ok (.aload_n 0, 1) := by decide +kernel
theorem dX7_setCurve_19 : decode cX7_setCurve 19 = .ok (.getfield 10, 3) := by decide +kernel
theorem dX7_setCurve_22 : decode cX7_setCurve 22 = .ok (.invokevirtual 229, 3) := by decide +kernel
theorem dX7_setCurve_25 : decode cX7_setCurve 25 = .ok (.aload_n 0, 1) := by decide +kernel
theorem dX7_setCurve_26 : decode cX7_setCurve 26 = .ok (.getfield 10, 3) := by decide +kernel
theorem dX7_setCurve_29 : decode cX7_setCurve 29 = .ok (.iload_n 1, 1) := by decide +kernel
theorem dX7_setCurve_30 : decode cX7_setCurve 30 = .ok (.invokevirtual 130, 3) := by decide +kernel
theorem dX7_setCurve_33 : decode cX7_setCurve 33 = .ok (.iload_n 2, 1) := by decide +kernel
theorem dX7_setCurve_34 : decode cX7_setCurve 34 = .ok (.putfield 142, 3) := by decide +kernel
theorem dX7_setCurve_37 : decode cX7_setCurve 37 = .ok (.aload_n 0, 1) := by decide +kernel
theorem dX7_setCurve_38 : decode cX7_setCurve 38 = .ok (.getfield 10, 3) := by decide +kernel
theorem dX7_setCurve_41 : decode cX7_setCurve 41 = .ok (.invokevirtual 85, 3) := by decide +kernel
theorem dX7_setCurve_44 : decode cX7_setCurve 44 = .ok (.ireturn, 1) := by decide +kernel
theorem dX7_mend_0 : decode cX7_mend 0 = .ok (.aload_n 0, 1) := by decide +kernel
theorem dX7_mend_1 : decode cX7_mend 1 = .ok (.iload_n 1, 1) := by decide +kernel
theorem dX7_mend_2 : decode cX7_mend 2 = .ok (.invokevirtual 166, 3) := by decide +kernel
theorem dX7_mend_5 : decode cX7_mend 5 = .ok (.aload_n 0, 1) := by decide +kernel
theorem dX7_mend_6 : decode cX7_mend 6 = .ok (.getfield 10, 3) := by decide +kernel
theorem dX7_mend_9 : decode cX7_mend 9 = .ok (.iload_n 1, 1) := by decide +kernel
theorem dX7_mend_10 : decode cX7_mend 10 = .ok (.invokevirtual 175, 3) := by decide +kernel
theorem dX7_mend_13 : decode cX7_mend 13 = .ok (.astore_n 2, 1) := by decide +kernel
theorem dX7_mend_14 : decode cX7_mend 14 = .ok (.aload_n 2, 1) := by decide +kernel
theorem dX7_mend_15 : decode cX7_mend 15 = .ok (.getfield 179, 3) := by decide +kernel
theorem dX7_mend_18 : decode cX7_mend 18 = .ok (.ifCond .ne 6, 3) := by decide +kernel
theorem dX7_mend_21 : decode cX7_mend 21 = .ok (.bipush (-2), 2) := by decide +kernel
theorem dX7_mend_23 : decode cX7_mend 23 = .ok (.ireturn, 1) := by decide +kernel
theorem dX7_mend_24 : decode cX7_mend 24 = .ok (.aload_n 0, 1) := by decide +kernel
theorem dX7_mend_25 : decode cX7_mend 25 = .ok (.getfield 25, 3) := by decide +kernel
theorem dX7_mend_28 : decode cX7_mend 28 = .ok (.aload_n 0, 1) := by decide +kernel
theorem dX7_mend_29 : decode cX7_mend 29 = .ok (.getfield 10, 3) := by decide +kernel
theorem dX7_mend_32 : decode cX7_mend 32 = .ok (.invokevirtual 229, 3) := by decide +kernel
theorem dX7_mend_35 : decode cX7_mend 35 = .ok (.aload_n 2, 1) := by decide +kernel
theorem dX7_mend_36 : decode cX7_mend 36 = .ok (.iconst 0, 1) := by decide +kernel
theorem dX7_mend_37 : decode cX7_mend 37 = .ok (.putfield 179, 3) := by decide +kernel
theorem dX7_mend_40 : decode cX7_mend 40 = .ok (.aload_n 0, 1) := by decide +kernel
theorem dX7_mend_41 : decode cX7_mend 41 = .ok (.getfield 10, 3) := by decide +kernel
theorem dX7_mend_44 : decode cX7_mend 44 = .ok (.invokevirtual 85, 3) := by decide +kernel
theorem dX7_mend_47 : decode cX7_mend 47 = .ok (.pop, 1) := by decide +kernel
theorem dX7_mend_48 : decode cX7_mend 48 = .ok (.aload_n 2, 1) := by decide +kernel
theorem dX7_mend_49 : decode cX7_mend 49 = .ok (.getfield 179, 3) := by decide +kernel
theorem dX7_mend_52 : decode cX7_mend 52 = .ok (.ireturn, 1) := by decide +kernel
theorem dX7_refill_0 : decode cX7_refill 0 = .ok (.iload_n 1, 1) := by decide +kernel
theorem dX7_refill_1 : decode cX7_refill 1 = .ok (.invokestatic 127, 3) := by decide +kernel
theorem dX7_refill_4 : decode cX7_refill 4 = .ok (.iload_n 2, 1) := by decide +kernel
theorem dX7_refill_5 : decode cX7_refill 5 = .ok (.iconst 1, 1) := by decide +kernel
theorem dX7_refill_6 : decode cX7_refill 6 = .ok (.ldc 236, 2) := by decide +kernel
theorem dX7_refill_8 : decode cX7_refill 8 = .ok (.invokestatic 60, 3) := by decide +kernel
theorem dX7_refill_11 : decode cX7_refill 11 = .ok (.aload_n 0, 1) := by decide +kernel
theorem dX7_refill_12 : decode cX7_refill 12 = .ok (.getfield 10, 3) := by decide +kernel
theorem dX7_refill_15 : decode cX7_refill 15 = .ok (.iload_n 1, 1) := by decide +kernel
theorem dX7_refill_16 : decode cX7_refill 16 = .ok (.invokevirtual 130, 3) := by decide +kernel
theorem dX7_refill_19 : decode cX7_refill 19 = .ok (.astore_n 3, 1) := by decide +kernel
theorem dX7_refill_20 : decode cX7_refill 20 = .ok (.aload_n 3, 1) := by decide +kernel
theorem dX7_refill_21 : decode cX7_refill 21 = .ok (.getfield 161, 3) := by decide +kernel
theorem dX7_refill_24 : decode cX7_refill 24 = .ok (.iload_n 2, 1) := by decide +kernel
theorem dX7_refill_25 : decode cX7_refill 25 = .ok (.i2l, 1) := by decide +kernel
theorem dX7_refill_26 : decode cX7_refill 26 = .ok (.ladd, 1) := by decide +kernel
theorem dX7_refill_27 : decode cX7_refill 27 = .ok (.ldc2_w 237, 3) := by decide +kernel
theorem dX7_refill_30 : decode cX7_refill 30 = .ok (.lcmp, 1) := by decide +kernel
theorem dX7_refill_31 : decode cX7_refill 31 = .ok (.ifCond .le 6, 3) := by decide +kernel
theorem dX7_refill_34 : decode cX7_refill 34 = .ok (.bipush (-2), 2) := by decide +kernel
theorem dX7_refill_36 : decode cX7_refill 36 = .ok (.ireturn, 1) := by decide +kernel
theorem dX7_refill_37 : decode cX7_refill 37 = .ok (.aload_n 0, 1) := by decide +kernel
theorem dX7_refill_38 : decode cX7_refill 38 = .ok (.getfield 25, 3) := by decide +kernel
theorem dX7_refill_41 : decode cX7_refill 41 = .ok (.aload_n 0, 1) := by decide +kernel
theorem dX7_refill_42 : decode cX7_refill 42 = .ok (.getfield 10, 3) := by decide +kernel
theorem dX7_refill_45 : decode cX7_refill 45 = .ok (.invokevirtual 229, 3) := by decide +kernel
theorem dX7_refill_48 : decode cX7_refill 48 = .ok (.aload_n 3, 1) := by decide +kernel
theorem dX7_refill_49 : decode cX7_refill 49 = .ok (.dup, 1) := by decide +kernel
theorem dX7_refill_50 : decode cX7_refill 50 = .ok (.getfield 155, 3) := by decide +kernel
theorem dX7_refill_53 : decode cX7_refill 53 = .ok (.iload_n 2, 1) := by decide +kernel
theorem dX7_refill_54 : decode cX7_refill 54 = .ok (.i2l, 1) := by decide +kernel
theorem dX7_refill_55 : decode cX7_refill 55 = .ok (.ladd, 1) := by decide +kernel
theorem dX7_refill_56 : decode cX7_refill 56 = .ok (.putfield 155, 3) := by decide +kernel
theorem dX7_refill_59 : decode cX7_refill 59 = .ok (.aload_n 3, 1) := by decide +kernel
theorem dX7_refill_60 : decode cX7_refill 60 = .ok (.dup, 1) := by decide +kernel
theorem dX7_refill_61 : decode cX7_refill 61 = .ok (.getfield 161, 3) := by decide +kernel
theorem dX7_refill_64 : decode cX7_refill 64 = .ok (.iload_n 2, 1) := by decide +kernel
theorem dX7_refill_65 : decode cX7_refill 65 = .ok (.i2l, 1) := by decide +kernel
theorem dX7_refill_66 : decode cX7_refill 66 = .ok (.ladd, 1) := by decide +kernel
theorem dX7_refill_67 : decode cX7_refill 67 = .ok (.putfield 161, 3) := by decide +kernel
theorem dX7_refill_70 : decode cX7_refill 70 = .ok (.aload_n 0, 1) := by decide +kernel
theorem dX7_refill_71 : decode cX7_refill 71 = .ok (.getfield 10, 3) := by decide +kernel
theorem dX7_refill_74 : decode cX7_refill 74 = .ok (.invokevirtual 85, 3) := by decide +kernel
theorem dX7_refill_77 : decode cX7_refill 77 = .ok (.ireturn, 1) := by decide +kernel
theorem dX7_addTube_0 : decode cX7_addTube 0 = .ok (.iload_n 1, 1) := by decide +kernel
theorem dX7_addTube_1 : decode cX7_addTube 1 = .ok (.invokestatic 127, 3) := by decide +kernel
theorem dX7_addTube_4 : decode cX7_addTube 4 = .ok (.aload_n 0, 1) := by decide +kernel
theorem dX7_addTube_5 : decode cX7_addTube 5 = .ok (.iload_n 2, 1) := by decide +kernel
theorem dX7_addTube_6 : decode cX7_addTube 6 = .ok (.invokevirtual 121, 3) := by decide +kernel
theorem dX7_addTube_9 : decode cX7_addTube 9 = .ok (.iload_n 3, 1) := by decide +kernel
theorem dX7_addTube_10 : decode cX7_addTube 10 = .ok (.iconst 1, 1) := by decide +kernel
theorem dX7_addTube_11 : decode cX7_addTube 11 = .ok (.bipush 20, 2) := by decide +kernel
theorem dX7_addTube_13 : decode cX7_addTube 13 = .ok (.invokestatic 60, 3) := by decide +kernel
theorem dX7_addTube_16 : decode cX7_addTube 16 = .ok (.iload 4, 2) := by decide +kernel
theorem dX7_addTube_18 : decode cX7_addTube 18 = .ok (.bipush 50, 2) := by decide +kernel
theorem dX7_addTube_20 : decode cX7_addTube 20 = .ok (.sipush 1000, 3) := by decide +kernel
theorem dX7_addTube_23 : decode cX7_addTube 23 = .ok (.invokestatic 60, 3) := by decide +kernel
theorem dX7_addTube_26 : decode cX7_addTube 26 = .ok (.iload 5, 2) := by decide +kernel
theorem dX7_addTube_28 : decode cX7_addTube 28 = .ok (.bipush 10, 2) := by decide +kernel
theorem dX7_addTube_30 : decode cX7_addTube 30 = .ok (.sipush 2000, 3) := by decide +kernel
theorem dX7_addTube_33 : decode cX7_addTube 33 = .ok (.invokestatic 60, 3) := by decide +kernel
theorem dX7_addTube_36 : decode cX7_addTube 36 = .ok (.aload_n 0, 1) := by decide +kernel
theorem dX7_addTube_37 : decode cX7_addTube 37 = .ok (.getfield 10, 3) := by decide +kernel
theorem dX7_addTube_40 : decode cX7_addTube 40 = .ok (.getfield 108, 3) := by decide +kernel
theorem dX7_addTube_43 : decode cX7_addTube 43 = .ok (.bipush 12, 2) := by decide +kernel
theorem dX7_addTube_45 : decode cX7_addTube 45 = .ok (.if_icmp .lt 6, 3) := by decide +kernel
theorem dX7_addTube_48 : decode cX7_addTube 48 = .ok (.bipush (-2), 2) := by decide +kernel
theorem dX7_addTube_50 : decode cX7_addTube 50 = .ok (.ireturn, 1) := by decide +kernel
theorem dX7_addTube_51 : decode cX7_addTube 51 = .ok (.aload_n 0, 1) := by decide +kernel
theorem dX7_addTube_52 : decode cX7_addTube 52 = .ok (.getfield 25, 3) := by decide +kernel
theorem dX7_addTube_55 : decode cX7_addTube 55 = .ok (.aload_n 0, 1) := by decide +kernel
theorem dX7_addTube_56 : decode cX7_addTube 56 = .ok (.getfield 10, 3) := by decide +kernel
theorem dX7_addTube_59 : decode cX7_addTube 59 = .ok (.invokevirtual 229, 3) := by decide +kernel
theorem dX7_addTube_62 : decode cX7_addTube 62 = .ok (.aload_n 0, 1) := by decide +kernel
theorem dX7_addTube_63 : decode cX7_addTube 63 = .ok (.getfield 10, 3) := by decide +kernel
theorem dX7_addTube_66 : decode cX7_addTube 66 = .ok (.invokevirtual 239, 3) := by decide +kernel
theorem dX7_addTube_69 : decode cX7_addTube 69 = .ok (.astore 6, 2) := by decide +kernel
theorem dX7_addTube_71 : decode cX7_addTube 71 = .ok (.aload 6, 2) := by decide +kernel
theorem dX7_addTube_73 : decode cX7_addTube 73 = .ok (.iload_n 1, 1) := by decide +kernel
theorem dX7_addTube_74 : decode cX7_addTube 74 = .ok (.iload_n 2, 1) := by decide +kernel
theorem dX7_addTube_75 : decode cX7_addTube 75 = .ok (.invokevirtual 242, 3) := by decide +kernel
theorem dX7_addTube_78 : decode cX7_addTube 78 = .ok (.aload 6, 2) := by decide +kernel
theorem dX7_addTube_80 : decode cX7_addTube 80 = .ok (.iload_n 3, 1) := by decide +kernel
theorem dX7_addTube_81 : decode cX7_addTube 81 = .ok (.iload 4, 2) := by decide +kernel
theorem dX7_addTube_83 : decode cX7_addTube 83 = .ok (.iload 5, 2) := by decide +kernel
theorem dX7_addTube_85 : decode cX7_addTube 85 = .ok (.invokevirtual 245, 3) := by decide +kernel
theorem dX7_addTube_88 : decode cX7_addTube 88 = .ok (.aload_n 0, 1) := by decide +kernel
theorem dX7_addTube_89 : decode cX7_addTube 89 = .ok (.getfield 10, 3) := by decide +kernel
theorem dX7_addTube_92 : decode cX7_addTube 92 = .ok (.invokevirtual 85, 3) := by decide +kernel
theorem dX7_addTube_95 : decode cX7_addTube 95 = .ok (.pop, 1) := by decide +kernel
theorem dX7_addTube_96 : decode cX7_addTube 96 = .ok (.aload_n 0, 1) := by decide +kernel
theorem dX7_addTube_97 : decode cX7_addTube 97 = .ok (.getfield 10, 3) := by decide +kernel
theorem dX7_addTube_100 : decode cX7_addTube 100 = .ok (.getfield 108, 3) := by decide +kernel
theorem dX7_addTube_103 : decode cX7_addTube 103 = .ok (.iconst 1, 1) := by decide +kernel
theorem dX7_addTube_104 : decode cX7_addTube 104 = .ok (.isub, 1) := by decide +kernel
theorem dX7_addTube_105 : decode cX7_addTube 105 = .ok (.ireturn, 1) := by decide +kernel
theorem dX7_dropTube_0 : decode cX7_dropTube 0 = .ok (.aload_n 0, 1) := by decide +kernel
theorem dX7_dropTube_1 : decode cX7_dropTube 1 = .ok (.iload_n 1, 1) := by decide +kernel
theorem dX7_dropTube_2 : decode cX7_dropTube 2 = .ok (.invokevirtual 166, 3) := by decide +kernel
theorem dX7_dropTube_5 : decode cX7_dropTube 5 = .ok (.aload_n 0, 1) := by decide +kernel
theorem dX7_dropTube_6 : decode cX7_dropTube 6 = .ok (.getfield 25, 3) := by decide +kernel
theorem dX7_dropTube_9 : decode cX7_dropTube 9 = .ok (.aload_n 0, 1) := by decide +kernel
theorem dX7_dropTube_10 : decode cX7_dropTube 10 = .ok (.getfield 10, 3) := by decide +kernel
theorem dX7_dropTube_13 : decode cX7_dropTube 13 = .ok (.invokevirtual 229, 3) := by decide +kernel
theorem dX7_dropTube_16 : decode cX7_dropTube 16 = .ok (.aload_n 0, 1) := by decide +kernel
theorem dX7_dropTube_17 : decode cX7_dropTube 17 = .ok (.getfield 10, 3) := by decide +kernel
theorem dX7_dropTube_20 : decode cX7_dropTube 20 = .ok (.iload_n 1, 1) := by decide +kernel
theorem dX7_dropTube_21 : decode cX7_dropTube 21 = .ok (.invokevirtual 248, 3) := by decide +kernel
theorem dX7_dropTube_24 : decode cX7_dropTube 24 = .ok (.aload_n 0, 1) := by decide +kernel
theorem dX7_dropTube_25 : decode cX7_dropTube 25 = .ok (.getfield 10, 3) := by decide +kernel
theorem dX7_dropTube_28 : decode cX7_dropTube 28 = .ok (.invokevirtual 85, 3) := by decide +kernel
theorem dX7_dropTube_31 : decode cX7_dropTube 31 = .ok (.pop, 1) := by decide +kernel
theorem dX7_dropTube_32 : decode cX7_dropTube 32 = .ok (.aload_n 0, 1) := by decide +kernel
theorem dX7_dropTube_33 : decode cX7_dropTube 33 = .ok (.getfield 10, 3) := by decide +kernel
theorem dX7_dropTube_36 : decode cX7_dropTube 36 = .ok (.getfield 108, 3) := by decide +kernel
theorem dX7_dropTube_39 : decode cX7_dropTube 39 = .ok (.ireturn, 1) := by decide +kernel
theorem dX7_requirePoint_0 : decode cX7_requirePoint 0 = .ok (.iload_n 1, 1) := by decide +kernel
theorem dX7_requirePoint_1 : decode cX7_requirePoint 1 = .ok (.ifCond .lt 14, 3) := by decide +kernel
theorem dX7_requirePoint_4 : decode cX7_requirePoint 4 = .ok (.iload_n 1, 1) := by decide +kernel
theorem dX7_requirePoint_5 : decode cX7_requirePoint 5 = .ok (.aload_n 0, 1) := by decide +kernel
theorem dX7_requirePoint_6 : decode cX7_requirePoint 6 = .ok (.getfield 10, 3) := by decide +kernel
theorem dX7_requirePoint_9 : decode cX7_requirePoint 9 = .ok (.getfield 102, 3) := by decide +kernel
theorem dX7_requirePoint_12 : decode cX7_requirePoint 12 = .ok (.if_icmp .lt 14, 3) := by decide +kernel
theorem dX7_requirePoint_15 : decode cX7_requirePoint 15 = .ok (.new 114, 3) := by decide +kernel
theorem dX7_requirePoint_18 : decode cX7_requirePoint 18 = .ok (.dup, 1) := by decide +kernel
theorem dX7_requirePoint_19 : decode cX7_requirePoint 19 = .ok (.ldc_w 304, 3) := by decide +kernel
theorem dX7_requirePoint_22 : decode cX7_requirePoint 22 = .ok (.invokespecial 118, 3) := by decide +kernel
theorem dX7_requirePoint_25 : decode cX7_requirePoint 25 = .ok (.athrow, 1) := by decide +kernel
theorem dX7_requirePoint_26 : decode cX7_requirePoint 26 = .ok (.return_, 1) := by decide +kernel
theorem dX7_requireTube_0 : decode cX7_requireTube 0 = .ok (.iload_n 1, 1) := by decide +kernel
theorem dX7_requireTube_1 : decode cX7_requireTube 1 = .ok (.ifCond .lt 14, 3) := by decide +kernel
theorem dX7_requireTube_4 : decode cX7_requireTube 4 = .ok (.iload_n 1, 1) := by decide +kernel
theorem dX7_requireTube_5 : decode cX7_requireTube 5 = .ok (.aload_n 0, 1) := by decide +kernel
theorem dX7_requireTube_6 : decode cX7_requireTube 6 = .ok (.getfield 10, 3) := by decide +kernel
theorem dX7_requireTube_9 : decode cX7_requireTube 9 = .ok (.getfield 108, 3) := by decide +kernel
theorem dX7_requireTube_12 : decode cX7_requireTube 12 = .ok (.if_icmp .lt 14, 3) := by decide +kernel
theorem dX7_requireTube_15 : decode cX7_requireTube 15 = .ok (.new 114, 3) := by decide +kernel
theorem dX7_requireTube_18 : decode cX7_requireTube 18 = .ok (.dup, 1) := by decide +kernel
theorem dX7_requireTube_19 : decode cX7_requireTube 19 = .ok (.ldc_w 306, 3) := by decide +kernel
theorem dX7_requireTube_22 : decode cX7_requireTube 22 = .ok (.invokespecial 118, 3) := by decide +kernel
theorem dX7_requireTube_25 : decode cX7_requireTube 25 = .ok (.athrow, 1) := by decide +kernel
theorem dX7_requireTube_26 : decode cX7_requireTube 26 = .ok (.return_, 1) := by decide +kernel
theorem dX7_requireLeg_0 : decode cX7_requireLeg 0 = .ok (.iload_n 0, 1) := by decide +kernel
theorem dX7_requireLeg_1 : decode cX7_requireLeg 1 = .ok (.ifCond .eq 19, 3) := by decide +kernel
theorem dX7_requireLeg_4 : decode cX7_requireLeg 4 = .ok (.iload_n 0, 1) := by decide +kernel
theorem dX7_requireLeg_5 : decode cX7_requireLeg 5 = .ok (.iconst 1, 1) := by decide +kernel
theorem dX7_requireLeg_6 : decode cX7_requireLeg 6 = .ok (.if_icmp .eq 14, 3) := by decide +kernel
theorem dX7_requireLeg_9 : decode cX7_requireLeg 9 = .ok (.new 114, 3) := by decide +kernel
theorem dX7_requireLeg_12 : decode cX7_requireLeg 12 = .ok (.dup, 1) := by decide +kernel
theorem dX7_requireLeg_13 : decode cX7_requireLeg 13 = .ok (.ldc_w 308, 3) := by decide +kernel
theorem dX7_requireLeg_16 : decode cX7_requireLeg 16 = .ok (.invokespecial 118, 3) := by decide +kernel
theorem dX7_requireLeg_19 : decode cX7_requireLeg 19 = .ok (.athrow, 1) := by decide +kernel
theorem dX7_requireLeg_20 : decode cX7_requireLeg 20 = .ok (.return_, 1) := by decide +kernel
theorem dX7_requireWithin_0 : decode cX7_requireWithin 0 = .ok (.iload_n 0, 1) := by decide +kernel
theorem dX7_requireWithin_1 : decode cX7_requireWithin 1 = .ok (.iload_n 1, 1) := by decide +kernel
theorem dX7_requireWithin_2 : decode cX7_requireWithin 2 = .ok (.if_icmp .lt 8, 3) := by decide +kernel
theorem dX7_requireWithin_5 : decode cX7_requireWithin 5 = .ok (.iload_n 0, 1) := by decide +kernel
theorem dX7_requireWithin_6 : decode cX7_requireWithin 6 = .ok (.iload_n 2, 1) := by decide +kernel
theorem dX7_requireWithin_7 : decode cX7_requireWithin 7 = .ok (.if_icmp .le 14, 3) := by decide +kernel
theorem dX7_requireWithin_10 : decode cX7_requireWithin 10 = .ok (.new 310, 3) := by decide +kernel
theorem dX7_requireWithin_13 : decode cX7_requireWithin 13 = .ok (.dup, 1) := by decide +kernel
theorem dX7_requireWithin_14 : decode cX7_requireWithin 14 = .ok (.ldc_w 312, 3) := by decide +kernel
theorem dX7_requireWithin_17 : decode cX7_requireWithin 17 = .ok (.invokespecial 314, 3) := by decide +kernel
theorem dX7_requireWithin_20 : decode cX7_requireWithin 20 = .ok (.athrow, 1) := by decide +kernel
theorem dX7_requireWithin_21 : decode cX7_requireWithin 21 = .ok (.return_, 1) := by decide +kernel
theorem dL_init_0 : decode cL_init 0 = .ok (.aload_n 0, 1) := by decide +kernel
theorem dL_init_1 : decode cL_init 1 = .ok (.invokespecial 1, 3) := by decide +kernel
theorem dL_init_4 : decode cL_init 4 = .ok (.aload_n 0, 1) := by decide +kernel
theorem dL_init_5 : decode cL_init 5 = .ok (.sipush 700, 3) := by decide +kernel
theorem dL_init_8 : decode cL_init 8 = .ok (.newarray .int, 2) := by decide +kernel
theorem dL_init_10 : decode cL_init 10 = .ok (.putfield 7, 3) := by decide +kernel
theorem dL_init_13 : decode cL_init 13 = .ok (.return_, 1) := by decide +kernel
theorem dL_writes_0 : decode cL_writes 0 = .ok (.iconst 0, 1) := by decide +kernel
theorem dL_writes_1 : decode cL_writes 1 = .ok (.istore_n 2, 1) := by decide +kernel
theorem dL_writes_2 : decode cL_writes 2 = .ok (.iload_n 2, 1) := by decide +kernel
theorem dL_writes_3 : decode cL_writes 3 = .ok (.aload_n 1, 1) := by decide +kernel
theorem dL_writes_4 : decode cL_writes 4 = .ok (.invokevirtual 13, 3) := by decide +kernel
theorem dL_writes_7 : decode cL_writes 7 = .ok (.if_icmp .ge 33, 3) := by decide +kernel
theorem dL_writes_10 : decode cL_writes 10 = .ok (.aload_n 0, 1) := by decide +kernel
theorem dL_writes_11 : decode cL_writes 11 = .ok (.getfield 7, 3) := by decide +kernel
theorem dL_writes_14 : decode cL_writes 14 = .ok (.aload_n 0, 1) := by decide +kernel
theorem dL_writes_15 : decode cL_writes 15 = .ok (.getfield 19, 3) := by decide +kernel
theorem dL_writes_18 : decode cL_writes 18 = .ok (.aload_n 1, 1) := by decide +kernel
theorem dL_writes_19 : decode cL_writes 19 = .ok (.iload_n 2, 1) := by decide +kernel
theorem dL_writes_20 : decode cL_writes 20 = .ok (.invokevirtual 23, 3) := by decide +kernel
theorem dL_writes_23 : decode cL_writes 23 = .ok (.iastore, 1) := by decide +kernel
theorem dL_writes_24 : decode cL_writes 24 = .ok (.aload_n 0, 1) := by decide +kernel
theorem dL_writes_25 : decode cL_writes 25 = .ok (.dup, 1) := by decide +kernel
theorem dL_writes_26 : decode cL_writes 26 = .ok (.getfield 19, 3) := by decide +kernel
theorem dL_writes_29 : decode cL_writes 29 = .ok (.iconst 1, 1) := by decide +kernel
theorem dL_writes_30 : decode cL_writes 30 = .ok (.iadd, 1) := by decide +kernel
theorem dL_writes_31 : decode cL_writes 31 = .ok (.putfield 19, 3) := by decide +kernel
theorem dL_writes_34 : decode cL_writes 34 = .ok (.iinc 2 1, 3) := by decide +kernel
theorem dL_writes_37 : decode cL_writes 37 = .ok (.goto (-35), 3) := by decide +kernel
theorem dL_writes_40 : decode cL_writes 40 = .ok (.return_, 1) := by decide +kernel
theorem dL_spaced_0 : decode cL_spaced 0 = .ok (.aload_n 0, 1) := by decide +kernel
theorem dL_spaced_1 : decode cL_spaced 1 = .ok (.iload_n 1, 1) := by decide +kernel
theorem dL_spaced_2 : decode cL_spaced 2 = .ok (.ifCond .ge 8, 3) := by decide +kernel
theorem dL_spaced_5 : decode cL_spaced 5 = .ok (.ldc 27, 2) := by decide +kernel
theorem dL_spaced_7 : decode cL_spaced 7 = .ok (.goto 5, 3) := by decide +kernel
theorem dL_spaced_10 : decode cL_spaced 10 = .ok (.ldc 29, 2) := by decide +kernel
theorem dL_spaced_12 : decode cL_spaced 12 = .ok (.invokevirtual 31, 3) := by decide +kernel
theorem dL_spaced_15 : decode cL_spaced 15 = .ok (.iload_n 1, 1) := by decide +kernel
theorem dL_spaced_16 : decode cL_spaced 16 = .ok (.ifCond .ge 8, 3) := by decide +kernel
theorem dL_spaced_19 : decode cL_spaced 19 = .ok (.iload_n 1, 1) := by decide +kernel
theorem dL_spaced_20 : decode cL_spaced 20 = .ok (.ineg, 1) := by decide +kernel
theorem dL_spaced_21 : decode cL_spaced 21 = .ok (.goto 4, 3) := by decide +kernel
theorem dL_spaced_24 : decode cL_spaced 24 = .ok (.iload_n 1, 1) := by decide +kernel
theorem dL_spaced_25 : decode cL_spaced 25 = .ok (.istore_n 2, 1) := by decide +kernel
theorem dL_spaced_26 : decode cL_spaced 26 = .ok (.iconst 1, 1) := by decide +kernel
theorem dL_spaced_27 : decode cL_spaced 27 = .ok (.istore_n 3, 1) := by decide +kernel
theorem dL_spaced_28 : decode cL_spaced 28 = .ok (.iload_n 2, 1) := by decide +kernel
theorem dL_spaced_29 : decode cL_spaced 29 = .ok (.iload_n 3, 1) := by decide +kernel
theorem dL_spaced_30 : decode cL_spaced 30 = .ok (.idiv, 1) := by decide +kernel
theorem dL_spaced_31 : decode cL_spaced 31 = .ok (.bipush 9, 2) := by decide +kernel
theorem dL_spaced_33 : decode cL_spaced 33 = .ok (.if_icmp .le 11, 3) := by decide +kernel
theorem dL_spaced_36 : decode cL_spaced 36 = .ok (.iload_n 3, 1) := by decide +kernel
theorem dL_spaced_37 : decode cL_spaced 37 = .ok (.bipush 10, 2) := by decide +kernel
theorem dL_spaced_39 : decode cL_spaced 39 = .ok (.imul, 1) := by decide +kernel
theorem dL_spaced_40 : decode cL_spaced 40 = .ok (.istore_n 3, 1) := by decide +kernel
theorem dL_spaced_41 : decode cL_spaced 41 = .ok (.goto (-13), 3) := by decide +kernel
theorem dL_spaced_44 : decode cL_spaced 44 = .ok (.iload_n 3, 1) := by decide +kernel
theorem dL_spaced_45 : decode cL_spaced 45 = .ok (.ifCond .le 39, 3) := by decide +kernel
theorem dL_spaced_48 : decode cL_spaced 48 = .ok (.aload_n 0, 1) := by decide +kernel
theorem dL_spaced_49 : decode cL_spaced 49 = .ok (.getfield 7, 3) := by decide +kernel
theorem dL_spaced_52 : decode cL_spaced 52 = .ok (.aload_n 0, 1) := by decide +kernel
theorem dL_spaced_53 : decode cL_spaced 53 = .ok (.getfield 19, 3) := by decide +kernel
theorem dL_spaced_56 : decode cL_spaced 56 = .ok (.bipush 48, 2) := by decide +kernel
theorem dL_spaced_58 : decode cL_spaced 58 = .ok (.iload_n 2, 1) := by decide +kernel
theorem dL_spaced_59 : decode cL_spaced 59 = .ok (.iload_n 3, 1) := by decide +kernel
theorem dL_spaced_60 : decode cL_spaced 60 = .ok (.idiv, 1) := by decide +kernel
theorem dL_spaced_61 : decode cL_spaced 61 = .ok (.bipush 10, 2) := by decide +kernel
theorem dL_spaced_63 : decode cL_spaced 63 = .ok (.irem, 1) := by decide +kernel
theorem dL_spaced_64 : decode cL_spaced 64 = .ok (.iadd, 1) := by decide +kernel
theorem dL_spaced_65 : decode cL_spaced 65 = .ok (.iastore, 1) := by decide +kernel
theorem dL_spaced_66 : decode cL_spaced 66 = .ok (.aload_n 0, 1) := by decide +kernel
theorem dL_spaced_67 : decode cL_spaced 67 = .ok (.dup, 1) := by decide +kernel
theorem dL_spaced_68 : decode cL_spaced 68 = .ok (.getfield 19, 3) := by decide +kernel
theorem dL_spaced_71 : decode cL_spaced 71 = .ok (.iconst 1, 1) := by decide +kernel
theorem dL_spaced_72 : decode cL_spaced 72 = .ok (.iadd, 1) := by decide +kernel
theorem dL_spaced_73 : decode cL_spaced 73 = .ok (.putfield 19, 3) := by decide +kernel
theorem dL_spaced_76 : decode cL_spaced 76 = .ok (.iload_n 3, 1) := by decide +kernel
theorem dL_spaced_77 : decode cL_spaced 77 = .ok (.bipush 10, 2) := by decide +kernel
theorem dL_spaced_79 : decode cL_spaced 79 = .ok (.idiv, 1) := by decide +kernel
theorem dL_spaced_80 : decode cL_spaced 80 = .ok (.istore_n 3, 1) := by decide +kernel
theorem dL_spaced_81 : decode cL_spaced 81 = .ok (.goto (-37), 3) := by decide +kernel
theorem dL_spaced_84 : decode cL_spaced 84 = .ok (.return_, 1) := by decide +kernel
theorem dL_cell_0 : decode cL_cell 0 = .ok (.iload_n 1, 1) := by decide +kernel
theorem dL_cell_1 : decode cL_cell 1 = .ok (.aload_n 0, 1) := by decide +kernel
theorem dL_cell_2 : decode cL_cell 2 = .ok (.arraylength, 1) := by decide +kernel
theorem dL_cell_3 : decode cL_cell 3 = .ok (.if_icmp .ge 12, 3) := by decide +kernel
theorem dL_cell_6 : decode cL_cell 6 = .ok (.aload_n 0, 1) := by decide +kernel
theorem dL_cell_7 : decode cL_cell 7 = .ok (.iload_n 1, 1) := by decide +kernel
theorem dL_cell_8 : decode cL_cell 8 = .ok (.iaload, 1) := by decide +kernel
theorem dL_cell_9 : decode cL_cell 9 = .ok (.ldc 35, 2) := by decide +kernel
theorem dL_cell_11 : decode cL_cell 11 = .ok (.iand, 1) := by decide +kernel
theorem dL_cell_12 : decode cL_cell 12 = .ok (.goto 4, 3) := by decide +kernel
theorem dL_cell_15 : decode cL_cell 15 = .ok (.iconst 0, 1) := by decide +kernel
theorem dL_cell_16 : decode cL_cell 16 = .ok (.ireturn, 1) := by decide +kernel
theorem dL_feeds_0 : decode cL_feeds 0 = .ok (.iconst 0, 1) := by decide +kernel
theorem dL_feeds_1 : decode cL_feeds 1 = .ok (.istore_n 2, 1) := by decide +kernel
theorem dL_feeds_2 : decode cL_feeds 2 = .ok (.iload_n 2, 1) := by decide +kernel
theorem dL_feeds_3 : decode cL_feeds 3 = .ok (.aload_n 0, 1) := by decide +kernel
theorem dL_feeds_4 : decode cL_feeds 4 = .ok (.getfield 19, 3) := by decide +kernel
theorem dL_feeds_7 : decode cL_feeds 7 = .ok (.if_icmp .ge 90, 3) := by decide +kernel
theorem dL_feeds_10 : decode cL_feeds 10 = .ok (.iconst 5, 1) := by decide +kernel
theorem dL_feeds_11 : decode cL_feeds 11 = .ok (.newarray .int, 2) := by decide +kernel
theorem dL_feeds_13 : decode cL_feeds 13 = .ok (.astore_n 3, 1) := by decide +kernel
theorem dL_feeds_14 : decode cL_feeds 14 = .ok (.iconst 0, 1) := by decide +kernel
theorem dL_feeds_15 : decode cL_feeds 15 = .ok (.istore 4, 2) := by decide +kernel
theorem dL_feeds_17 : decode cL_feeds 17 = .ok (.iload 4, 2) := by decide +kernel
theorem dL_feeds_19 : decode cL_feeds 19 = .ok (.bipush 20, 2) := by decide +kernel
theorem dL_feeds_21 : decode cL_feeds 21 = .ok (.if_icmp .ge 50, 3) := by decide +kernel
theorem dL_feeds_24 : decode cL_feeds 24 = .ok (.aload_n 3, 1) := by decide +kernel
theorem dL_feeds_25 : decode cL_feeds 25 = .ok (.iload 4, 2) := by decide +kernel
theorem dL_feeds_27 : decode cL_feeds 27 = .ok (.iconst 4, 1) := by decide +kernel
theorem dL_feeds_28 : decode cL_feeds 28 = .ok (.idiv, 1) := by decide +kernel
theorem dL_feeds_29 : decode cL_feeds 29 = .ok (.aload_n 3, 1) := by decide +kernel
theorem dL_feeds_30 : decode cL_feeds 30 = .ok (.iload 4, 2) := by decide +kernel
theorem dL_feeds_32 : decode cL_feeds 32 = .ok (.iconst 4, 1) := by decide +kernel
theorem dL_feeds_33 : decode cL_feeds 33 = .ok (.idiv, 1) := by decide +kernel
theorem dL_feeds_34 : decode cL_feeds 34 = .ok (.iaload, 1) := by decide +kernel
theorem dL_feeds_35 : decode cL_feeds 35 = .ok (.bipush 8, 2) := by decide +kernel
theorem dL_feeds_37 : decode cL_feeds 37 = .ok (.ishl, 1) := by decide +kernel
theorem dL_feeds_38 : decode cL_feeds 38 = .ok (.iload_n 2, 1) := by decide +kernel
theorem dL_feeds_39 : decode cL_feeds 39 = .ok (.iload 4, 2) := by decide +kernel
theorem dL_feeds_41 : decode cL_feeds 41 = .ok (.iadd, 1) := by decide +kernel
theorem dL_feeds_42 : decode cL_feeds 42 = .ok (.aload_n 0, 1) := by decide +kernel
theorem dL_feeds_43 : decode cL_feeds 43 = .ok (.getfield 19, 3) := by decide +kernel
theorem dL_feeds_46 : decode cL_feeds 46 = .ok (.if_icmp .ge 15, 3) := by decide +kernel
theorem dL_feeds_49 : decode cL_feeds 49 = .ok (.aload_n 0, 1) := by decide +kernel
theorem dL_feeds_50 : decode cL_feeds 50 = .ok (.getfield 7, 3) := by decide +kernel
theorem dL_feeds_53 : decode cL_feeds 53 = .ok (.iload_n 2, 1) := by decide +kernel
theorem dL_feeds_54 : decode cL_feeds 54 = .ok (.iload 4, 2) := by decide +kernel
theorem dL_feeds_56 : decode cL_feeds 56 = .ok (.iadd, 1) := by decide +kernel
theorem dL_feeds_57 : decode cL_feeds 57 = .ok (.iaload, 1) := by decide +kernel
theorem dL_feeds_58 : decode cL_feeds 58 = .ok (.goto 5, 3) := by decide +kernel
theorem dL_feeds_61 : decode cL_feeds 61 = .ok (.bipush 32, 2) := by decide +kernel
theorem dL_feeds_63 : decode cL_feeds 63 = .ok (.ior, 1) := by decide +kernel
theorem dL_feeds_64 : decode cL_feeds 64 = .ok (.iastore, 1) := by decide +kernel
theorem dL_feeds_65 : decode cL_feeds 65 = .ok (.iinc 4 1, 3) := by decide +kernel
theorem dL_feeds_68 : decode cL_feeds 68 = .ok (.goto (-51), 3) := by decide +kernel
theorem dL_feeds_71 : decode cL_feeds 71 = .ok (.aload_n 1, 1) := by decide +kernel
theorem dL_feeds_72 : decode cL_feeds 72 = .ok (.aload_n 3, 1) := by decide +kernel
theorem dL_feeds_73 : decode cL_feeds 73 = .ok (.iconst 0, 1) := by decide +kernel
theorem dL_feeds_74 : decode cL_feeds 74 = .ok (.iaload, 1) := by decide +kernel
theorem dL_feeds_75 : decode cL_feeds 75 = .ok (.aload_n 3, 1) := by decide +kernel
theorem dL_feeds_76 : decode cL_feeds 76 = .ok (.iconst 1, 1) := by decide +kernel
theorem dL_feeds_77 : decode cL_feeds 77 = .ok (.iaload, 1) := by decide +kernel
theorem dL_feeds_78 : decode cL_feeds 78 = .ok (.aload_n 3, 1) := by decide +kernel
theorem dL_feeds_79 : decode cL_feeds 79 = .ok (.iconst 2, 1) := by decide +kernel
theorem dL_feeds_80 : decode cL_feeds 80 = .ok (.iaload, 1) := by decide +kernel
theorem dL_feeds_81 : decode cL_feeds 81 = .ok (.aload_n 3, 1) := by decide +kernel
theorem dL_feeds_82 : decode cL_feeds 82 = .ok (.iconst 3, 1) := by decide +kernel
theorem dL_feeds_83 : decode cL_feeds 83 = .ok (.iaload, 1) := by decide +kernel
theorem dL_feeds_84 : decode cL_feeds 84 = .ok (.aload_n 3, 1) := by decide +kernel
theorem dL_feeds_85 : decode cL_feeds 85 = .ok (.iconst 4, 1) := by decide +kernel
theorem dL_feeds_86 : decode cL_feeds 86 = .ok (.iaload, 1) := by decide +kernel
theorem dL_feeds_87 : decode cL_feeds 87 = .ok (.invokevirtual 36, 3) := by decide +kernel
theorem dL_feeds_90 : decode cL_feeds 90 = .ok (.pop, 1) := by decide +kernel
theorem dL_feeds_91 : decode cL_feeds 91 = .ok (.iinc 2 20, 3) := by decide +kernel
theorem dL_feeds_94 : decode cL_feeds 94 = .ok (.goto (-92), 3) := by decide +kernel
theorem dL_feeds_97 : decode cL_feeds 97 = .ok (.aload_n 0, 1) := by decide +kernel
theorem dL_feeds_98 : decode cL_feeds 98 = .ok (.getfield 19, 3) := by decide +kernel
theorem dL_feeds_101 : decode cL_feeds 101 = .ok (.istore_n 2, 1) := by decide +kernel
theorem dL_feeds_102 : decode cL_feeds 102 = .ok (.aload_n 0, 1) := by decide +kernel
theorem dL_feeds_103 : decode cL_feeds 103 = .ok (.iconst 0, 1) := by decide +kernel
theorem dL_feeds_104 : decode cL_feeds 104 = .ok (.putfield 19, 3) := by decide +kernel
theorem dL_feeds_107 : decode cL_feeds 107 = .ok (.iload_n 2, 1) := by decide +kernel
theorem dL_feeds_108 : decode cL_feeds 108 = .ok (.ireturn, 1) := by decide +kernel
theorem dL_loads_0 : decode cL_loads 0 = .ok (.aload_n 2, 1) := by decide +kernel
theorem dL_loads_1 : decode cL_loads 1 = .ok (.iconst 0, 1) := by decide +kernel
theorem dL_loads_2 : decode cL_loads 2 = .ok (.invokestatic 42, 3) := by decide +kernel
theorem dL_loads_5 : decode cL_loads 5 = .ok (.istore_n 3, 1) := by decide +kernel
theorem dL_loads_6 : decode cL_loads 6 = .ok (.iconst 2, 1) := by decide +kernel
theorem dL_loads_7 : decode cL_loads 7 = .ok (.iload_n 3, 1) := by decide +kernel
theorem dL_loads_8 : decode cL_loads 8 = .ok (.iconst 4, 1) := by decide +kernel
theorem dL_loads_9 : decode cL_loads 9 = .ok (.irem, 1) := by decide +kernel
theorem dL_loads_10 : decode cL_loads 10 = .ok (.iadd, 1) := by decide +kernel
theorem dL_loads_11 : decode cL_loads 11 = .ok (.istore 4, 2) := by decide +kernel
theorem dL_loads_13 : decode cL_loads 13 = .ok (.aload_n 0, 1) := by decide +kernel
theorem dL_loads_14 : decode cL_loads 14 = .ok (.ldc 46, 2) := by decide +kernel
theorem dL_loads_16 : decode cL_loads 16 = .ok (.invokevirtual 31, 3) := by decide +kernel
theorem dL_loads_19 : decode cL_loads 19 = .ok (.aload_n 0, 1) := by decide +kernel
theorem dL_loads_20 : decode cL_loads 20 = .ok (.iload 4, 2) := by decide +kernel
theorem dL_loads_22 : decode cL_loads 22 = .ok (.invokevirtual 48, 3) := by decide +kernel
theorem dL_loads_25 : decode cL_loads 25 = .ok (.aload_n 0, 1) := by decide +kernel
theorem dL_loads_26 : decode cL_loads 26 = .ok (.ldc 52, 2) := by decide +kernel
theorem dL_loads_28 : decode cL_loads 28 = .ok (.invokevirtual 48, 3) := by decide +kernel
theorem dL_loads_31 : decode cL_loads 31 = .ok (.aload_n 0, 1) := by decide +kernel
theorem dL_loads_32 : decode cL_loads 32 = .ok (.ldc 53, 2) := by decide +kernel
theorem dL_loads_34 : decode cL_loads 34 = .ok (.invokevirtual 31, 3) := by decide +kernel
theorem dL_loads_37 : decode cL_loads 37 = .ok (.iconst 0, 1) := by decide +kernel
theorem dL_loads_38 : decode cL_loads 38 = .ok (.istore 5, 2) := by decide +kernel
theorem dL_loads_40 : decode cL_loads 40 = .ok (.iload 5, 2) := by decide +kernel
theorem dL_loads_42 : decode cL_loads 42 = .ok (.iconst 2, 1) := by decide +kernel
theorem dL_loads_43 : decode cL_loads 43 = .ok (.if_icmp .ge 99, 3) := by decide +kernel
theorem dL_loads_46 : decode cL_loads 46 = .ok (.aload_n 2, 1) := by decide +kernel
theorem dL_loads_47 : decode cL_loads 47 = .ok (.iconst 1, 1) := by decide +kernel
theorem dL_loads_48 : decode cL_loads 48 = .ok (.iload 5, 2) := by decide +kernel
theorem dL_loads_50 : decode cL_loads 50 = .ok (.iadd, 1) := by decide +kernel
theorem dL_loads_51 : decode cL_loads 51 = .ok (.invokestatic 42, 3) := by decide +kernel
theorem dL_loads_54 : decode cL_loads 54 = .ok (.istore 6, 2) := by decide +kernel
theorem dL_loads_56 : decode cL_loads 56 = .ok (.aload_n 0, 1) := by decide +kernel
theorem dL_loads_57 : decode cL_loads 57 = .ok (.ldc 55, 2) := by decide +kernel
theorem dL_loads_59 : decode cL_loads 59 = .ok (.invokevirtual 31, 3) := by decide +kernel
theorem dL_loads_62 : decode cL_loads 62 = .ok (.aload_n 0, 1) := by decide +kernel
theorem dL_loads_63 : decode cL_loads 63 = .ok (.iload 5, 2) := by decide +kernel
theorem dL_loads_65 : decode cL_loads 65 = .ok (.invokevirtual 48, 3) := by decide +kernel
theorem dL_loads_68 : decode cL_loads 68 = .ok (.aload_n 0, 1) := by decide +kernel
theorem dL_loads_69 : decode cL_loads 69 = .ok (.sipush 500, 3) := by decide +kernel
theorem dL_loads_72 : decode cL_loads 72 = .ok (.iload 6, 2) := by decide +kernel
theorem dL_loads_74 : decode cL_loads 74 = .ok (.sipush 3000, 3) := by decide +kernel
theorem dL_loads_77 : decode cL_loads 77 = .ok (.irem, 1) := by decide +kernel
theorem dL_loads_78 : decode cL_loads 78 = .ok (.iadd, 1) := by decide +kernel
theorem dL_loads_79 : decode cL_loads 79 = .ok (.invokevirtual 48, 3) := by decide +kernel
theorem dL_loads_82 : decode cL_loads 82 = .ok (.aload_n 0, 1) := by decide +kernel
theorem dL_loads_83 : decode cL_loads 83 = .ok (.sipush 1000, 3) := by decide +kernel
theorem dL_loads_86 : decode cL_loads 86 = .ok (.iload 6, 2) := by decide +kernel
theorem dL_loads_88 : decode cL_loads 88 = .ok (.sipush 3000, 3) := by decide +kernel
theorem dL_loads_91 : decode cL_loads 91 = .ok (.idiv, 1) := by decide +kernel
theorem dL_loads_92 : decode cL_loads 92 = .ok (.sipush 30000, 3) := by decide +kernel
theorem dL_loads_95 : decode cL_loads 95 = .ok (.irem, 1) := by decide +kernel
theorem dL_loads_96 : decode cL_loads 96 = .ok (.iadd, 1) := by decide +kernel
theorem dL_loads_97 : decode cL_loads 97 = .ok (.invokevirtual 48, 3) := by decide +kernel
theorem dL_loads_100 : decode cL_loads 100 = .ok (.aload_n 0, 1) := by decide +kernel
theorem dL_loads_101 : decode cL_loads 101 = .ok (.iload_n 3, 1) := by decide +kernel
theorem dL_loads_102 : decode cL_loads 102 = .ok (.iconst 4, 1) := by decide +kernel
theorem dL_loads_103 : decode cL_loads 103 = .ok (.idiv, 1) := by decide +kernel
theorem dL_loads_104 : decode cL_loads 104 = .ok (.iconst 3, 1) := by decide +kernel
theorem dL_loads_105 : decode cL_loads 105 = .ok (.irem, 1) := by decide +kernel
theorem dL_loads_106 : decode cL_loads 106 = .ok (.ifCond .ne 20, 3) := by decide +kernel
theorem dL_loads_109 : decode cL_loads 109 = .ok (.iload 6, 2) := by decide +kernel
theorem dL_loads_111 : decode cL_loads 111 = .ok (.sipush 1000, 3) := by decide +kernel
theorem dL_loads_114 : decode cL_loads 114 = .ok (.idiv, 1) := by decide +kernel
theorem dL_loads_115 : decode cL_loads 115 = .ok (.sipush 2001, 3) := by decide +kernel
theorem dL_loads_118 : decode cL_loads 118 = .ok (.irem, 1) := by decide +kernel
theorem dL_loads_119 : decode cL_loads 119 = .ok (.sipush 1000, 3) := by decide +kernel
theorem dL_loads_122 : decode cL_loads 122 = .ok (.isub, 1) := by decide +kernel
theorem dL_loads_123 : decode cL_loads 123 = .ok (.goto 4, 3) := by decide +kernel
theorem dL_loads_126 : decode cL_loads 126 = .ok (.iconst 0, 1) := by decide +kernel
theorem dL_loads_127 : decode cL_loads 127 = .ok (.invokevirtual 48, 3) := by decide +kernel
theorem dL_loads_130 : decode cL_loads 130 = .ok (.aload_n 0, 1) := by decide +kernel
theorem dL_loads_131 : decode cL_loads 131 = .ok (.ldc 53, 2) := by decide +kernel
theorem dL_loads_133 : decode cL_loads 133 = .ok (.invokevirtual 31, 3) := by decide +kernel
theorem dL_loads_136 : decode cL_loads 136 = .ok (.iinc 5 1, 3) := by decide +kernel
theorem dL_loads_139 : decode cL_loads 139 = .ok (.goto (-99), 3) := by decide +kernel
theorem dL_loads_142 : decode cL_loads 142 = .ok (.iconst 0, 1) := by decide +kernel
theorem dL_loads_143 : decode cL_loads 143 = .ok (.istore 5, 2) := by decide +kernel
theorem dL_loads_145 : decode cL_loads 145 = .ok (.iload 5, 2) := by decide +kernel
theorem dL_loads_147 : decode cL_loads 147 = .ok (.iload 4, 2) := by decide +kernel
theorem dL_loads_149 : decode cL_loads 149 = .ok (.if_icmp .ge 52, 3) := by decide +kernel
theorem dL_loads_152 : decode cL_loads 152 = .ok (.aload_n 0, 1) := by decide +kernel
theorem dL_loads_153 : decode cL_loads 153 = .ok (.ldc 57, 2) := by decide +kernel
theorem dL_loads_155 : decode cL_loads 155 = .ok (.invokevirtual 31, 3) := by decide +kernel
theorem dL_loads_158 : decode cL_loads 158 = .ok (.aload_n 0, 1) := by decide +kernel
theorem dL_loads_159 : decode cL_loads 159 = .ok (.iload 5, 2) := by decide +kernel
theorem dL_loads_161 : decode cL_loads 161 = .ok (.invokevirtual 48, 3) := by decide +kernel
theorem dL_loads_164 : decode cL_loads 164 = .ok (.aload_n 0, 1) := by decide +kernel
theorem dL_loads_165 : decode cL_loads 165 = .ok (.ldc 52, 2) := by decide +kernel
theorem dL_loads_167 : decode cL_loads 167 = .ok (.aload_n 2, 1) := by decide +kernel
theorem dL_loads_168 : decode cL_loads 168 = .ok (.iconst 3, 1) := by decide +kernel
theorem dL_loads_169 : decode cL_loads 169 = .ok (.invokestatic 42, 3) := by decide +kernel
theorem dL_loads_172 : decode cL_loads 172 = .ok (.iconst 1, 1) := by decide +kernel
theorem dL_loads_173 : decode cL_loads 173 = .ok (.iload 5, 2) := by decide +kernel
theorem dL_loads_175 : decode cL_loads 175 = .ok (.iadd, 1) := by decide +kernel
theorem dL_loads_176 : decode cL_loads 176 = .ok (.idiv, 1) := by decide +kernel
theorem dL_loads_177 : decode cL_loads 177 = .ok (.sipush 2000, 3) := by decide +kernel
theorem dL_loads_180 : decode cL_loads 180 = .ok (.irem, 1) := by decide +kernel
theorem dL_loads_181 : decode cL_loads 181 = .ok (.isub, 1) := by decide +kernel
theorem dL_loads_182 : decode cL_loads 182 = .ok (.sipush 200, 3) := by decide +kernel
theorem dL_loads_185 : decode cL_loads 185 = .ok (.iadd, 1) := by decide +kernel
theorem dL_loads_186 : decode cL_loads 186 = .ok (.invokevirtual 48, 3) := by decide +kernel
theorem dL_loads_189 : decode cL_loads 189 = .ok (.aload_n 0, 1) := by decide +kernel
theorem dL_loads_190 : decode cL_loads 190 = .ok (.ldc 53, 2) := by decide +kernel
theorem dL_loads_192 : decode cL_loads 192 = .ok (.invokevirtual 31, 3) := by decide +kernel
theorem dL_loads_195 : decode cL_loads 195 = .ok (.iinc 5 1, 3) := by decide +kernel
theorem dL_loads_198 : decode cL_loads 198 = .ok (.goto (-53), 3) := by decide +kernel
theorem dL_loads_201 : decode cL_loads 201 = .ok (.iload_n 3, 1) := by decide +kernel
theorem dL_loads_202 : decode cL_loads 202 = .ok (.bipush 12, 2) := by decide +kernel
theorem dL_loads_204 : decode cL_loads 204 = .ok (.idiv, 1) := by decide +kernel
theorem dL_loads_205 : decode cL_loads 205 = .ok (.bipush 8, 2) := by decide +kernel
theorem dL_loads_207 : decode cL_loads 207 = .ok (.irem, 1) := by decide +kernel
theorem dL_loads_208 : decode cL_loads 208 = .ok (.istore 5, 2) := by decide +kernel
theorem dL_loads_210 : decode cL_loads 210 = .ok (.iconst 0, 1) := by decide +kernel
theorem dL_loads_211 : decode cL_loads 211 = .ok (.istore 6, 2) := by decide +kernel
theorem dL_loads_213 : decode cL_loads 213 = .ok (.iload 6, 2) := by decide +kernel
theorem dL_loads_215 : decode cL_loads 215 = .ok (.iload 5, 2) := by decide +kernel
theorem dL_loads_217 : decode cL_loads 217 = .ok (.if_icmp .ge 127, 3) := by decide +kernel
theorem dL_loads_220 : decode cL_loads 220 = .ok (.aload_n 2, 1) := by decide +kernel
theorem dL_loads_221 : decode cL_loads 221 = .ok (.iconst 4, 1) := by decide +kernel
theorem dL_loads_222 : decode cL_loads 222 = .ok (.iload 6, 2) := by decide +kernel
theorem dL_loads_224 : decode cL_loads 224 = .ok (.iadd, 1) := by decide +kernel
theorem dL_loads_225 : decode cL_loads 225 = .ok (.invokestatic 42, 3) := by decide +kernel
theorem dL_loads_228 : decode cL_loads 228 = .ok (.istore 7, 2) := by decide +kernel
theorem dL_loads_230 : decode cL_loads 230 = .ok (.aload_n 0, 1) := by decide +kernel
theorem dL_loads_231 : decode cL_loads 231 = .ok (.ldc 59, 2) := by decide +kernel
theorem dL_loads_233 : decode cL_loads 233 = .ok (.invokevirtual 31, 3) := by decide +kernel
theorem dL_loads_236 : decode cL_loads 236 = .ok (.aload_n 0, 1) := by decide +kernel
theorem dL_loads_237 : decode cL_loads 237 = .ok (.iload 7, 2) := by decide +kernel
theorem dL_loads_239 : decode cL_loads 239 = .ok (.iconst 2, 1) := by decide +kernel
theorem dL_loads_240 : decode cL_loads 240 = .ok (.irem, 1) := by decide +kernel
theorem dL_loads_241 : decode cL_loads 241 = .ok (.invokevirtual 48, 3) := by decide +kernel
theorem dL_loads_244 : decode cL_loads 244 = .ok (.aload_n 0, 1) := by decide +kernel
theorem dL_loads_245 : decode cL_loads 245 = .ok (.iload 7, 2) := by decide +kernel
theorem dL_loads_247 : decode cL_loads 247 = .ok (.iconst 2, 1) := by decide +kernel
theorem dL_loads_248 : decode cL_loads 248 = .ok (.idiv, 1) := by decide +kernel
theorem dL_loads_249 : decode cL_loads 249 = .ok (.iload 4, 2) := by decide +kernel
theorem dL_loads_251 : decode cL_loads 251 = .ok (.irem, 1) := by decide +kernel
theorem dL_loads_252 : decode cL_loads 252 = .ok (.invokevirtual 48, 3) := by decide +kernel
theorem dL_loads_255 : decode cL_loads 255 = .ok (.aload_n 0, 1) := by decide +kernel
theorem dL_loads_256 : decode cL_loads 256 = .ok (.iconst 1, 1) := by decide +kernel
theorem dL_loads_257 : decode cL_loads 257 = .ok (.iload 7, 2) := by decide +kernel
theorem dL_loads_259 : decode cL_loads 259 = .ok (.bipush 16, 2) := by decide +kernel
theorem dL_loads_261 : decode cL_loads 261 = .ok (.idiv, 1) := by decide +kernel
theorem dL_loads_262 : decode cL_loads 262 = .ok (.bipush 10, 2) := by decide +kernel
theorem dL_loads_264 : decode cL_loads 264 = .ok (.irem, 1) := by decide +kernel
theorem dL_loads_265 : decode cL_loads 265 = .ok (.iadd, 1) := by decide +kernel
theorem dL_loads_266 : decode cL_loads 266 = .ok (.invokevirtual 48, 3) := by decide +kernel
theorem dL_loads_269 : decode cL_loads 269 = .ok (.aload_n 0, 1) := by decide +kernel
theorem dL_loads_270 : decode cL_loads 270 = .ok (.bipush 50, 2) := by decide +kernel
theorem dL_loads_272 : decode cL_loads 272 = .ok (.iload 7, 2) := by decide +kernel
theorem dL_loads_274 : decode cL_loads 274 = .ok (.sipush 160, 3) := by decide +kernel
theorem dL_loads_277 : decode cL_loads 277 = .ok (.idiv, 1) := by decide +kernel
theorem dL_loads_278 : decode cL_loads 278 = .ok (.sipush 951, 3) := by decide +kernel
theorem dL_loads_281 : decode cL_loads 281 = .ok (.irem, 1) := by decide +kernel
theorem dL_loads_282 : decode cL_loads 282 = .ok (.iadd, 1) := by decide +kernel
theorem dL_loads_283 : decode cL_loads 283 = .ok (.invokevirtual 48, 3) := by decide +kernel
theorem dL_loads_286 : decode cL_loads 286 = .ok (.aload_n 0, 1) := by decide +kernel
theorem dL_loads_287 : decode cL_loads 287 = .ok (.bipush 100, 2) := by decide +kernel
theorem dL_loads_289 : decode cL_loads 289 = .ok (.iload 7, 2) := by decide +kernel
theorem dL_loads_291 : decode cL_loads 291 = .ok (.ldc 61, 2) := by decide +kernel
theorem dL_loads_293 : decode cL_loads 293 = .ok (.idiv, 1) := by decide +kernel
theorem dL_loads_294 : decode cL_loads 294 = .ok (.sipush 1900, 3) := by decide +kernel
theorem dL_loads_297 : decode cL_loads 297 = .ok (.irem, 1) := by decide +kernel
theorem dL_loads_298 : decode cL_loads 298 = .ok (.iadd, 1) := by decide +kernel
theorem dL_loads_299 : decode cL_loads 299 = .ok (.invokevirtual 48, 3) := by decide +kernel
theorem dL_loads_302 : decode cL_loads 302 = .ok (.iload 7, 2) := by decide +kernel
theorem dL_loads_304 : decode cL_loads 304 = .ok (.iconst 3, 1) := by decide +kernel
theorem dL_loads_305 : decode cL_loads 305 = .ok (.irem, 1) := by decide +kernel
theorem dL_loads_306 : decode cL_loads 306 = .ok (.ifCond .ne 26, 3) := by decide +kernel
theorem dL_loads_309 : decode cL_loads 309 = .ok (.aload_n 0, 1) := by decide +kernel
theorem dL_loads_310 : decode cL_loads 310 = .ok (.ldc 62, 2) := by decide +kernel
theorem dL_loads_312 : decode cL_loads 312 = .ok (.invokevirtual 31, 3) := by decide +kernel
theorem dL_loads_315 : decode cL_loads 315 = .ok (.aload_n 0, 1) := by decide +kernel
theorem dL_loads_316 : decode cL_loads 316 = .ok (.iload 7, 2) := by decide +kernel
theorem dL_loads_318 : decode cL_loads 318 = .ok (.bipush 7, 2) := by decide +kernel
theorem dL_loads_320 : decode cL_loads 320 = .ok (.idiv, 1) := by decide +kernel
theorem dL_loads_321 : decode cL_loads 321 = .ok (.sipush 401, 3) := by decide +kernel
theorem dL_loads_324 : decode cL_loads 324 = .ok (.irem, 1) := by decide +kernel
theorem dL_loads_325 : decode cL_loads 325 = .ok (.sipush 200, 3) := by decide +kernel
theorem dL_loads_328 : decode cL_loads 328 = .ok (.isub, 1) := by decide +kernel
theorem dL_loads_329 : decode cL_loads 329 = .ok (.invokevirtual 48, 3) := by decide +kernel
theorem dL_loads_332 : decode cL_loads 332 = .ok (.aload_n 0, 1) := by decide +kernel
theorem dL_loads_333 : decode cL_loads 333 = .ok (.ldc 53, 2) := by decide +kernel
theorem dL_loads_335 : decode cL_loads 335 = .ok (.invokevirtual 31, 3) := by decide +kernel
theorem dL_loads_338 : decode cL_loads 338 = .ok (.iinc 6 1, 3) := by decide +kernel
theorem dL_loads_341 : decode cL_loads 341 = .ok (.goto (-128), 3) := by decide +kernel
theorem dL_loads_344 : decode cL_loads 344 = .ok (.aload_n 1, 1) := by decide +kernel
theorem dL_loads_345 : decode cL_loads 345 = .ok (.aload_n 0, 1) := by decide +kernel
theorem dL_loads_346 : decode cL_loads 346 = .ok (.aload_n 1, 1) := by decide +kernel
theorem dL_loads_347 : decode cL_loads 347 = .ok (.invokevirtual 64, 3) := by decide +kernel
theorem dL_loads_350 : decode cL_loads 350 = .ok (.invokevirtual 68, 3) := by decide +kernel
theorem dL_loads_353 : decode cL_loads 353 = .ok (.istore 6, 2) := by decide +kernel
theorem dL_loads_355 : decode cL_loads 355 = .ok (.iload 6, 2) := by decide +kernel
theorem dL_loads_357 : decode cL_loads 357 = .ok (.ifCond .lt 85, 3) := by decide +kernel
theorem dL_loads_360 : decode cL_loads 360 = .ok (.aload_n 1, 1) := by decide +kernel
theorem dL_loads_361 : decode cL_loads 361 = .ok (.invokevirtual 72, 3) := by decide +kernel
theorem dL_loads_364 : decode cL_loads 364 = .ok (.iconst (-1), 1) := by decide +kernel
theorem dL_loads_365 : decode cL_loads 365 = .ok (.if_icmp .ne 77, 3) := by decide +kernel
theorem dL_loads_368 : decode cL_loads 368 = .ok (.aload_n 1, 1) := by decide +kernel
theorem dL_loads_369 : decode cL_loads 369 = .ok (.iconst 0, 1) := by decide +kernel
theorem dL_loads_370 : decode cL_loads 370 = .ok (.invokevirtual 75, 3) := by decide +kernel
theorem dL_loads_373 : decode cL_loads 373 = .ok (.iload 4, 2) := by decide +kernel
theorem dL_loads_375 : decode cL_loads 375 = .ok (.if_icmp .ne 67, 3) := by decide +kernel
theorem dL_loads_378 : decode cL_loads 378 = .ok (.aload_n 1, 1) := by decide +kernel
theorem dL_loads_379 : decode cL_loads 379 = .ok (.iconst 2, 1) := by decide +kernel
theorem dL_loads_380 : decode cL_loads 380 = .ok (.invokevirtual 75, 3) := by decide +kernel
theorem dL_loads_383 : decode cL_loads 383 = .ok (.iload 5, 2) := by decide +kernel
theorem dL_loads_385 : decode cL_loads 385 = .ok (.if_icmp .ne 57, 3) := by decide +kernel
theorem dL_loads_388 : decode cL_loads 388 = .ok (.aload_n 1, 1) := by decide +kernel
theorem dL_loads_389 : decode cL_loads 389 = .ok (.iconst 3, 1) := by decide +kernel
theorem dL_loads_390 : decode cL_loads 390 = .ok (.invokevirtual 75, 3) := by decide +kernel
theorem dL_loads_393 : decode cL_loads 393 = .ok (.iload 6, 2) := by decide +kernel
theorem dL_loads_395 : decode cL_loads 395 = .ok (.if_icmp .ne 47, 3) := by decide +kernel
theorem dL_loads_398 : decode cL_loads 398 = .ok (.aload_n 1, 1) := by decide +kernel
theorem dL_loads_399 : decode cL_loads 399 = .ok (.iconst 3, 1) := by decide +kernel
theorem dL_loads_400 : decode cL_loads 400 = .ok (.invokevirtual 75, 3) := by decide +kernel
theorem dL_loads_403 : decode cL_loads 403 = .ok (.aload_n 1, 1) := by decide +kernel
theorem dL_loads_404 : decode cL_loads 404 = .ok (.iconst 4, 1) := by decide +kernel
theorem dL_loads_405 : decode cL_loads 405 = .ok (.invokevirtual 75, 3) := by decide +kernel
theorem dL_loads_408 : decode cL_loads 408 = .ok (.iadd, 1) := by decide +kernel
theorem dL_loads_409 : decode cL_loads 409 = .ok (.aload_n 1, 1) := by decide +kernel
theorem dL_loads_410 : decode cL_loads 410 = .ok (.iconst 5, 1) := by decide +kernel
theorem dL_loads_411 : decode cL_loads 411 = .ok (.invokevirtual 75, 3) := by decide +kernel
theorem dL_loads_414 : decode cL_loads 414 = .ok (.iadd, 1) := by decide +kernel
theorem dL_loads_415 : decode cL_loads 415 = .ok (.iload 5, 2) := by decide +kernel
theorem dL_loads_417 : decode cL_loads 417 = .ok (.if_icmp .ne 25, 3) := by decide +kernel
theorem dL_loads_420 : decode cL_loads 420 = .ok (.aload_n 1, 1) := by decide +kernel
theorem dL_loads_421 : decode cL_loads 421 = .ok (.bipush 6, 2) := by decide +kernel
theorem dL_loads_423 : decode cL_loads 423 = .ok (.invokevirtual 75, 3) := by decide +kernel
theorem dL_loads_426 : decode cL_loads 426 = .ok (.aload_n 1, 1) := by decide +kernel
theorem dL_loads_427 : decode cL_loads 427 = .ok (.bipush 7, 2) := by decide +kernel
theorem dL_loads_429 : decode cL_loads 429 = .ok (.invokevirtual 75, 3) := by decide +kernel
theorem dL_loads_432 : decode cL_loads 432 = .ok (.iadd, 1) := by decide +kernel
theorem dL_loads_433 : decode cL_loads 433 = .ok (.iload 5, 2) := by decide +kernel
theorem dL_loads_435 : decode cL_loads 435 = .ok (.if_icmp .ne 7, 3) := by decide +kernel
theorem dL_loads_438 : decode cL_loads 438 = .ok (.iconst 1, 1) := by decide +kernel
theorem dL_loads_439 : decode cL_loads 439 = .ok (.goto 4, 3) := by decide +kernel
theorem dL_loads_442 : decode cL_loads 442 = .ok (.iconst 0, 1) := by decide +kernel
theorem dL_loads_443 : decode cL_loads 443 = .ok (.ireturn, 1) := by decide +kernel
theorem dL_acts_0 : decode cL_acts 0 = .ok (.iload_n 1, 1) := by decide +kernel
theorem dL_acts_1 : decode cL_acts 1 = .ok (.bipush 12, 2) := by decide +kernel
theorem dL_acts_3 : decode cL_acts 3 = .ok (.idiv, 1) := by decide +kernel
theorem dL_acts_4 : decode cL_acts 4 = .ok (.istore_n 2, 1) := by decide +kernel
theorem dL_acts_5 : decode cL_acts 5 = .ok (.aload_n 0, 1) := by decide +kernel
theorem dL_acts_6 : decode cL_acts 6 = .ok (.iconst 2, 1) := by decide +kernel
theorem dL_acts_7 : decode cL_acts 7 = .ok (.invokevirtual 75, 3) := by decide +kernel
theorem dL_acts_10 : decode cL_acts 10 = .ok (.istore_n 3, 1) := by decide +kernel
theorem dL_acts_11 : decode cL_acts 11 = .ok (.iload_n 1, 1) := by decide +kernel
theorem dL_acts_12 : decode cL_acts 12 = .ok (.bipush 12, 2) := by decide +kernel
theorem dL_acts_14 : decode cL_acts 14 = .ok (.irem, 1) := by decide +kernel
theorem dL_acts_15 : decode cL_acts 15 = .ok (.tableswitch 280 0 10 #[57, 57, 80, 93, 122, 150, 178, 197, 214, 214, 230], 57) := by decide +kernel
theorem dL_acts_72 : decode cL_acts 72 = .ok (.aload_n 0, 1) := by decide +kernel
theorem dL_acts_73 : decode cL_acts 73 = .ok (.iload_n 2, 1) := by decide +kernel
theorem dL_acts_74 : decode cL_acts 74 = .ok (.aload_n 0, 1) := by decide +kernel
theorem dL_acts_75 : decode cL_acts 75 = .ok (.iconst 0, 1) := by decide +kernel
theorem dL_acts_76 : decode cL_acts 76 = .ok (.invokevirtual 75, 3) := by decide +kernel
theorem dL_acts_79 : decode cL_acts 79 = .ok (.irem, 1) := by decide +kernel
theorem dL_acts_80 : decode cL_acts 80 = .ok (.ldc 77, 2) := by decide +kernel
theorem dL_acts_82 : decode cL_acts 82 = .ok (.iload_n 2, 1) := by decide +kernel
theorem dL_acts_83 : decode cL_acts 83 = .ok (.bipush 8, 2) := by decide +kernel
theorem dL_acts_85 : decode cL_acts 85 = .ok (.idiv, 1) := by decide +kernel
theorem dL_acts_86 : decode cL_acts 86 = .ok (.sipush 2500, 3) := by decide +kernel
theorem dL_acts_89 : decode cL_acts 89 = .ok (.irem, 1) := by decide +kernel
theorem dL_acts_90 : decode cL_acts 90 = .ok (.iadd, 1) := by decide +kernel
theorem dL_acts_91 : decode cL_acts 91 = .ok (.invokevirtual 78, 3) := by decide +kernel
theorem dL_acts_94 : decode cL_acts 94 = .ok (.ireturn, 1) := by decide +kernel
theorem dL_acts_95 : decode cL_acts 95 = .ok (.aload_n 0, 1) := by decide +kernel
theorem dL_acts_96 : decode cL_acts 96 = .ok (.ldc 82, 2) := by decide +kernel
theorem dL_acts_98 : decode cL_acts 98 = .ok (.iload_n 2, 1) := by decide +kernel
theorem dL_acts_99 : decode cL_acts 99 = .ok (.sipush 2000, 3) := by decide +kernel
theorem dL_acts_102 : decode cL_acts 102 = .ok (.irem, 1) := by decide +kernel
theorem dL_acts_103 : decode cL_acts 103 = .ok (.iadd, 1) := by decide +kernel
theorem dL_acts_104 : decode cL_acts 104 = .ok (.invokevirtual 83, 3) := by decide +kernel
theorem dL_acts_107 : decode cL_acts 107 = .ok (.ireturn, 1) := by decide +kernel
theorem dL_acts_108 : decode cL_acts 108 = .ok (.aload_n 0, 1) := by decide +kernel
theorem dL_acts_109 : decode cL_acts 109 = .ok (.iload_n 2, 1) := by decide +kernel
theorem dL_acts_110 : decode cL_acts 110 = .ok (.aload_n 0, 1) := by decide +kernel
theorem dL_acts_111 : decode cL_acts 111 = .ok (.iconst 0, 1) := by decide +kernel
theorem dL_acts_112 : decode cL_acts 112 = .ok (.invokevirtual 75, 3) := by decide +kernel
theorem dL_acts_115 : decode cL_acts 115 = .ok (.irem, 1) := by decide +kernel
theorem dL_acts_116 : decode cL_acts 116 = .ok (.ldc 86, 2) := by decide +kernel
theorem dL_acts_118 : decode cL_acts 118 = .ok (.iload_n 2, 1) := by decide +kernel
theorem dL_acts_119 : decode cL_acts 119 = .ok (.bipush 8, 2) := by decide +kernel
theorem dL_acts_121 : decode cL_acts 121 = .ok (.idiv, 1) := by decide +kernel
theorem dL_acts_122 : decode cL_acts 122 = .ok (.sipush 2000, 3) := by decide +kernel
theorem dL_acts_125 : decode cL_acts 125 = .ok (.irem, 1) := by decide +kernel
theorem dL_acts_126 : decode cL_acts 126 = .ok (.iadd, 1) := by decide +kernel
theorem dL_acts_127 : decode cL_acts 127 = .ok (.iconst 1, 1) := by decide +kernel
theorem dL_acts_128 : decode cL_acts 128 = .ok (.iload_n 2, 1) := by decide +kernel
theorem dL_acts_129 : decode cL_acts 129 = .ok (.bipush 9, 2) := by decide +kernel
theorem dL_acts_131 : decode cL_acts 131 = .ok (.irem, 1) := by decide +kernel
theorem dL_acts_132 : decode cL_acts 132 = .ok (.iadd, 1) := by decide +kernel
theorem dL_acts_133 : decode cL_acts 133 = .ok (.invokevirtual 87, 3) := by decide +kernel
theorem dL_acts_136 : decode cL_acts 136 = .ok (.ireturn, 1) := by decide +kernel
theorem dL_acts_137 : decode cL_acts 137 = .ok (.iload_n 3, 1) := by decide +kernel
theorem dL_acts_138 : decode cL_acts 138 = .ok (.ifCond .ne 8, 3) := by decide +kernel
theorem dL_acts_141 : decode cL_acts 141 = .ok (.bipush (-9), 2) := by decide +kernel
theorem dL_acts_143 : decode cL_acts 143 = .ok (.goto 21, 3) := by decide +kernel
theorem dL_acts_146 : decode cL_acts 146 = .ok (.aload_n 0, 1) := by decide +kernel
theorem dL_acts_147 : decode cL_acts 147 = .ok (.iload_n 2, 1) := by decide +kernel
theorem dL_acts_148 : decode cL_acts 148 = .ok (.iload_n 3, 1) := by decide +kernel
theorem dL_acts_149 : decode cL_acts 149 = .ok (.irem, 1) := by decide +kernel
theorem dL_acts_150 : decode cL_acts 150 = .ok (.bipush 50, 2) := by decide +kernel
theorem dL_acts_152 : decode cL_acts 152 = .ok (.iload_n 2, 1) := by decide +kernel
theorem dL_acts_153 : decode cL_acts 153 = .ok (.bipush 16, 2) := by decide +kernel
theorem dL_acts_155 : decode cL_acts 155 = .ok (.idiv, 1) := by decide +kernel
theorem dL_acts_156 : decode cL_acts 156 = .ok (.sipush 951, 3) := by decide +kernel
theorem dL_acts_159 : decode cL_acts 159 = .ok (.irem, 1) := by decide +kernel
theorem dL_acts_160 : decode cL_acts 160 = .ok (.iadd, 1) := by decide +kernel
theorem dL_acts_161 : decode cL_acts 161 = .ok (.invokevirtual 91, 3) := by decide +kernel
theorem dL_acts_164 : decode cL_acts 164 = .ok (.ireturn, 1) := by decide +kernel
theorem dL_acts_165 : decode cL_acts 165 = .ok (.iload_n 3, 1) := by decide +kernel
theorem dL_acts_166 : decode cL_acts 166 = .ok (.ifCond .ne 8, 3) := by decide +kernel
theorem dL_acts_169 : decode cL_acts 169 = .ok (.bipush (-9), 2) := by decide +kernel
theorem dL_acts_171 : decode cL_acts 171 = .ok (.goto 21, 3) := by decide +kernel
theorem dL_acts_174 : decode cL_acts 174 = .ok (.aload_n 0, 1) := by decide +kernel
theorem dL_acts_175 : decode cL_acts 175 = .ok (.iload_n 2, 1) := by decide +kernel
theorem dL_acts_176 : decode cL_acts 176 = .ok (.iload_n 3, 1) := by decide +kernel
theorem dL_acts_177 : decode cL_acts 177 = .ok (.irem, 1) := by decide +kernel
theorem dL_acts_178 : decode cL_acts 178 = .ok (.invokevirtual 94, 3) := by decide +kernel
theorem dL_acts_181 : decode cL_acts 181 = .ok (.ldc 97, 2) := by decide +kernel
theorem dL_acts_183 : decode cL_acts 183 = .ok (.if_icmp .gt 8, 3) := by decide +kernel
theorem dL_acts_186 : decode cL_acts 186 = .ok (.bipush (-8), 2) := by decide +kernel
theorem dL_acts_188 : decode cL_acts 188 = .ok (.goto 4, 3) := by decide +kernel
theorem dL_acts_191 : decode cL_acts 191 = .ok (.iconst 1, 1) := by decide +kernel
theorem dL_acts_192 : decode cL_acts 192 = .ok (.ireturn, 1) := by decide +kernel
theorem dL_acts_193 : decode cL_acts 193 = .ok (.aload_n 0, 1) := by decide +kernel
theorem dL_acts_194 : decode cL_acts 194 = .ok (.iload_n 2, 1) := by decide +kernel
theorem dL_acts_195 : decode cL_acts 195 = .ok (.iconst 2, 1) := by decide +kernel
theorem dL_acts_196 : decode cL_acts 196 = .ok (.irem, 1) := by decide +kernel
theorem dL_acts_197 : decode cL_acts 197 = .ok (.iload_n 2, 1) := by decide +kernel
theorem dL_acts_198 : decode cL_acts 198 = .ok (.iconst 2, 1) := by decide +kernel
theorem dL_acts_199 : decode cL_acts 199 = .ok (.idiv, 1) := by decide +kernel
theorem dL_acts_200 : decode cL_acts 200 = .ok (.sipush 2001, 3) := by decide +kernel
theorem dL_acts_203 : decode cL_acts 203 = .ok (.irem, 1) := by decide +kernel
theorem dL_acts_204 : decode cL_acts 204 = .ok (.sipush 1000, 3) := by decide +kernel
theorem dL_acts_207 : decode cL_acts 207 = .ok (.isub, 1) := by decide +kernel
theorem dL_acts_208 : decode cL_acts 208 = .ok (.invokevirtual 98, 3) := by decide +kernel
theorem dL_acts_211 : decode cL_acts 211 = .ok (.ireturn, 1) := by decide +kernel
theorem dL_acts_212 : decode cL_acts 212 = .ok (.iload_n 3, 1) := by decide +kernel
theorem dL_acts_213 : decode cL_acts 213 = .ok (.ifCond .ne 8, 3) := by decide +kernel
theorem dL_acts_216 : decode cL_acts 216 = .ok (.bipush (-9), 2) := by decide +kernel
theorem dL_acts_218 : decode cL_acts 218 = .ok (.goto 10, 3) := by decide +kernel
theorem dL_acts_221 : decode cL_acts 221 = .ok (.aload_n 0, 1) := by decide +kernel
theorem dL_acts_222 : decode cL_acts 222 = .ok (.iload_n 2, 1) := by decide +kernel
theorem dL_acts_223 : decode cL_acts 223 = .ok (.iload_n 3, 1) := by decide +kernel
theorem dL_acts_224 : decode cL_acts 224 = .ok (.irem, 1) := by decide +kernel
theorem dL_acts_225 : decode cL_acts 225 = .ok (.invokevirtual 101, 3) := by decide +kernel
theorem dL_acts_228 : decode cL_acts 228 = .ok (.ireturn, 1) := by decide +kernel
theorem dL_acts_229 : decode cL_acts 229 = .ok (.aload_n 0, 1) := by decide +kernel
theorem dL_acts_230 : decode cL_acts 230 = .ok (.iload_n 2, 1) := by decide +kernel
theorem dL_acts_231 : decode cL_acts 231 = .ok (.iconst 2, 1) := by decide +kernel
theorem dL_acts_232 : decode cL_acts 232 = .ok (.irem, 1) := by decide +kernel
theorem dL_acts_233 : decode cL_acts 233 = .ok (.iconst 1, 1) := by decide +kernel
theorem dL_acts_234 : decode cL_acts 234 = .ok (.iload_n 2, 1) := by decide +kernel
theorem dL_acts_235 : decode cL_acts 235 = .ok (.iconst 2, 1) := by decide +kernel
theorem dL_acts_236 : decode cL_acts 236 = .ok (.idiv, 1) := by decide +kernel
theorem dL_acts_237 : decode cL_acts 237 = .ok (.ldc 104, 2) := by decide +kernel
theorem dL_acts_239 : decode cL_acts 239 = .ok (.irem, 1) := by decide +kernel
theorem dL_acts_240 : decode cL_acts 240 = .ok (.iadd, 1) := by decide +kernel
theorem dL_acts_241 : decode cL_acts 241 = .ok (.invokevirtual 105, 3) := by decide +kernel
theorem dL_acts_244 : decode cL_acts 244 = .ok (.ireturn, 1) := by decide +kernel
theorem dL_acts_245 : decode cL_acts 245 = .ok (.aload_n 0, 1) := by decide +kernel
theorem dL_acts_246 : decode cL_acts 246 = .ok (.iload_n 2, 1) := by decide +kernel
theorem dL_acts_247 : decode cL_acts 247 = .ok (.iconst 2, 1) := by decide +kernel
theorem dL_acts_248 : decode cL_acts 248 = .ok (.irem, 1) := by decide +kernel
theorem dL_acts_249 : decode cL_acts 249 = .ok (.iload_n 2, 1) := by decide +kernel
theorem dL_acts_250 : decode cL_acts 250 = .ok (.iconst 2, 1) := by decide +kernel
theorem dL_acts_251 : decode cL_acts 251 = .ok (.idiv, 1) := by decide +kernel
theorem dL_acts_252 : decode cL_acts 252 = .ok (.aload_n 0, 1) := by decide +kernel
theorem dL_acts_253 : decode cL_acts 253 = .ok (.iconst 0, 1) := by decide +kernel
theorem dL_acts_254 : decode cL_acts 254 = .ok (.invokevirtual 75, 3) := by decide +kernel
theorem dL_acts_257 : decode cL_acts 257 = .ok (.irem, 1) := by decide +kernel
theorem dL_acts_258 : decode cL_acts 258 = .ok (.iconst 1, 1) := by decide +kernel
theorem dL_acts_259 : decode cL_acts 259 = .ok (.iload_n 2, 1) := by decide +kernel
theorem dL_acts_260 : decode cL_acts 260 = .ok (.bipush 16, 2) := by decide +kernel
theorem dL_acts_262 : decode cL_acts 262 = .ok (.idiv, 1) := by decide +kernel
theorem dL_acts_263 : decode cL_acts 263 = .ok (.bipush 10, 2) := by decide +kernel
theorem dL_acts_265 : decode cL_acts 265 = .ok (.irem, 1) := by decide +kernel
theorem dL_acts_266 : decode cL_acts 266 = .ok (.iadd, 1) := by decide +kernel
theorem dL_acts_267 : decode cL_acts 267 = .ok (.bipush 50, 2) := by decide +kernel
theorem dL_acts_269 : decode cL_acts 269 = .ok (.iload_n 2, 1) := by decide +kernel
theorem dL_acts_270 : decode cL_acts 270 = .ok (.sipush 160, 3) := by decide +kernel
theorem dL_acts_273 : decode cL_acts 273 = .ok (.idiv, 1) := by decide +kernel
theorem dL_acts_274 : decode cL_acts 274 = .ok (.sipush 951, 3) := by decide +kernel
theorem dL_acts_277 : decode cL_acts 277 = .ok (.irem, 1) := by decide +kernel
theorem dL_acts_278 : decode cL_acts 278 = .ok (.iadd, 1) := by decide +kernel
theorem dL_acts_279 : decode cL_acts 279 = .ok (.bipush 100, 2) := by decide +kernel
theorem dL_acts_281 : decode cL_acts 281 = .ok (.iload_n 2, 1) := by decide +kernel
theorem dL_acts_282 : decode cL_acts 282 = .ok (.sipush 300, 3) := by decide +kernel
theorem dL_acts_285 : decode cL_acts 285 = .ok (.idiv, 1) := by decide +kernel
theorem dL_acts_286 : decode cL_acts 286 = .ok (.sipush 1900, 3) := by decide +kernel
theorem dL_acts_289 : decode cL_acts 289 = .ok (.irem, 1) := by decide +kernel
theorem dL_acts_290 : decode cL_acts 290 = .ok (.iadd, 1) := by decide +kernel
theorem dL_acts_291 : decode cL_acts 291 = .ok (.invokevirtual 108, 3) := by decide +kernel
theorem dL_acts_294 : decode cL_acts 294 = .ok (.ireturn, 1) := by decide +kernel
theorem dL_acts_295 : decode cL_acts 295 = .ok (.iload_n 3, 1) := by decide +kernel
theorem dL_acts_296 : decode cL_acts 296 = .ok (.ifCond .ne 8, 3) := by decide +kernel
theorem dL_acts_299 : decode cL_acts 299 = .ok (.bipush (-9), 2) := by decide +kernel
theorem dL_acts_301 : decode cL_acts 301 = .ok (.goto 10, 3) := by decide +kernel
theorem dL_acts_304 : decode cL_acts 304 = .ok (.aload_n 0, 1) := by decide +kernel
theorem dL_acts_305 : decode cL_acts 305 = .ok (.iload_n 2, 1) := by decide +kernel
theorem dL_acts_306 : decode cL_acts 306 = .ok (.iload_n 3, 1) := by decide +kernel
theorem dL_acts_307 : decode cL_acts 307 = .ok (.irem, 1) := by decide +kernel
theorem dL_acts_308 : decode cL_acts 308 = .ok (.invokevirtual 111, 3) := by decide +kernel
theorem dL_acts_311 : decode cL_acts 311 = .ok (.ireturn, 1) := by decide +kernel
theorem dL_run_0 : decode cL_run 0 = .ok (.lload_n 2, 1) := by decide +kernel
theorem dL_run_1 : decode cL_run 1 = .ok (.aload_n 0, 1) := by decide +kernel
theorem dL_run_2 : decode cL_run 2 = .ok (.iload_n 1, 1) := by decide +kernel
theorem dL_run_3 : decode cL_run 3 = .ok (.bipush 9, 2) := by decide +kernel
theorem dL_run_5 : decode cL_run 5 = .ok (.invokevirtual 114, 3) := by decide +kernel
theorem dL_run_8 : decode cL_run 8 = .ok (.i2l, 1) := by decide +kernel
theorem dL_run_9 : decode cL_run 9 = .ok (.ladd, 1) := by decide +kernel
theorem dL_run_10 : decode cL_run 10 = .ok (.aload_n 0, 1) := by decide +kernel
theorem dL_run_11 : decode cL_run 11 = .ok (.iload_n 1, 1) := by decide +kernel
theorem dL_run_12 : decode cL_run 12 = .ok (.bipush 10, 2) := by decide +kernel
theorem dL_run_14 : decode cL_run 14 = .ok (.invokevirtual 114, 3) := by decide +kernel
theorem dL_run_17 : decode cL_run 17 = .ok (.i2l, 1) := by decide +kernel
theorem dL_run_18 : decode cL_run 18 = .ok (.ladd, 1) := by decide +kernel
theorem dL_run_19 : decode cL_run 19 = .ok (.ldc2_w 116, 3) := by decide +kernel
theorem dL_run_22 : decode cL_run 22 = .ok (.lmul, 1) := by decide +kernel
theorem dL_run_23 : decode cL_run 23 = .ok (.aload_n 0, 1) := by decide +kernel
theorem dL_run_24 : decode cL_run 24 = .ok (.iload_n 1, 1) := by decide +kernel
theorem dL_run_25 : decode cL_run 25 = .ok (.iconst 3, 1) := by decide +kernel
theorem dL_run_26 : decode cL_run 26 = .ok (.invokevirtual 114, 3) := by decide +kernel
theorem dL_run_29 : decode cL_run 29 = .ok (.i2l, 1) := by decide +kernel
theorem dL_run_30 : decode cL_run 30 = .ok (.ldiv, 1) := by decide +kernel
theorem dL_run_31 : decode cL_run 31 = .ok (.lreturn, 1) := by decide +kernel
theorem dL_law_0 : decode cL_law 0 = .ok (.new 8, 3) := by decide +kernel
theorem dL_law_3 : decode cL_law 3 = .ok (.dup, 1) := by decide +kernel
theorem dL_law_4 : decode cL_law 4 = .ok (.invokespecial 118, 3) := by decide +kernel
theorem dL_law_7 : decode cL_law 7 = .ok (.astore_n 1, 1) := by decide +kernel
theorem dL_law_8 : decode cL_law 8 = .ok (.new 37, 3) := by decide +kernel
theorem dL_law_11 : decode cL_law 11 = .ok (.dup, 1) := by decide +kernel
theorem dL_law_12 : decode cL_law 12 = .ok (.invokespecial 119, 3) := by decide +kernel
theorem dL_law_15 : decode cL_law 15 = .ok (.astore_n 2, 1) := by decide +kernel
theorem dL_law_16 : decode cL_law 16 = .ok (.aload_n 1, 1) := by decide +kernel
theorem dL_law_17 : decode cL_law 17 = .ok (.aload_n 2, 1) := by decide +kernel
theorem dL_law_18 : decode cL_law 18 = .ok (.aload_n 0, 1) := by decide +kernel
theorem dL_law_19 : decode cL_law 19 = .ok (.invokevirtual 120, 3) := by decide +kernel
theorem dL_law_22 : decode cL_law 22 = .ok (.ifCond .eq 15, 3) := by decide +kernel
theorem dL_law_25 : decode cL_law 25 = .ok (.aload_n 2, 1) := by decide +kernel
theorem dL_law_26 : decode cL_law 26 = .ok (.aload_n 0, 1) := by decide +kernel
theorem dL_law_27 : decode cL_law 27 = .ok (.invokestatic 124, 3) := by decide +kernel
theorem dL_law_30 : decode cL_law 30 = .ok (.ifCond .eq 7, 3) := by decide +kernel
theorem dL_law_33 : decode cL_law 33 = .ok (.iconst 1, 1) := by decide +kernel
theorem dL_law_34 : decode cL_law 34 = .ok (.goto 4, 3) := by decide +kernel
theorem dL_law_37 : decode cL_law 37 = .ok (.iconst 0, 1) := by decide +kernel
theorem dL_law_38 : decode cL_law 38 = .ok (.ireturn, 1) := by decide +kernel
theorem dL_holds_0 : decode cL_holds 0 = .ok (.bipush 12, 2) := by decide +kernel
theorem dL_holds_2 : decode cL_holds 2 = .ok (.istore_n 2, 1) := by decide +kernel
theorem dL_holds_3 : decode cL_holds 3 = .ok (.iload_n 2, 1) := by decide +kernel
theorem dL_holds_4 : decode cL_holds 4 = .ok (.bipush 30, 2) := by decide +kernel
theorem dL_holds_6 : decode cL_holds 6 = .ok (.if_icmp .ge 44, 3) := by decide +kernel
theorem dL_holds_9 : decode cL_holds 9 = .ok (.aload_n 0, 1) := by decide +kernel
theorem dL_holds_10 : decode cL_holds 10 = .ok (.invokestatic 127, 3) := by decide +kernel
theorem dL_holds_13 : decode cL_holds 13 = .ok (.ifCond .eq 19, 3) := by decide +kernel
theorem dL_holds_16 : decode cL_holds 16 = .ok (.aload_n 0, 1) := by decide +kernel
theorem dL_holds_17 : decode cL_holds 17 = .ok (.iconst 0, 1) := by decide +kernel
theorem dL_holds_18 : decode cL_holds 18 = .ok (.invokestatic 131, 3) := by decide +kernel
theorem dL_holds_21 : decode cL_holds 21 = .ok (.ifCond .eq 11, 3) := by decide +kernel
theorem dL_holds_24 : decode cL_holds 24 = .ok (.aload_n 0, 1) := by decide +kernel
theorem dL_holds_25 : decode cL_holds 25 = .ok (.iconst 1, 1) := by decide +kernel
theorem dL_holds_26 : decode cL_holds 26 = .ok (.invokestatic 131, 3) := by decide +kernel
theorem dL_holds_29 : decode cL_holds 29 = .ok (.ifCond .ne 5, 3) := by decide +kernel
theorem dL_holds_32 : decode cL_holds 32 = .ok (.iconst 0, 1) := by decide +kernel
theorem dL_holds_33 : decode cL_holds 33 = .ok (.ireturn, 1) := by decide +kernel
theorem dL_holds_34 : decode cL_holds 34 = .ok (.aload_n 0, 1) := by decide +kernel
theorem dL_holds_35 : decode cL_holds 35 = .ok (.aload_n 1, 1) := by decide +kernel
theorem dL_holds_36 : decode cL_holds 36 = .ok (.iload_n 2, 1) := by decide +kernel
theorem dL_holds_37 : decode cL_holds 37 = .ok (.invokestatic 42, 3) := by decide +kernel
theorem dL_holds_40 : decode cL_holds 40 = .ok (.invokestatic 135, 3) := by decide +kernel
theorem dL_holds_43 : decode cL_holds 43 = .ok (.istore_n 3, 1) := by decide +kernel
theorem dL_holds_44 : decode cL_holds 44 = .ok (.iinc 2 1, 3) := by decide +kernel
theorem dL_holds_47 : decode cL_holds 47 = .ok (.goto (-44), 3) := by decide +kernel
theorem dL_holds_50 : decode cL_holds 50 = .ok (.aload_n 0, 1) := by decide +kernel
theorem dL_holds_51 : decode cL_holds 51 = .ok (.invokestatic 127, 3) := by decide +kernel
theorem dL_holds_54 : decode cL_holds 54 = .ok (.ifCond .eq 23, 3) := by decide +kernel
theorem dL_holds_57 : decode cL_holds 57 = .ok (.aload_n 0, 1) := by decide +kernel
theorem dL_holds_58 : decode cL_holds 58 = .ok (.iconst 0, 1) := by decide +kernel
theorem dL_holds_59 : decode cL_holds 59 = .ok (.invokestatic 131, 3) := by decide +kernel
theorem dL_holds_62 : decode cL_holds 62 = .ok (.ifCond .eq 15, 3) := by decide +kernel
theorem dL_holds_65 : decode cL_holds 65 = .ok (.aload_n 0, 1) := by decide +kernel
theorem dL_holds_66 : decode cL_holds 66 = .ok (.iconst 1, 1) := by decide +kernel
theorem dL_holds_67 : decode cL_holds 67 = .ok (.invokestatic 131, 3) := by decide +kernel
theorem dL_holds_70 : decode cL_holds 70 = .ok (.ifCond .eq 7, 3) := by decide +kernel
theorem dL_holds_73 : decode cL_holds 73 = .ok (.iconst 1, 1) := by decide +kernel
theorem dL_holds_74 : decode cL_holds 74 = .ok (.goto 4, 3) := by decide +kernel
theorem dL_holds_77 : decode cL_holds 77 = .ok (.iconst 0, 1) := by decide +kernel
theorem dL_holds_78 : decode cL_holds 78 = .ok (.ireturn, 1) := by decide +kernel
theorem dL_areTubes_0 : decode cL_areTubes 0 = .ok (.iconst 3, 1) := by decide +kernel
theorem dL_areTubes_1 : decode cL_areTubes 1 = .ok (.newarray .int, 2) := by decide +kernel
theorem dL_areTubes_3 : decode cL_areTubes 3 = .ok (.astore_n 1, 1) := by decide +kernel
theorem dL_areTubes_4 : decode cL_areTubes 4 = .ok (.iconst 0, 1) := by decide +kernel
theorem dL_areTubes_5 : decode cL_areTubes 5 = .ok (.istore_n 2, 1) := by decide +kernel
theorem dL_areTubes_6 : decode cL_areTubes 6 = .ok (.iload_n 2, 1) := by decide +kernel
theorem dL_areTubes_7 : decode cL_areTubes 7 = .ok (.aload_n 0, 1) := by decide +kernel
theorem dL_areTubes_8 : decode cL_areTubes 8 = .ok (.iconst 2, 1) := by decide +kernel
theorem dL_areTubes_9 : decode cL_areTubes 9 = .ok (.invokevirtual 75, 3) := by decide +kernel
theorem dL_areTubes_12 : decode cL_areTubes 12 = .ok (.if_icmp .ge 226, 3) := by decide +kernel
theorem dL_areTubes_15 : decode cL_areTubes 15 = .ok (.aload_n 0, 1) := by decide +kernel
theorem dL_areTubes_16 : decode cL_areTubes 16 = .ok (.iload_n 2, 1) := by decide +kernel
theorem dL_areTubes_17 : decode cL_areTubes 17 = .ok (.iconst 0, 1) := by decide +kernel
theorem dL_areTubes_18 : decode cL_areTubes 18 = .ok (.invokevirtual 114, 3) := by decide +kernel
theorem dL_areTubes_21 : decode cL_areTubes 21 = .ok (.istore_n 3, 1) := by decide +kernel
theorem dL_areTubes_22 : decode cL_areTubes 22 = .ok (.aload_n 0, 1) := by decide +kernel
theorem dL_areTubes_23 : decode cL_areTubes 23 = .ok (.iload_n 2, 1) := by decide +kernel
theorem dL_areTubes_24 : decode cL_areTubes 24 = .ok (.bipush 6, 2) := by decide +kernel
theorem dL_areTubes_26 : decode cL_areTubes 26 = .ok (.invokevirtual 114, 3) := by decide +kernel
theorem dL_areTubes_29 : decode cL_areTubes 29 = .ok (.istore 4, 2) := by decide +kernel
theorem dL_areTubes_31 : decode cL_areTubes 31 = .ok (.aload_n 1, 1) := by decide +kernel
theorem dL_areTubes_32 : decode cL_areTubes 32 = .ok (.iload 4, 2) := by decide +kernel
theorem dL_areTubes_34 : decode cL_areTubes 34 = .ok (.dup2, 1) := by decide +kernel
theorem dL_areTubes_35 : decode cL_areTubes 35 = .ok (.iaload, 1) := by decide +kernel
theorem dL_areTubes_36 : decode cL_areTubes 36 = .ok (.iconst 1, 1) := by decide +kernel
theorem dL_areTubes_37 : decode cL_areTubes 37 = .ok (.iadd, 1) := by decide +kernel
theorem dL_areTubes_38 : decode cL_areTubes 38 = .ok (.iastore, 1) := by decide +kernel
theorem dL_areTubes_39 : decode cL_areTubes 39 = .ok (.aload_n 0, 1) := by decide +kernel
theorem dL_areTubes_40 : decode cL_areTubes 40 = .ok (.iload_n 2, 1) := by decide +kernel
theorem dL_areTubes_41 : decode cL_areTubes 41 = .ok (.bipush 9, 2) := by decide +kernel
theorem dL_areTubes_43 : decode cL_areTubes 43 = .ok (.invokevirtual 114, 3) := by decide +kernel
theorem dL_areTubes_46 : decode cL_areTubes 46 = .ok (.aload_n 0, 1) := by decide +kernel
theorem dL_areTubes_47 : decode cL_areTubes 47 = .ok (.iconst 1, 1) := by decide +kernel
theorem dL_areTubes_48 : decode cL_areTubes 48 = .ok (.invokevirtual 75, 3) := by decide +kernel
theorem dL_areTubes_51 : decode cL_areTubes 51 = .ok (.aload_n 0, 1) := by decide +kernel
theorem dL_areTubes_52 : decode cL_areTubes 52 = .ok (.aload_n 0, 1) := by decide +kernel
theorem dL_areTubes_53 : decode cL_areTubes 53 = .ok (.iload_n 2, 1) := by decide +kernel
theorem dL_areTubes_54 : decode cL_areTubes 54 = .ok (.iconst 1, 1) := by decide +kernel
theorem dL_areTubes_55 : decode cL_areTubes 55 = .ok (.invokevirtual 114, 3) := by decide +kernel
theorem dL_areTubes_58 : decode cL_areTubes 58 = .ok (.invokevirtual 139, 3) := by decide +kernel
theorem dL_areTubes_61 : decode cL_areTubes 61 = .ok (.isub, 1) := by decide +kernel
theorem dL_areTubes_62 : decode cL_areTubes 62 = .ok (.sipush 1000, 3) := by decide +kernel
theorem dL_areTubes_65 : decode cL_areTubes 65 = .ok (.imul, 1) := by decide +kernel
theorem dL_areTubes_66 : decode cL_areTubes 66 = .ok (.aload_n 0, 1) := by decide +kernel
theorem dL_areTubes_67 : decode cL_areTubes 67 = .ok (.iload_n 3, 1) := by decide +kernel
theorem dL_areTubes_68 : decode cL_areTubes 68 = .ok (.iconst 0, 1) := by decide +kernel
theorem dL_areTubes_69 : decode cL_areTubes 69 = .ok (.invokevirtual 141, 3) := by decide +kernel
theorem dL_areTubes_72 : decode cL_areTubes 72 = .ok (.idiv, 1) := by decide +kernel
theorem dL_areTubes_73 : decode cL_areTubes 73 = .ok (.if_icmp .ne 26, 3) := by decide +kernel
theorem dL_areTubes_76 : decode cL_areTubes 76 = .ok (.aload_n 0, 1) := by decide +kernel
theorem dL_areTubes_77 : decode cL_areTubes 77 = .ok (.iload_n 2, 1) := by decide +kernel
theorem dL_areTubes_78 : decode cL_areTubes 78 = .ok (.bipush 10, 2) := by decide +kernel
theorem dL_areTubes_80 : decode cL_areTubes 80 = .ok (.invokevirtual 114, 3) := by decide +kernel
theorem dL_areTubes_83 : decode cL_areTubes 83 = .ok (.aload_n 0, 1) := by decide +kernel
theorem dL_areTubes_84 : decode cL_areTubes 84 = .ok (.iload_n 3, 1) := by decide +kernel
theorem dL_areTubes_85 : decode cL_areTubes 85 = .ok (.iconst 2, 1) := by decide +kernel
theorem dL_areTubes_86 : decode cL_areTubes 86 = .ok (.invokevirtual 141, 3) := by decide +kernel
theorem dL_areTubes_89 : decode cL_areTubes 89 = .ok (.aload_n 0, 1) := by decide +kernel
theorem dL_areTubes_90 : decode cL_areTubes 90 = .ok (.iload_n 2, 1) := by decide +kernel
theorem dL_areTubes_91 : decode cL_areTubes 91 = .ok (.iconst 2, 1) := by decide +kernel
theorem dL_areTubes_92 : decode cL_areTubes 92 = .ok (.invokevirtual 114, 3) := by decide +kernel
theorem dL_areTubes_95 : decode cL_areTubes 95 = .ok (.idiv, 1) := by decide +kernel
theorem dL_areTubes_96 : decode cL_areTubes 96 = .ok (.if_icmp .eq 5, 3) := by decide +kernel
theorem dL_areTubes_99 : decode cL_areTubes 99 = .ok (.iconst 0, 1) := by decide +kernel
theorem dL_areTubes_100 : decode cL_areTubes 100 = .ok (.ireturn, 1) := by decide +kernel
theorem dL_areTubes_101 : decode cL_areTubes 101 = .ok (.aload_n 0, 1) := by decide +kernel
theorem dL_areTubes_102 : decode cL_areTubes 102 = .ok (.iload_n 2, 1) := by decide +kernel
theorem dL_areTubes_103 : decode cL_areTubes 103 = .ok (.aload_n 0, 1) := by decide +kernel
theorem dL_areTubes_104 : decode cL_areTubes 104 = .ok (.iload_n 3, 1) := by decide +kernel
theorem dL_areTubes_105 : decode cL_areTubes 105 = .ok (.iconst 3, 1) := by decide +kernel
theorem dL_areTubes_106 : decode cL_areTubes 106 = .ok (.invokevirtual 141, 3) := by decide +kernel
theorem dL_areTubes_109 : decode cL_areTubes 109 = .ok (.i2l, 1) := by decide +kernel
theorem dL_areTubes_110 : decode cL_areTubes 110 = .ok (.invokestatic 143, 3) := by decide +kernel
theorem dL_areTubes_113 : decode cL_areTubes 113 = .ok (.lstore 5, 2) := by decide +kernel
theorem dL_areTubes_115 : decode cL_areTubes 115 = .ok (.bipush 100, 2) := by decide +kernel
theorem dL_areTubes_117 : decode cL_areTubes 117 = .ok (.aload_n 0, 1) := by decide +kernel
theorem dL_areTubes_118 : decode cL_areTubes 118 = .ok (.iload_n 2, 1) := by decide +kernel
theorem dL_areTubes_119 : decode cL_areTubes 119 = .ok (.iconst 4, 1) := by decide +kernel
theorem dL_areTubes_120 : decode cL_areTubes 120 = .ok (.invokevirtual 114, 3) := by decide +kernel
theorem dL_areTubes_123 : decode cL_areTubes 123 = .ok (.imul, 1) := by decide +kernel
theorem dL_areTubes_124 : decode cL_areTubes 124 = .ok (.istore 7, 2) := by decide +kernel
theorem dL_areTubes_126 : decode cL_areTubes 126 = .ok (.iload 4, 2) := by decide +kernel
theorem dL_areTubes_128 : decode cL_areTubes 128 = .ok (.ifCond .ne 54, 3) := by decide +kernel
theorem dL_areTubes_131 : decode cL_areTubes 131 = .ok (.lload 5, 2) := by decide +kernel
theorem dL_areTubes_133 : decode cL_areTubes 133 = .ok (.lconst 0, 1) := by decide +kernel
theorem dL_areTubes_134 : decode cL_areTubes 134 = .ok (.lcmp, 1) := by decide +kernel
theorem dL_areTubes_135 : decode cL_areTubes 135 = .ok (.ifCond .lt 66, 3) := by decide +kernel
theorem dL_areTubes_138 : decode cL_areTubes 138 = .ok (.lload 5, 2) := by decide +kernel
theorem dL_areTubes_140 : decode cL_areTubes 140 = .ok (.iload 7, 2) := by decide +kernel
theorem dL_areTubes_142 : decode cL_areTubes 142 = .ok (.i2l, 1) := by decide +kernel
theorem dL_areTubes_143 : decode cL_areTubes 143 = .ok (.lcmp, 1) := by decide +kernel
theorem dL_areTubes_144 : decode cL_areTubes 144 = .ok (.ifCond .gt 57, 3) := by decide +kernel
theorem dL_areTubes_147 : decode cL_areTubes 147 = .ok (.aload_n 0, 1) := by decide +kernel
theorem dL_areTubes_148 : decode cL_areTubes 148 = .ok (.iload_n 2, 1) := by decide +kernel
theorem dL_areTubes_149 : decode cL_areTubes 149 = .ok (.bipush 7, 2) := by decide +kernel
theorem dL_areTubes_151 : decode cL_areTubes 151 = .ok (.invokevirtual 114, 3) := by decide +kernel
theorem dL_areTubes_154 : decode cL_areTubes 154 = .ok (.i2l, 1) := by decide +kernel
theorem dL_areTubes_155 : decode cL_areTubes 155 = .ok (.lload 5, 2) := by decide +kernel
theorem dL_areTubes_157 : decode cL_areTubes 157 = .ok (.lcmp, 1) := by decide +kernel
theorem dL_areTubes_158 : decode cL_areTubes 158 = .ok (.ifCond .ne 43, 3) := by decide +kernel
theorem dL_areTubes_161 : decode cL_areTubes 161 = .ok (.aload_n 0, 1) := by decide +kernel
theorem dL_areTubes_162 : decode cL_areTubes 162 = .ok (.iload_n 2, 1) := by decide +kernel
theorem dL_areTubes_163 : decode cL_areTubes 163 = .ok (.invokevirtual 147, 3) := by decide +kernel
theorem dL_areTubes_166 : decode cL_areTubes 166 = .ok (.iload 7, 2) := by decide +kernel
theorem dL_areTubes_168 : decode cL_areTubes 168 = .ok (.aload_n 0, 1) := by decide +kernel
theorem dL_areTubes_169 : decode cL_areTubes 169 = .ok (.iload_n 2, 1) := by decide +kernel
theorem dL_areTubes_170 : decode cL_areTubes 170 = .ok (.bipush 7, 2) := by decide +kernel
theorem dL_areTubes_172 : decode cL_areTubes 172 = .ok (.invokevirtual 114, 3) := by decide +kernel
theorem dL_areTubes_175 : decode cL_areTubes 175 = .ok (.isub, 1) := by decide +kernel
theorem dL_areTubes_176 : decode cL_areTubes 176 = .ok (.if_icmp .eq 27, 3) := by decide +kernel
theorem dL_areTubes_179 : decode cL_areTubes 179 = .ok (.goto 22, 3) := by decide +kernel
theorem dL_areTubes_182 : decode cL_areTubes 182 = .ok (.aload_n 0, 1) := by decide +kernel
theorem dL_areTubes_183 : decode cL_areTubes 183 = .ok (.iload_n 2, 1) := by decide +kernel
theorem dL_areTubes_184 : decode cL_areTubes 184 = .ok (.bipush 7, 2) := by decide +kernel
theorem dL_areTubes_186 : decode cL_areTubes 186 = .ok (.invokevirtual 114, 3) := by decide +kernel
theorem dL_areTubes_189 : decode cL_areTubes 189 = .ok (.ifCond .ne 12, 3) := by decide +kernel
theorem dL_areTubes_192 : decode cL_areTubes 192 = .ok (.aload_n 0, 1) := by decide +kernel
theorem dL_areTubes_193 : decode cL_areTubes 193 = .ok (.iload_n 2, 1) := by decide +kernel
theorem dL_areTubes_194 : decode cL_areTubes 194 = .ok (.invokevirtual 147, 3) := by decide +kernel
theorem dL_areTubes_197 : decode cL_areTubes 197 = .ok (.iconst (-1), 1) := by decide +kernel
theorem dL_areTubes_198 : decode cL_areTubes 198 = .ok (.if_icmp .eq 5, 3) := by decide +kernel
theorem dL_areTubes_201 : decode cL_areTubes 201 = .ok (.iconst 0, 1) := by decide +kernel
theorem dL_areTubes_202 : decode cL_areTubes 202 = .ok (.ireturn, 1) := by decide +kernel
theorem dL_areTubes_203 : decode cL_areTubes 203 = .ok (.aload_n 0, 1) := by decide +kernel
theorem dL_areTubes_204 : decode cL_areTubes 204 = .ok (.iload_n 2, 1) := by decide +kernel
theorem dL_areTubes_205 : decode cL_areTubes 205 = .ok (.bipush 8, 2) := by decide +kernel
theorem dL_areTubes_207 : decode cL_areTubes 207 = .ok (.invokevirtual 114, 3) := by decide +kernel
theorem dL_areTubes_210 : decode cL_areTubes 210 = .ok (.aload_n 0, 1) := by decide +kernel
theorem dL_areTubes_211 : decode cL_areTubes 211 = .ok (.iload_n 2, 1) := by decide +kernel
theorem dL_areTubes_212 : decode cL_areTubes 212 = .ok (.bipush 7, 2) := by decide +kernel
theorem dL_areTubes_214 : decode cL_areTubes 214 = .ok (.invokevirtual 114, 3) := by decide +kernel
theorem dL_areTubes_217 : decode cL_areTubes 217 = .ok (.bipush 10, 2) := by decide +kernel
theorem dL_areTubes_219 : decode cL_areTubes 219 = .ok (.idiv, 1) := by decide +kernel
theorem dL_areTubes_220 : decode cL_areTubes 220 = .ok (.aload_n 0, 1) := by decide +kernel
theorem dL_areTubes_221 : decode cL_areTubes 221 = .ok (.iload_n 2, 1) := by decide +kernel
theorem dL_areTubes_222 : decode cL_areTubes 222 = .ok (.iconst 5, 1) := by decide +kernel
theorem dL_areTubes_223 : decode cL_areTubes 223 = .ok (.invokevirtual 114, 3) := by decide +kernel
theorem dL_areTubes_226 : decode cL_areTubes 226 = .ok (.iadd, 1) := by decide +kernel
theorem dL_areTubes_227 : decode cL_areTubes 227 = .ok (.if_icmp .eq 5, 3) := by decide +kernel
theorem dL_areTubes_230 : decode cL_areTubes 230 = .ok (.iconst 0, 1) := by decide +kernel
theorem dL_areTubes_231 : decode cL_areTubes 231 = .ok (.ireturn, 1) := by decide +kernel
theorem dL_areTubes_232 : decode cL_areTubes 232 = .ok (.iinc 2 1, 3) := by decide +kernel
theorem dL_areTubes_235 : decode cL_areTubes 235 = .ok (.goto (-229), 3) := by decide +kernel
theorem dL_areTubes_238 : decode cL_areTubes 238 = .ok (.aload_n 0, 1) := by decide +kernel
theorem dL_areTubes_239 : decode cL_areTubes 239 = .ok (.iconst 3, 1) := by decide +kernel
theorem dL_areTubes_240 : decode cL_areTubes 240 = .ok (.invokevirtual 75, 3) := by decide +kernel
theorem dL_areTubes_243 : decode cL_areTubes 243 = .ok (.aload_n 1, 1) := by decide +kernel
theorem dL_areTubes_244 : decode cL_areTubes 244 = .ok (.iconst 0, 1) := by decide +kernel
theorem dL_areTubes_245 : decode cL_areTubes 245 = .ok (.iaload, 1) := by decide +kernel
theorem dL_areTubes_246 : decode cL_areTubes 246 = .ok (.if_icmp .ne 29, 3) := by decide +kernel
theorem dL_areTubes_249 : decode cL_areTubes 249 = .ok (.aload_n 0, 1) := by decide +kernel
theorem dL_areTubes_250 : decode cL_areTubes 250 = .ok (.iconst 4, 1) := by decide +kernel
theorem dL_areTubes_251 : decode cL_areTubes 251 = .ok (.invokevirtual 75, 3) := by decide +kernel
theorem dL_areTubes_254 : decode cL_areTubes 254 = .ok (.aload_n 1, 1) := by decide +kernel
theorem dL_areTubes_255 : decode cL_areTubes 255 = .ok (.iconst 1, 1) := by decide +kernel
theorem dL_areTubes_256 : decode cL_areTubes 256 = .ok (.iaload, 1) := by decide +kernel
theorem dL_areTubes_257 : decode cL_areTubes 257 = .ok (.if_icmp .ne 18, 3) := by decide +kernel
theorem dL_areTubes_260 : decode cL_areTubes 260 = .ok (.aload_n 0, 1) := by decide +kernel
theorem dL_areTubes_261 : decode cL_areTubes 261 = .ok (.iconst 5, 1) := by decide +kernel
theorem dL_areTubes_262 : decode cL_areTubes 262 = .ok (.invokevirtual 75, 3) := by decide +kernel
theorem dL_areTubes_265 : decode cL_areTubes 265 = .ok (.aload_n 1, 1) := by decide +kernel
theorem dL_areTubes_266 : decode cL_areTubes 266 = .ok (.iconst 2, 1) := by decide +kernel
theorem dL_areTubes_267 : decode cL_areTubes 267 = .ok (.iaload, 1) := by decide +kernel
theorem dL_areTubes_268 : decode cL_areTubes 268 = .ok (.if_icmp .ne 7, 3) := by decide +kernel
theorem dL_areTubes_271 : decode cL_areTubes 271 = .ok (.iconst 1, 1) := by decide +kernel
theorem dL_areTubes_272 : decode cL_areTubes 272 = .ok (.goto 4, 3) := by decide +kernel
theorem dL_areTubes_275 : decode cL_areTubes 275 = .ok (.iconst 0, 1) := by decide +kernel
theorem dL_areTubes_276 : decode cL_areTubes 276 = .ok (.ireturn, 1) := by decide +kernel
theorem dL_isLevel_0 : decode cL_isLevel 0 = .ok (.aload_n 0, 1) := by decide +kernel
theorem dL_isLevel_1 : decode cL_isLevel 1 = .ok (.iload_n 1, 1) := by decide +kernel
theorem dL_isLevel_2 : decode cL_isLevel 2 = .ok (.iconst 3, 1) := by decide +kernel
theorem dL_isLevel_3 : decode cL_isLevel 3 = .ok (.invokevirtual 141, 3) := by decide +kernel
theorem dL_isLevel_6 : decode cL_isLevel 6 = .ok (.i2l, 1) := by decide +kernel
theorem dL_isLevel_7 : decode cL_isLevel 7 = .ok (.lstore_n 2, 1) := by decide +kernel
theorem dL_isLevel_8 : decode cL_isLevel 8 = .ok (.aload_n 0, 1) := by decide +kernel
theorem dL_isLevel_9 : decode cL_isLevel 9 = .ok (.iload_n 1, 1) := by decide +kernel
theorem dL_isLevel_10 : decode cL_isLevel 10 = .ok (.iconst 1, 1) := by decide +kernel
theorem dL_isLevel_11 : decode cL_isLevel 11 = .ok (.invokevirtual 141, 3) := by decide +kernel
theorem dL_isLevel_14 : decode cL_isLevel 14 = .ok (.i2l, 1) := by decide +kernel
theorem dL_isLevel_15 : decode cL_isLevel 15 = .ok (.lstore 4, 2) := by decide +kernel
theorem dL_isLevel_17 : decode cL_isLevel 17 = .ok (.lconst 0, 1) := by decide +kernel
theorem dL_isLevel_18 : decode cL_isLevel 18 = .ok (.lstore 6, 2) := by decide +kernel
theorem dL_isLevel_20 : decode cL_isLevel 20 = .ok (.lconst 0, 1) := by decide +kernel
theorem dL_isLevel_21 : decode cL_isLevel 21 = .ok (.lstore 8, 2) := by decide +kernel
theorem dL_isLevel_23 : decode cL_isLevel 23 = .ok (.iconst 0, 1) := by decide +kernel
theorem dL_isLevel_24 : decode cL_isLevel 24 = .ok (.istore 10, 2) := by decide +kernel
theorem dL_isLevel_26 : decode cL_isLevel 26 = .ok (.iload 10, 2) := by decide +kernel
theorem dL_isLevel_28 : decode cL_isLevel 28 = .ok (.aload_n 0, 1) := by decide +kernel
theorem dL_isLevel_29 : decode cL_isLevel 29 = .ok (.iconst 2, 1) := by decide +kernel
theorem dL_isLevel_30 : decode cL_isLevel 30 = .ok (.invokevirtual 75, 3) := by decide +kernel
theorem dL_isLevel_33 : decode cL_isLevel 33 = .ok (.if_icmp .ge 105, 3) := by decide +kernel
theorem dL_isLevel_36 : decode cL_isLevel 36 = .ok (.aload_n 0, 1) := by decide +kernel
theorem dL_isLevel_37 : decode cL_isLevel 37 = .ok (.iload 10, 2) := by decide +kernel
theorem dL_isLevel_39 : decode cL_isLevel 39 = .ok (.iconst 0, 1) := by decide +kernel
theorem dL_isLevel_40 : decode cL_isLevel 40 = .ok (.invokevirtual 114, 3) := by decide +kernel
theorem dL_isLevel_43 : decode cL_isLevel 43 = .ok (.iload_n 1, 1) := by decide +kernel
theorem dL_isLevel_44 : decode cL_isLevel 44 = .ok (.if_icmp .ne 88, 3) := by decide +kernel
theorem dL_isLevel_47 : decode cL_isLevel 47 = .ok (.aload_n 0, 1) := by decide +kernel
theorem dL_isLevel_48 : decode cL_isLevel 48 = .ok (.iload 10, 2) := by decide +kernel
theorem dL_isLevel_50 : decode cL_isLevel 50 = .ok (.bipush 6, 2) := by decide +kernel
theorem dL_isLevel_52 : decode cL_isLevel 52 = .ok (.invokevirtual 114, 3) := by decide +kernel
theorem dL_isLevel_55 : decode cL_isLevel 55 = .ok (.ifCond .eq 6, 3) := by decide +kernel
theorem dL_isLevel_58 : decode cL_isLevel 58 = .ok (.goto 74, 3) := by decide +kernel
theorem dL_isLevel_61 : decode cL_isLevel 61 = .ok (.aload_n 0, 1) := by decide +kernel
theorem dL_isLevel_62 : decode cL_isLevel 62 = .ok (.iload 10, 2) := by decide +kernel
theorem dL_isLevel_64 : decode cL_isLevel 64 = .ok (.iconst 2, 1) := by decide +kernel
theorem dL_isLevel_65 : decode cL_isLevel 65 = .ok (.invokevirtual 114, 3) := by decide +kernel
theorem dL_isLevel_68 : decode cL_isLevel 68 = .ok (.aload_n 0, 1) := by decide +kernel
theorem dL_isLevel_69 : decode cL_isLevel 69 = .ok (.iload 10, 2) := by decide +kernel
theorem dL_isLevel_71 : decode cL_isLevel 71 = .ok (.iconst 2, 1) := by decide +kernel
theorem dL_isLevel_72 : decode cL_isLevel 72 = .ok (.invokevirtual 114, 3) := by decide +kernel
theorem dL_isLevel_75 : decode cL_isLevel 75 = .ok (.imul, 1) := by decide +kernel
theorem dL_isLevel_76 : decode cL_isLevel 76 = .ok (.i2l, 1) := by decide +kernel
theorem dL_isLevel_77 : decode cL_isLevel 77 = .ok (.lstore 11, 2) := by decide +kernel
theorem dL_isLevel_79 : decode cL_isLevel 79 = .ok (.lload 6, 2) := by decide +kernel
theorem dL_isLevel_81 : decode cL_isLevel 81 = .ok (.aload_n 0, 1) := by decide +kernel
theorem dL_isLevel_82 : decode cL_isLevel 82 = .ok (.iload 10, 2) := by decide +kernel
theorem dL_isLevel_84 : decode cL_isLevel 84 = .ok (.bipush 7, 2) := by decide +kernel
theorem dL_isLevel_86 : decode cL_isLevel 86 = .ok (.invokevirtual 114, 3) := by decide +kernel
theorem dL_isLevel_89 : decode cL_isLevel 89 = .ok (.i2l, 1) := by decide +kernel
theorem dL_isLevel_90 : decode cL_isLevel 90 = .ok (.lload 11, 2) := by decide +kernel
theorem dL_isLevel_92 : decode cL_isLevel 92 = .ok (.lmul, 1) := by decide +kernel
theorem dL_isLevel_93 : decode cL_isLevel 93 = .ok (.ladd, 1) := by decide +kernel
theorem dL_isLevel_94 : decode cL_isLevel 94 = .ok (.lstore 6, 2) := by decide +kernel
theorem dL_isLevel_96 : decode cL_isLevel 96 = .ok (.lload 8, 2) := by decide +kernel
theorem dL_isLevel_98 : decode cL_isLevel 98 = .ok (.lconst 0, 1) := by decide +kernel
theorem dL_isLevel_99 : decode cL_isLevel 99 = .ok (.ldc2_w 150, 3) := by decide +kernel
theorem dL_isLevel_102 : decode cL_isLevel 102 = .ok (.aload_n 0, 1) := by decide +kernel
theorem dL_isLevel_103 : decode cL_isLevel 103 = .ok (.iload 10, 2) := by decide +kernel
theorem dL_isLevel_105 : decode cL_isLevel 105 = .ok (.iconst 4, 1) := by decide +kernel
theorem dL_isLevel_106 : decode cL_isLevel 106 = .ok (.invokevirtual 114, 3) := by decide +kernel
theorem dL_isLevel_109 : decode cL_isLevel 109 = .ok (.i2l, 1) := by decide +kernel
theorem dL_isLevel_110 : decode cL_isLevel 110 = .ok (.lmul, 1) := by decide +kernel
theorem dL_isLevel_111 : decode cL_isLevel 111 = .ok (.aload_n 0, 1) := by decide +kernel
theorem dL_isLevel_112 : decode cL_isLevel 112 = .ok (.iload 10, 2) := by decide +kernel
theorem dL_isLevel_114 : decode cL_isLevel 114 = .ok (.lload_n 2, 1) := by decide +kernel
theorem dL_isLevel_115 : decode cL_isLevel 115 = .ok (.lconst 1, 1) := by decide +kernel
theorem dL_isLevel_116 : decode cL_isLevel 116 = .ok (.ladd, 1) := by decide +kernel
theorem dL_isLevel_117 : decode cL_isLevel 117 = .ok (.invokestatic 143, 3) := by decide +kernel
theorem dL_isLevel_120 : decode cL_isLevel 120 = .ok (.invokestatic 152, 3) := by decide +kernel
theorem dL_isLevel_123 : decode cL_isLevel 123 = .ok (.invokestatic 158, 3) := by decide +kernel
theorem dL_isLevel_126 : decode cL_isLevel 126 = .ok (.lload 11, 2) := by decide +kernel
theorem dL_isLevel_128 : decode cL_isLevel 128 = .ok (.lmul, 1) := by decide +kernel
theorem dL_isLevel_129 : decode cL_isLevel 129 = .ok (.ladd, 1) := by decide +kernel
theorem dL_isLevel_130 : decode cL_isLevel 130 = .ok (.lstore 8, 2) := by decide +kernel
theorem dL_isLevel_132 : decode cL_isLevel 132 = .ok (.iinc 10 1, 3) := by decide +kernel
theorem dL_isLevel_135 : decode cL_isLevel 135 = .ok (.goto (-109), 3) := by decide +kernel
theorem dL_isLevel_138 : decode cL_isLevel 138 = .ok (.aload_n 0, 1) := by decide +kernel
theorem dL_isLevel_139 : decode cL_isLevel 139 = .ok (.iload_n 1, 1) := by decide +kernel
theorem dL_isLevel_140 : decode cL_isLevel 140 = .ok (.iconst 0, 1) := by decide +kernel
theorem dL_isLevel_141 : decode cL_isLevel 141 = .ok (.invokevirtual 161, 3) := by decide +kernel
theorem dL_isLevel_144 : decode cL_isLevel 144 = .ok (.lstore 10, 2) := by decide +kernel
theorem dL_isLevel_146 : decode cL_isLevel 146 = .ok (.aload_n 0, 1) := by decide +kernel
theorem dL_isLevel_147 : decode cL_isLevel 147 = .ok (.iload_n 1, 1) := by decide +kernel
theorem dL_isLevel_148 : decode cL_isLevel 148 = .ok (.iconst 1, 1) := by decide +kernel
theorem dL_isLevel_149 : decode cL_isLevel 149 = .ok (.invokevirtual 161, 3) := by decide +kernel
theorem dL_isLevel_152 : decode cL_isLevel 152 = .ok (.lload 6, 2) := by decide +kernel
theorem dL_isLevel_154 : decode cL_isLevel 154 = .ok (.lcmp, 1) := by decide +kernel
theorem dL_isLevel_155 : decode cL_isLevel 155 = .ok (.ifCond .ne 34, 3) := by decide +kernel
theorem dL_isLevel_158 : decode cL_isLevel 158 = .ok (.aload_n 0, 1) := by decide +kernel
theorem dL_isLevel_159 : decode cL_isLevel 159 = .ok (.iload_n 1, 1) := by decide +kernel
theorem dL_isLevel_160 : decode cL_isLevel 160 = .ok (.iconst 4, 1) := by decide +kernel
theorem dL_isLevel_161 : decode cL_isLevel 161 = .ok (.invokevirtual 161, 3) := by decide +kernel
theorem dL_isLevel_164 : decode cL_isLevel 164 = .ok (.lload 10, 2) := by decide +kernel
theorem dL_isLevel_166 : decode cL_isLevel 166 = .ok (.lload 4, 2) := by decide +kernel
theorem dL_isLevel_168 : decode cL_isLevel 168 = .ok (.lload_n 2, 1) := by decide +kernel
theorem dL_isLevel_169 : decode cL_isLevel 169 = .ok (.lmul, 1) := by decide +kernel
theorem dL_isLevel_170 : decode cL_isLevel 170 = .ok (.lsub, 1) := by decide +kernel
theorem dL_isLevel_171 : decode cL_isLevel 171 = .ok (.lload 6, 2) := by decide +kernel
theorem dL_isLevel_173 : decode cL_isLevel 173 = .ok (.lsub, 1) := by decide +kernel
theorem dL_isLevel_174 : decode cL_isLevel 174 = .ok (.lcmp, 1) := by decide +kernel
theorem dL_isLevel_175 : decode cL_isLevel 175 = .ok (.ifCond .ne 14, 3) := by decide +kernel
theorem dL_isLevel_178 : decode cL_isLevel 178 = .ok (.aload_n 0, 1) := by decide +kernel
theorem dL_isLevel_179 : decode cL_isLevel 179 = .ok (.iload_n 1, 1) := by decide +kernel
theorem dL_isLevel_180 : decode cL_isLevel 180 = .ok (.iconst 4, 1) := by decide +kernel
theorem dL_isLevel_181 : decode cL_isLevel 181 = .ok (.invokevirtual 161, 3) := by decide +kernel
theorem dL_isLevel_184 : decode cL_isLevel 184 = .ok (.lconst 0, 1) := by decide +kernel
theorem dL_isLevel_185 : decode cL_isLevel 185 = .ok (.lcmp, 1) := by decide +kernel
theorem dL_isLevel_186 : decode cL_isLevel 186 = .ok (.ifCond .ge 5, 3) := by decide +kernel
theorem dL_isLevel_189 : decode cL_isLevel 189 = .ok (.iconst 0, 1) := by decide +kernel
theorem dL_isLevel_190 : decode cL_isLevel 190 = .ok (.ireturn, 1) := by decide +kernel
theorem dL_isLevel_191 : decode cL_isLevel 191 = .ok (.lload 4, 2) := by decide +kernel
theorem dL_isLevel_193 : decode cL_isLevel 193 = .ok (.lload_n 2, 1) := by decide +kernel
theorem dL_isLevel_194 : decode cL_isLevel 194 = .ok (.lconst 1, 1) := by decide +kernel
theorem dL_isLevel_195 : decode cL_isLevel 195 = .ok (.ladd, 1) := by decide +kernel
theorem dL_isLevel_196 : decode cL_isLevel 196 = .ok (.lmul, 1) := by decide +kernel
theorem dL_isLevel_197 : decode cL_isLevel 197 = .ok (.lload 8, 2) := by decide +kernel
theorem dL_isLevel_199 : decode cL_isLevel 199 = .ok (.ladd, 1) := by decide +kernel
theorem dL_isLevel_200 : decode cL_isLevel 200 = .ok (.lload 10, 2) := by decide +kernel
theorem dL_isLevel_202 : decode cL_isLevel 202 = .ok (.lcmp, 1) := by decide +kernel
theorem dL_isLevel_203 : decode cL_isLevel 203 = .ok (.ifCond .le 26, 3) := by decide +kernel
theorem dL_isLevel_206 : decode cL_isLevel 206 = .ok (.lload 10, 2) := by decide +kernel
theorem dL_isLevel_208 : decode cL_isLevel 208 = .ok (.aload_n 0, 1) := by decide +kernel
theorem dL_isLevel_209 : decode cL_isLevel 209 = .ok (.iload_n 1, 1) := by decide +kernel
theorem dL_isLevel_210 : decode cL_isLevel 210 = .ok (.iconst 3, 1) := by decide +kernel
theorem dL_isLevel_211 : decode cL_isLevel 211 = .ok (.invokevirtual 161, 3) := by decide +kernel
theorem dL_isLevel_214 : decode cL_isLevel 214 = .ok (.aload_n 0, 1) := by decide +kernel
theorem dL_isLevel_215 : decode cL_isLevel 215 = .ok (.iload_n 1, 1) := by decide +kernel
theorem dL_isLevel_216 : decode cL_isLevel 216 = .ok (.iconst 2, 1) := by decide +kernel
theorem dL_isLevel_217 : decode cL_isLevel 217 = .ok (.invokevirtual 161, 3) := by decide +kernel
theorem dL_isLevel_220 : decode cL_isLevel 220 = .ok (.lsub, 1) := by decide +kernel
theorem dL_isLevel_221 : decode cL_isLevel 221 = .ok (.lcmp, 1) := by decide +kernel
theorem dL_isLevel_222 : decode cL_isLevel 222 = .ok (.ifCond .ne 7, 3) := by decide +kernel
theorem dL_isLevel_225 : decode cL_isLevel 225 = .ok (.iconst 1, 1) := by decide +kernel
theorem dL_isLevel_226 : decode cL_isLevel 226 = .ok (.goto 4, 3) := by decide +kernel
theorem dL_isLevel_229 : decode cL_isLevel 229 = .ok (.iconst 0, 1) := by decide +kernel
theorem dL_isLevel_230 : decode cL_isLevel 230 = .ok (.ireturn, 1) := by decide +kernel
theorem dJ0_length_8abf5_0 : decode cJ0_length_8abf5 0 = .ok (.aload_n 0, 1) := by decide +kernel
theorem dJ0_length_8abf5_1 : decode cJ0_length_8abf5 1 = .ok (.getfield 9, 3) := by decide +kernel
theorem dJ0_length_8abf5_4 : decode cJ0_length_8abf5 4 = .ok (.arraylength, 1) := by decide +kernel
theorem dJ0_length_8abf5_5 : decode cJ0_length_8abf5 5 = .ok (.aload_n 0, 1) := by decide +kernel
theorem dJ0_length_8abf5_6 : decode cJ0_length_8abf5 6 = .ok (.invokevirtual 335, 3) := by decide +kernel
theorem dJ0_length_8abf5_9 : decode cJ0_length_8abf5 9 = .ok (.ishr, 1) := by decide +kernel
theorem dJ0_length_8abf5_10 : decode cJ0_length_8abf5 10 = .ok (.ireturn, 1) := by decide +kernel
theorem dJ0_coder_7d493_0 : decode cJ0_coder_7d493 0 = .ok (.getstatic 38, 3) := by decide +kernel
theorem dJ0_coder_7d493_3 : decode cJ0_coder_7d493 3 = .ok (.ifCond .eq 10, 3) := by decide +kernel
theorem dJ0_coder_7d493_6 : decode cJ0_coder_7d493 6 = .ok (.aload_n 0, 1) := by decide +kernel
theorem dJ0_coder_7d493_7 : decode cJ0_coder_7d493 7 = .ok (.getfield 15, 3) := by decide +kernel
theorem dJ0_coder_7d493_10 : decode cJ0_coder_7d493 10 = .ok (.goto 4, 3) := by decide +kernel
theorem dJ0_coder_7d493_13 : decode cJ0_coder_7d493 13 = .ok (.iconst 1, 1) := by decide +kernel
theorem dJ0_coder_7d493_14 : decode cJ0_coder_7d493 14 = .ok (.ireturn, 1) := by decide +kernel
theorem dJ0_charAt_5068e_0 : decode cJ0_charAt_5068e 0 = .ok (.aload_n 0, 1) := by decide +kernel
theorem dJ0_charAt_5068e_1 : decode cJ0_charAt_5068e 1 = .ok (.invokevirtual 492, 3) := by decide +kernel
theorem dJ0_charAt_5068e_4 : decode cJ0_charAt_5068e 4 = .ok (.ifCond .eq 12, 3) := by decide +kernel
theorem dJ0_charAt_5068e_7 : decode cJ0_charAt_5068e 7 = .ok (.aload_n 0, 1) := by decide +kernel
theorem dJ0_charAt_5068e_8 : decode cJ0_charAt_5068e 8 = .ok (.getfield 9, 3) := by decide +kernel
theorem dJ0_charAt_5068e_11 : decode cJ0_charAt_5068e 11 = .ok (.iload_n 1, 1) := by decide +kernel
theorem dJ0_charAt_5068e_12 : decode cJ0_charAt_5068e 12 = .ok (.invokestatic 495, 3) := by decide +kernel
theorem dJ0_charAt_5068e_15 : decode cJ0_charAt_5068e 15 = .ok (.ireturn, 1) := by decide +kernel
theorem dJ0_charAt_5068e_16 : decode cJ0_charAt_5068e 16 = .ok (.aload_n 0, 1) := by decide +kernel
theorem dJ0_charAt_5068e_17 : decode cJ0_charAt_5068e 17 = .ok (.getfield 9, 3) := by decide +kernel
theorem dJ0_charAt_5068e_20 : decode cJ0_charAt_5068e 20 = .ok (.iload_n 1, 1) := by decide +kernel
theorem dJ0_charAt_5068e_21 : decode cJ0_charAt_5068e 21 = .ok (.invokestatic 498, 3) := by decide +kernel
theorem dJ0_charAt_5068e_24 : decode cJ0_charAt_5068e 24 = .ok (.ireturn, 1) := by decide +kernel
theorem dJ0_isLatin1_aae02_0 : decode cJ0_isLatin1_aae02 0 = .ok (.getstatic 38, 3) := by decide +kernel
theorem dJ0_isLatin1_aae02_3 : decode cJ0_isLatin1_aae02 3 = .ok (.ifCond .eq 14, 3) := by decide +kernel
theorem dJ0_isLatin1_aae02_6 : decode cJ0_isLatin1_aae02 6 = .ok (.aload_n 0, 1) := by decide +kernel
theorem dJ0_isLatin1_aae02_7 : decode cJ0_isLatin1_aae02 7 = .ok (.getfield 15, 3) := by decide +kernel
theorem dJ0_isLatin1_aae02_10 : decode cJ0_isLatin1_aae02 10 = .ok (.ifCond .ne 7, 3) := by decide +kernel
theorem dJ0_isLatin1_aae02_13 : decode cJ0_isLatin1_aae02 13 = .ok (.iconst 1, 1) := by decide +kernel
theorem dJ0_isLatin1_aae02_14 : decode cJ0_isLatin1_aae02 14 = .ok (.goto 4, 3) := by decide +kernel
theorem dJ0_isLatin1_aae02_17 : decode cJ0_isLatin1_aae02 17 = .ok (.iconst 0, 1) := by decide +kernel
theorem dJ0_isLatin1_aae02_18 : decode cJ0_isLatin1_aae02 18 = .ok (.ireturn, 1) := by decide +kernel
theorem dJ0_checkIndex_df160_0 : decode cJ0_checkIndex_df160 0 = .ok (.iload_n 0, 1) := by decide +kernel
theorem dJ0_checkIndex_df160_1 : decode cJ0_checkIndex_df160 1 = .ok (.iload_n 1, 1) := by decide +kernel
theorem dJ0_checkIndex_df160_2 : decode cJ0_checkIndex_df160 2 = .ok (.getstatic 1053, 3) := by decide +kernel
theorem dJ0_checkIndex_df160_5 : decode cJ0_checkIndex_df160 5 = .ok (.invokestatic 1059, 3) := by decide +kernel
theorem dJ0_checkIndex_df160_8 : decode cJ0_checkIndex_df160 8 = .ok (.pop, 1) := by decide +kernel
theorem dJ0_checkIndex_df160_9 : decode cJ0_checkIndex_df160 9 = .ok (.return_, 1) := by decide +kernel
theorem dJ1_charAt_3b067_0 : decode cJ1_charAt_3b067 0 = .ok (.iload_n 1, 1) := by decide +kernel
theorem dJ1_charAt_3b067_1 : decode cJ1_charAt_3b067 1 = .ok (.aload_n 0, 1) := by decide +kernel
theorem dJ1_charAt_3b067_2 : decode cJ1_charAt_3b067 2 = .ok (.arraylength, 1) := by decide +kernel
theorem dJ1_charAt_3b067_3 : decode cJ1_charAt_3b067 3 = .ok (.invokestatic 9, 3) := by decide +kernel
theorem dJ1_charAt_3b067_6 : decode cJ1_charAt_3b067 6 = .ok (.aload_n 0, 1) := by decide +kernel
theorem dJ1_charAt_3b067_7 : decode cJ1_charAt_3b067 7 = .ok (.iload_n 1, 1) := by decide +kernel
theorem dJ1_charAt_3b067_8 : decode cJ1_charAt_3b067 8 = .ok (.baload, 1) := by decide +kernel
theorem dJ1_charAt_3b067_9 : decode cJ1_charAt_3b067 9 = .ok (.sipush 255, 3) := by decide +kernel
theorem dJ1_charAt_3b067_12 : decode cJ1_charAt_3b067 12 = .ok (.iand, 1) := by decide +kernel
theorem dJ1_charAt_3b067_13 : decode cJ1_charAt_3b067 13 = .ok (.i2c, 1) := by decide +kernel
theorem dJ1_charAt_3b067_14 : decode cJ1_charAt_3b067 14 = .ok (.ireturn, 1) := by decide +kernel
theorem dJ3_checkIndex_8e157_0 : decode cJ3_checkIndex_8e157 0 = .ok (.iload_n 0, 1) := by decide +kernel
theorem dJ3_checkIndex_8e157_1 : decode cJ3_checkIndex_8e157 1 = .ok (.ifCond .lt 8, 3) := by decide +kernel
theorem dJ3_checkIndex_8e157_4 : decode cJ3_checkIndex_8e157 4 = .ok (.iload_n 0, 1) := by decide +kernel
theorem dJ3_checkIndex_8e157_5 : decode cJ3_checkIndex_8e157 5 = .ok (.iload_n 1, 1) := by decide +kernel
theorem dJ3_checkIndex_8e157_6 : decode cJ3_checkIndex_8e157 6 = .ok (.if_icmp .lt 10, 3) := by decide +kernel
theorem dJ3_checkIndex_8e157_9 : decode cJ3_checkIndex_8e157 9 = .ok (.aload_n 2, 1) := by decide +kernel
theorem dJ3_checkIndex_8e157_10 : decode cJ3_checkIndex_8e157 10 = .ok (.iload_n 0, 1) := by decide +kernel
theorem dJ3_checkIndex_8e157_11 : decode cJ3_checkIndex_8e157 11 = .ok (.iload_n 1, 1) := by decide +kernel
theorem dJ3_checkIndex_8e157_12 : decode cJ3_checkIndex_8e157 12 = .ok (.invokestatic 95, 3) := by decide +kernel
theorem dJ3_checkIndex_8e157_15 : decode cJ3_checkIndex_8e157 15 = .ok (.athrow, 1) := by decide +kernel
theorem dJ3_checkIndex_8e157_16 : decode cJ3_checkIndex_8e157 16 = .ok (.iload_n 0, 1) := by decide +kernel
theorem dJ3_checkIndex_8e157_17 : decode cJ3_checkIndex_8e157 17 = .ok (.ireturn, 1) := by decide +kernel
theorem dJ4_init_da8c8_0 : decode cJ4_init_da8c8 0 = .ok (.aload_n 0, 1) := by decide +kernel
theorem dJ4_init_da8c8_1 : decode cJ4_init_da8c8 1 = .ok (.bipush 16, 2) := by decide +kernel
theorem dJ4_init_da8c8_3 : decode cJ4_init_da8c8 3 = .ok (.invokespecial 1, 3) := by decide +kernel
theorem dJ4_init_da8c8_6 : decode cJ4_init_da8c8 6 = .ok (.return_, 1) := by decide +kernel
theorem dJ5_init_d00df_0 : decode cJ5_init_d00df 0 = .ok (.aload_n 0, 1) := by decide +kernel
theorem dJ5_init_d00df_1 : decode cJ5_init_d00df 1 = .ok (.invokespecial 3, 3) := by decide +kernel
theorem dJ5_init_d00df_4 : decode cJ5_init_d00df 4 = .ok (.getstatic 18, 3) := by decide +kernel
theorem dJ5_init_d00df_7 : decode cJ5_init_d00df 7 = .ok (.ifCond .eq 18, 3) := by decide +kernel
theorem dJ5_init_d00df_10 : decode cJ5_init_d00df 10 = .ok (.aload_n 0, 1) := by decide +kernel
theorem dJ5_init_d00df_11 : decode cJ5_init_d00df 11 = .ok (.iload_n 1, 1) := by decide +kernel
theorem dJ5_init_d00df_12 : decode cJ5_init_d00df 12 = .ok (.newarray .byte, 2) := by decide +kernel
theorem dJ5_init_d00df_14 : decode cJ5_init_d00df 14 = .ok (.putfield 15, 3) := by decide +kernel
theorem dJ5_init_d00df_17 : decode cJ5_init_d00df 17 = .ok (.aload_n 0, 1) := by decide +kernel
theorem dJ5_init_d00df_18 : decode cJ5_init_d00df 18 = .ok (.iconst 0, 1) := by decide +kernel
theorem dJ5_init_d00df_19 : decode cJ5_init_d00df 19 = .ok (.putfield 22, 3) := by decide +kernel
theorem dJ5_init_d00df_22 : decode cJ5_init_d00df 22 = .ok (.goto 16, 3) := by decide +kernel
theorem dJ5_init_d00df_25 : decode cJ5_init_d00df 25 = .ok (.aload_n 0, 1) := by decide +kernel
theorem dJ5_init_d00df_26 : decode cJ5_init_d00df 26 = .ok (.iload_n 1, 1) := by decide +kernel
theorem dJ5_init_d00df_27 : decode cJ5_init_d00df 27 = .ok (.invokestatic 26, 3) := by decide +kernel
theorem dJ5_init_d00df_30 : decode cJ5_init_d00df 30 = .ok (.putfield 15, 3) := by decide +kernel
theorem dJ5_init_d00df_33 : decode cJ5_init_d00df 33 = .ok (.aload_n 0, 1) := by decide +kernel
theorem dJ5_init_d00df_34 : decode cJ5_init_d00df 34 = .ok (.iconst 1, 1) := by decide +kernel
theorem dJ5_init_d00df_35 : decode cJ5_init_d00df 35 = .ok (.putfield 22, 3) := by decide +kernel
theorem dJ5_init_d00df_38 : decode cJ5_init_d00df 38 = .ok (.return_, 1) := by decide +kernel
theorem dJ9_floorDiv_f86c9_0 : decode cJ9_floorDiv_f86c9 0 = .ok (.lload_n 0, 1) := by decide +kernel
theorem dJ9_floorDiv_f86c9_1 : decode cJ9_floorDiv_f86c9 1 = .ok (.lload_n 2, 1) := by decide +kernel
theorem dJ9_floorDiv_f86c9_2 : decode cJ9_floorDiv_f86c9 2 = .ok (.ldiv, 1) := by decide +kernel
theorem dJ9_floorDiv_f86c9_3 : decode cJ9_floorDiv_f86c9 3 = .ok (.lstore 4, 2) := by decide +kernel
theorem dJ9_floorDiv_f86c9_5 : decode cJ9_floorDiv_f86c9 5 = .ok (.lload_n 0, 1) := by decide +kernel
theorem dJ9_floorDiv_f86c9_6 : decode cJ9_floorDiv_f86c9 6 = .ok (.lload_n 2, 1) := by decide +kernel
theorem dJ9_floorDiv_f86c9_7 : decode cJ9_floorDiv_f86c9 7 = .ok (.lxor, 1) := by decide +kernel
theorem dJ9_floorDiv_f86c9_8 : decode cJ9_floorDiv_f86c9 8 = .ok (.lconst 0, 1) := by decide +kernel
theorem dJ9_floorDiv_f86c9_9 : decode cJ9_floorDiv_f86c9 9 = .ok (.lcmp, 1) := by decide +kernel
theorem dJ9_floorDiv_f86c9_10 : decode cJ9_floorDiv_f86c9 10 = .ok (.ifCond .ge 17, 3) := by decide +kernel
theorem dJ9_floorDiv_f86c9_13 : decode cJ9_floorDiv_f86c9 13 = .ok (.lload 4, 2) := by decide +kernel
theorem dJ9_floorDiv_f86c9_15 : decode cJ9_floorDiv_f86c9 15 = .ok (.lload_n 2, 1) := by decide +kernel
theorem dJ9_floorDiv_f86c9_16 : decode cJ9_floorDiv_f86c9 16 = .ok (.lmul, 1) := by decide +kernel
theorem dJ9_floorDiv_f86c9_17 : decode cJ9_floorDiv_f86c9 17 = .ok (.lload_n 0, 1) := by decide +kernel
theorem dJ9_floorDiv_f86c9_18 : decode cJ9_floorDiv_f86c9 18 = .ok (.lcmp, 1) := by decide +kernel
theorem dJ9_floorDiv_f86c9_19 : decode cJ9_floorDiv_f86c9 19 = .ok (.ifCond .eq 8, 3) := by decide +kernel
theorem dJ9_floorDiv_f86c9_22 : decode cJ9_floorDiv_f86c9 22 = .ok (.lload 4, 2) := by decide +kernel
theorem dJ9_floorDiv_f86c9_24 : decode cJ9_floorDiv_f86c9 24 = .ok (.lconst 1, 1) := by decide +kernel
theorem dJ9_floorDiv_f86c9_25 : decode cJ9_floorDiv_f86c9 25 = .ok (.lsub, 1) := by decide +kernel
theorem dJ9_floorDiv_f86c9_26 : decode cJ9_floorDiv_f86c9 26 = .ok (.lreturn, 1) := by decide +kernel
theorem dJ9_floorDiv_f86c9_27 : decode cJ9_floorDiv_f86c9 27 = .ok (.lload 4, 2) := by decide +kernel
theorem dJ9_floorDiv_f86c9_29 : decode cJ9_floorDiv_f86c9 29 = .ok (.lreturn, 1) := by decide +kernel
theorem dJ9_floorMod_7cf53_0 : decode cJ9_floorMod_7cf53 0 = .ok (.iload_n 0, 1) := by decide +kernel
theorem dJ9_floorMod_7cf53_1 : decode cJ9_floorMod_7cf53 1 = .ok (.iload_n 1, 1) := by decide +kernel
theorem dJ9_floorMod_7cf53_2 : decode cJ9_floorMod_7cf53 2 = .ok (.irem, 1) := by decide +kernel
theorem dJ9_floorMod_7cf53_3 : decode cJ9_floorMod_7cf53 3 = .ok (.istore_n 2, 1) := by decide +kernel
theorem dJ9_floorMod_7cf53_4 : decode cJ9_floorMod_7cf53 4 = .ok (.iload_n 0, 1) := by decide +kernel
theorem dJ9_floorMod_7cf53_5 : decode cJ9_floorMod_7cf53 5 = .ok (.iload_n 1, 1) := by decide +kernel
theorem dJ9_floorMod_7cf53_6 : decode cJ9_floorMod_7cf53 6 = .ok (.ixor, 1) := by decide +kernel
theorem dJ9_floorMod_7cf53_7 : decode cJ9_floorMod_7cf53 7 = .ok (.ifCond .ge 11, 3) := by decide +kernel
theorem dJ9_floorMod_7cf53_10 : decode cJ9_floorMod_7cf53 10 = .ok (.iload_n 2, 1) := by decide +kernel
theorem dJ9_floorMod_7cf53_11 : decode cJ9_floorMod_7cf53 11 = .ok (.ifCond .eq 7, 3) := by decide +kernel
theorem dJ9_floorMod_7cf53_14 : decode cJ9_floorMod_7cf53 14 = .ok (.iload_n 2, 1) := by decide +kernel
theorem dJ9_floorMod_7cf53_15 : decode cJ9_floorMod_7cf53 15 = .ok (.iload_n 1, 1) := by decide +kernel
theorem dJ9_floorMod_7cf53_16 : decode cJ9_floorMod_7cf53 16 = .ok (.iadd, 1) := by decide +kernel
theorem dJ9_floorMod_7cf53_17 : decode cJ9_floorMod_7cf53 17 = .ok (.ireturn, 1) := by decide +kernel
theorem dJ9_floorMod_7cf53_18 : decode cJ9_floorMod_7cf53 18 = .ok (.iload_n 2, 1) := by decide +kernel
theorem dJ9_floorMod_7cf53_19 : decode cJ9_floorMod_7cf53 19 = .ok (.ireturn, 1) := by decide +kernel
end
section
/-! BASE: one list of words for all methods; a world as a list of cells behind functions; rows over it -/
/-- private methods of AbstractStringBuilder, called on a StringBuilder: no row of the tables says it, but it follows from them -/
def lw_ex : List Cond := []
def lw_all : List Cond := (lw_tbl ++ lw_ex).filter goodWord
theorem lw_q {w : Cond} (i : Nat) (h : lw_tbl[i]? = some w) (g : goodWord w = true) : w ∈ lw_all := List.mem_filter.mpr ⟨List.mem_append.mpr (Or.inl (List.mem_of_getElem? h)), g⟩
theorem lw_qx {w : Cond} (h : w ∈ lw_ex) (g : goodWord w = true) : w ∈ lw_all := List.mem_filter.mpr ⟨List.mem_append.mpr (Or.inr h), g⟩
theorem lw_all_tbl {w : Cond} (h : w ∈ lw_all) : w ∈ lw_tbl ∨ w ∈ lw_ex := List.mem_append.mp (List.mem_filter.mp h).1
theorem lw_all_good : ∀ w ∈ lw_all, ((w.onTables && w.keeps) = true ∨ ∃ ty, w = .arrayClass ty) := fun _ h => good_of_word (List.mem_filter.mp h).2
abbrev ws_ (y : MethodName) (cc : ByteArray) (n : Nat) (r : Option FieldType) : List Cond := Cond.code y cc n r :: lw_all
-- small things for the pure readings of the code
def lt {α β : Type} (a : α) (f : α → β) : β := f a
def ob {α β : Type} (a : Option α) (f : α → Option β) : Option β := a.bind f
theorem lt_out {α β : Type} {a : α} {f : α → β} {r : β} (h : lt a f = r) : ∃ x, x = a ∧ f x = r := ⟨a, rfl, h⟩
theorem ob_out {α β : Type} {a : Option α} {f : α → Option β} {r : β} (h : ob a f = some r) : ∃ x, a = some x ∧ f x = some r := Option.bind_eq_some_iff.mp h
theorem if_t {α : Type} {c : Prop} [Decidable c] {a b r : α} (hc : c) (h : (if c then a else b) = r) : a = r := by rw [if_pos hc] at h; exact h
theorem if_f {α : Type} {c : Prop} [Decidable c] {a b r : α} (hc : ¬ c) (h : (if c then a else b) = r) : b = r := by rw [if_neg hc] at h; exact h
theorem if_o {α : Type} {c : Prop} [Decidable c] {a : Option α} {r : α} (h : (if c then a else none) = some r) : c ∧ a = some r := by
  by_cases hc : c
  · rw [if_pos hc] at h; exact ⟨hc, h⟩
  · rw [if_neg hc] at h; cases h
def wloop {σ ρ : Type} (f : σ → Option (σ ⊕ ρ)) : Nat → σ → Option ρ
  | 0, _ => none
  | n + 1, s => match f s with
    | none => none
    | some (.inl t) => wloop f n t
    | some (.inr r) => some r
theorem wloop_0 {σ ρ : Type} {f : σ → Option (σ ⊕ ρ)} {s : σ} {e : ρ} (h : wloop f 0 s = some e) : False := by cases h
theorem wloop_out {σ ρ : Type} {f : σ → Option (σ ⊕ ρ)} {n : Nat} {s : σ} {e : ρ} (h : wloop f (n + 1) s = some e) : ∃ x, f s = some x ∧ ((∃ t, x = .inl t ∧ wloop f n t = some e) ∨ x = .inr e) := by
  unfold wloop at h
  cases hx : f s with
  | none => rw [hx] at h; cases h
  | some x =>
    rw [hx] at h
    cases x with
    | inl t => exact ⟨_, rfl, Or.inl ⟨t, rfl, h⟩⟩
    | inr r => exact ⟨_, rfl, Or.inr (by cases h; rfl)⟩
theorem wl_l {σ ρ : Type} {f : σ → Option (σ ⊕ ρ)} {n : Nat} {x : σ ⊕ ρ} {t : σ} {e : ρ} (h : some (Sum.inl t) = some x) (k : (∃ t, x = .inl t ∧ wloop f n t = some e) ∨ x = .inr e) : wloop f n t = some e := by
  cases h
  rcases k with ⟨t', e1, k⟩ | k
  · cases e1; exact k
  · cases k
theorem wl_r {σ ρ : Type} {f : σ → Option (σ ⊕ ρ)} {n : Nat} {x : σ ⊕ ρ} {t : ρ} {e : ρ} (h : some (Sum.inr t) = some x) (k : (∃ t, x = .inl t ∧ wloop f n t = some e) ∨ x = .inr e) : e = t := by
  cases h
  rcases k with ⟨t', e1, k⟩ | k
  · cases e1
  · cases k; rfl
def b2i (b : Bool) : Int32 := if b = true then 1 else 0
theorem b2i_nar (b : Bool) : narrow .boolean (.int (b2i b)) = .int (b2i b) := by cases b <;> rfl
theorem b2i_0 {b : Bool} : b2i b = 0 ↔ ¬ b = true := by cases b <;> decide
theorem inb_vp {x : Int32} {n : Nat} (h : 0 ≤ x.toInt ∧ x.toInt < (n : Int)) : vp_in x n := vp_in_iff.mpr h
theorem inb_2 {x y : Int32} {n : Nat} (h1 : ¬ x < 0) (h2 : ¬ y ≤ x) (hy : y.toInt = (n : Int)) : vp_in x n := by
  rw [Int32.lt_iff_toInt_lt, Int32.toInt_zero] at h1
  rw [Int32.le_iff_toInt_le] at h2
  exact vp_in_iff.mpr ⟨by omega, by omega⟩
theorem inb_3 {x y : Int32} {n : Nat} (h1 : ¬ x < 0) (h2 : x < y) (hy : y.toInt = (n : Int)) : vp_in x n := by
  rw [Int32.lt_iff_toInt_lt, Int32.toInt_zero] at h1
  rw [Int32.lt_iff_toInt_lt] at h2
  exact vp_in_iff.mpr ⟨by omega, by omega⟩
theorem l_ne {x : Int32} (h : ¬ x = 0) : ¬ x.toInt64 = 0 := fun q => h (by
  have := congrArg Int64.toInt q
  rw [Int32.toInt_toInt64] at this
  exact Int32.toInt_inj.mp (by rw [this]; rfl))
-- the cells: rows 0 to 12 of 18 cells each, then seven cells more
abbrev RowS : Type := (Nat → Nat → Int32) × (Nat → Nat → Int64)
abbrev RowsS : Type := Nat → RowS
abbrev GlbS : Type := Nat → Nat → Int32
def si (R : RowS) (c k : Nat) (v : Int32) : RowS := (va_up R.1 c (va_up (R.1 c) k v), R.2)
def sl (R : RowS) (c k : Nat) (v : Int64) : RowS := (R.1, va_up R.2 c (va_up (R.2 c) k v))
def sg (G : GlbS) (c k : Nat) (v : Int32) : GlbS := va_up G c (va_up (G c) k v)
def tubeFs (T : Nat → Int32) : List Value := [.int (T 0), .int (T 1), .int (T 2), .int (T 3), .int (T 4), .int (T 5), .int (T 6), .int (T 7), .int (T 8), .int (T 9)]
def legFs (I : Nat → Int32) (L : Nat → Int64) : List Value := [.int (I 0), .int (I 1), .int (I 2), .long (L 3), .long (L 4), .long (L 5), .long (L 6)]
def rowFs (ar : Nat → Nat → Nat) (r : Nat) (I : Nat → Int32) : List Value := [.int (I 0), .int (I 1), .int (I 2), .ref (ar r 1), .ref (ar r 2), .ref (ar r 3), .ref (ar r 4), .ref (ar r 17)]
def rowCell (ar : Nat → Nat → Nat) (ca : Nat → ClassId) (r : Nat) (R : RowS) : Nat → va_E
  | 0 => .inr (5, rowFs ar r (R.1 0))
  | 1 => .inl (ca 1, 8, .inl (R.1 1))
  | 2 => .inr (3, legFs (R.1 2) (R.2 2))
  | 3 => .inr (3, legFs (R.1 3) (R.2 3))
  | 4 => .inl (ca 4, 12, .inr (.inr (.inr (.inr fun j => some (ar r (j + 5))))))
  | c + 5 => .inr (8, tubeFs (R.1 (c + 5)))
def objFs (ar : Nat → Nat → Nat) (ag : Nat → Nat) (I : Nat → Int32) : List Value := [.ref (ar 0 0), .ref (ar 1 0), .ref (ar 2 0), .ref (ag 1), .ref (ag 3), .ref (ag 5), .int (I 6)]
def hisFs (ag : Nat → Nat) (I : Nat → Int32) : List Value := [.ref (ag 2), .int (I 1), .int (I 2)]
def tokFs (ag : Nat → Nat) (I : Nat → Int32) : List Value := [.ref (ag 4), .int (I 1), .int (I 2), .int (I 3), .int (I 4), .int (I 5), .int (I 6), .int (I 7), .int (I 8)]
def sbuFs (ag : Nat → Nat) (I : Nat → Int32) : List Value := [.ref (ag 6), .int 0, .int (I 2), .int (I 3)]
def lawFs (ag : Nat → Nat) (I : Nat → Int32) : List Value := [.ref (ag 8), .int (I 1)]
def glbCell (ar : Nat → Nat → Nat) (ag : Nat → Nat) (ca : Nat → ClassId) (G : GlbS) : Nat → va_E
  | 0 => .inr (9, objFs ar ag (G 0))
  | 1 => .inr (2, hisFs ag (G 1))
  | 2 => .inl (ca 3, 10, .inr (.inr (.inr (.inr fun j => some (ar (j + 3) 0)))))
  | 3 => .inr (7, tokFs ag (G 3))
  | 4 => .inl (ca 0, 600, .inl (G 4))
  | 5 => .inr (1, sbuFs ag (G 5))
  | 6 => .inl (ca 0, 16, .inl (G 6))
  | 7 => .inr (10, lawFs ag (G 7))
  | _ + 8 => .inl (ca 1, 700, .inl (G 8))
def wC (ar : Nat → Nat → Nat) (ag : Nat → Nat) (ca : Nat → ClassId) (P : RowsS) (G : GlbS) : va_W :=
  (List.range 234).map (fun n => (ar (n / 18) (n % 18), rowCell ar ca (n / 18) (P (n / 18)) (n % 18))) ++ (List.range 9).map (fun k => (ag k, glbCell ar ag ca G k))
theorem wC_len {ar : Nat → Nat → Nat} {ag : Nat → Nat} {ca : Nat → ClassId} {P : RowsS} {G : GlbS} : (wC ar ag ca P G).length = 243 := by simp [wC]
theorem wC_get {ar : Nat → Nat → Nat} {ag : Nat → Nat} {ca : Nat → ClassId} {P : RowsS} {G : GlbS} (n : Nat) : (wC ar ag ca P G)[n]? = if n < 234 then some (ar (n / 18) (n % 18), rowCell ar ca (n / 18) (P (n / 18)) (n % 18)) else if n < 243 then some (ag (n - 234), glbCell ar ag ca G (n - 234)) else none := by
  unfold wC
  by_cases h : n < 234
  · rw [if_pos h, List.getElem?_append_left (by simpa using h), List.getElem?_map, List.getElem?_range h]; rfl
  · rw [if_neg h, List.getElem?_append_right (by simp; omega), List.getElem?_map]
    simp only [List.length_map, List.length_range]
    by_cases h2 : n < 243
    · rw [if_pos h2, List.getElem?_range (by omega)]; rfl
    · rw [if_neg h2, List.getElem?_eq_none (by simp; omega)]; rfl
theorem wC_fst {ar : Nat → Nat → Nat} {ag : Nat → Nat} {ca : Nat → ClassId} {P P' : RowsS} {G G' : GlbS} : (wC ar ag ca P G).map Prod.fst = (wC ar ag ca P' G').map Prod.fst := by
  simp [wC, Function.comp_def]
theorem wC_fstx {ar : Nat → Nat → Nat} {ag : Nat → Nat} {ca : Nat → ClassId} {P P' : RowsS} {G G' : GlbS} {xs : va_W} : (wC ar ag ca P G ++ xs).map Prod.fst = (wC ar ag ca P' G' ++ xs).map Prod.fst := by
  rw [List.map_append, List.map_append, wC_fst]
theorem pl_row {ar : Nat → Nat → Nat} {ag : Nat → Nat} {ca : Nat → ClassId} {P : RowsS} {G : GlbS} {xs : va_W} {r c : Nat} (hr : r < 13) (hc : c < 18) : (wC ar ag ca P G ++ xs)[18 * r + c]? = some (ar r c, rowCell ar ca r (P r) c) := by
  have h1 : (18 * r + c) / 18 = r := by omega
  have h2 : (18 * r + c) % 18 = c := by omega
  rw [List.getElem?_append_left (by rw [wC_len]; omega), wC_get, if_pos (by omega), h1, h2]
theorem pl_glb {ar : Nat → Nat → Nat} {ag : Nat → Nat} {ca : Nat → ClassId} {P : RowsS} {G : GlbS} {xs : va_W} {k : Nat} (hk : k < 9) : (wC ar ag ca P G ++ xs)[234 + k]? = some (ag k, glbCell ar ag ca G k) := by
  have h1 : 234 + k - 234 = k := by omega
  rw [List.getElem?_append_left (by rw [wC_len]; omega), wC_get, if_neg (by omega), if_pos (by omega), h1]
theorem pl_xs {ar : Nat → Nat → Nat} {ag : Nat → Nat} {ca : Nat → ClassId} {P : RowsS} {G : GlbS} {xs : va_W} {k : Nat} : (wC ar ag ca P G ++ xs)[243 + k]? = xs[k]? := by
  have h1 : 243 + k - 243 = k := by omega
  rw [List.getElem?_append_right (by rw [wC_len]; omega), wC_len, h1]
theorem rowCell_congr {ar : Nat → Nat → Nat} {ca : Nat → ClassId} {r d : Nat} {R R' : RowS} (h1 : R'.1 d = R.1 d) (h2 : R'.2 d = R.2 d) : rowCell ar ca r R' d = rowCell ar ca r R d := by
  unfold rowCell; split <;> simp_all
theorem glbCell_congr {ar : Nat → Nat → Nat} {ag : Nat → Nat} {ca : Nat → ClassId} {d : Nat} {G G' : GlbS} (hd : d < 9) (h1 : G' d = G d) : glbCell ar ag ca G' d = glbCell ar ag ca G d := by
  unfold glbCell; split
  all_goals first
    | simp_all; done
    | rfl
    | (rename_i n; have : n = 0 := by omega
       subst this; simp_all)
theorem set_row {ar : Nat → Nat → Nat} {ag : Nat → Nat} {ca : Nat → ClassId} {P : RowsS} {G : GlbS} {xs : va_W} {r c : Nat} {R' : RowS} {e : va_E} (hr : r < 13) (hc : c < 18) (he : rowCell ar ca r R' c = e) (h1 : ∀ d, d ≠ c → R'.1 d = (P r).1 d) (h2 : ∀ d, d ≠ c → R'.2 d = (P r).2 d) : (wC ar ag ca P G ++ xs).set (18 * r + c) (ar r c, e) = wC ar ag ca (va_up P r R') G ++ xs := by
  apply List.ext_getElem?
  intro n
  by_cases hn : n = 18 * r + c
  · subst hn
    rw [List.getElem?_set_self (by rw [List.length_append, wC_len]; omega), pl_row hr hc, va_up_self, he]
  · rw [List.getElem?_set_ne (Ne.symm hn)]
    by_cases hx : n < 243
    · rw [List.getElem?_append_left (by rw [wC_len]; exact hx), List.getElem?_append_left (by rw [wC_len]; exact hx), wC_get, wC_get]
      by_cases h3 : n < 234
      · rw [if_pos h3, if_pos h3]
        by_cases h4 : n / 18 = r
        · have h5 : n % 18 ≠ c := by omega
          rw [h4, va_up_self, rowCell_congr (h1 _ h5) (h2 _ h5)]
        · rw [va_up_ne _ _ h4]
      · rw [if_neg h3, if_neg h3]
    · rw [List.getElem?_append_right (by rw [wC_len]; omega), List.getElem?_append_right (by rw [wC_len]; omega), wC_len, wC_len]
theorem set_glb {ar : Nat → Nat → Nat} {ag : Nat → Nat} {ca : Nat → ClassId} {P : RowsS} {G G' : GlbS} {xs : va_W} {k : Nat} {e : va_E} (hk : k < 9) (he : glbCell ar ag ca G' k = e) (h1 : ∀ d, d ≠ k → G' d = G d) : (wC ar ag ca P G ++ xs).set (234 + k) (ag k, e) = wC ar ag ca P G' ++ xs := by
  apply List.ext_getElem?
  intro n
  by_cases hn : n = 234 + k
  · subst hn
    rw [List.getElem?_set_self (by rw [List.length_append, wC_len]; omega), pl_glb hk, he]
  · rw [List.getElem?_set_ne (Ne.symm hn)]
    by_cases hx : n < 243
    · rw [List.getElem?_append_left (by rw [wC_len]; exact hx), List.getElem?_append_left (by rw [wC_len]; exact hx), wC_get, wC_get]
      by_cases h3 : n < 234
      · rw [if_pos h3, if_pos h3]
      · rw [if_neg h3, if_neg h3, if_pos hx, if_pos hx, glbCell_congr (by omega) (h1 _ (by omega))]
    · rw [List.getElem?_append_right (by rw [wC_len]; omega), List.getElem?_append_right (by rw [wC_len]; omega), wC_len, wC_len]
end
section
/-! ROWS: one instruction or one call, over a world in one piece -/
abbrev tyl (ca : Nat → ClassId) : List (ClassId × FieldType) := [(ca 0, .byte), (ca 1, .int), (ca 2, .int), (ca 3, .object "SlantGauges$Row"), (ca 4, .object "SlantGauges$Tube")]
def AL (ws : va_W) (sz : Nat) : Nat → Prop := fun q => q ∈ ws.map Prod.fst ∨ sz ≤ q
def RW (D : va_G) (ws : va_W) (H0 H : Heap) (locs : List Loc) : Prop := va_P D vwCl ws H ∧ va_D (AL ws H0.size) ws ∧ va_S (AL ws H0.size) H0 H locs
def MC (D : va_G) (ca : Nat → ClassId) (p : Program) (s : State) (m : MethodId) (args : Array Value) (meth : Method) (c : Code) (cc : ByteArray) (nL : Nat) (own : String) : Prop :=
  p.tables.exec = Jvm.exec ∧ c.code = cc ∧ c.maxLocals = nL ∧ s.vm.findClass own = some m.cls ∧ (∀ w ∈ lw_all, w.before args s = true) ∧ va_K D vwCl (tyl ca) s ∧ meth.locks = false
def PCw (D : va_G) (ca : Nat → ClassId) (ws : va_W) (sz : Nat) (av : List Value) : Array Value → State → Prop := fun v U => v = av.toArray ∧ U.heap.size = sz ∧ va_P D vwCl ws U.heap ∧ va_K D vwCl (tyl ca) U ∧ va_D (fun _ => True) ws
def QMw (D : va_G) (ws ws' : va_W) (sz : Nat) (v : Option Value) : Array Value → State → Outcome → State → Prop := fun _ st o t => o = .returned v ∧ va_P D vwCl ws' t.heap ∧ va_D (AL ws sz) ws' ∧ va_F (AL ws sz) st t
theorem AL_fst {ws ws' : va_W} {sz : Nat} (h : ws.map Prod.fst = ws'.map Prod.fst) : AL ws sz = AL ws' sz := by unfold AL; rw [h]
theorem fst_set {ws : va_W} {q0 a : Nat} {e e' : va_E} (h : ws[q0]? = some (a, e)) : (ws.set q0 (a, e')).map Prod.fst = ws.map Prod.fst := by
  rw [List.map_set]
  apply List.ext_getElem?
  intro n
  by_cases hn : n = q0
  · subst hn
    have hl := (List.getElem?_eq_some_iff.mp h).1
    rw [List.getElem?_set_self (by simpa using hl), List.getElem?_map, h]; rfl
  · rw [List.getElem?_set_ne (Ne.symm hn)]
theorem PCw_blind {D : va_G} {ca : Nat → ClassId} {ws : va_W} {sz : Nat} {av : List Value} : FrameBlind (PCw D ca ws sz av) := fun a U g mk q => by
  obtain ⟨q0, q1, qP, qK, qD⟩ := q
  exact ⟨q0, q1, qP, va_K.moved (u := U) (U := U.calling g mk a) (Vm.Alike.refl U.vm) qK, qD⟩
theorem met_of {l : Launch} {y : MethodName} {cc : ByteArray} {nL : Nat} {ret : Option FieldType} {rm : Room} {D : va_G} {ca : Nat → ClassId} {ws ws' : va_W} {sz : Nat} {av : List Value} {v : Option Value} {mc ms : Nat} (hy : plainName y.cls = true) (hav : (lg_sl av).length ≤ nL)
    (body : ∀ (p : Program) (e : Env) (s : State) (m : MethodId) (args : Array Value) (below : List Frame) (meth : Method) (c : Code), MC D ca p s m args meth c cc nL y.cls → meth.sig.returnType = ret → RW D ws s.heap s.heap [] → s.heap.size = sz → ∀ ls : Array Slot, lv_has ls nL (lv_args 0 av) →
      W p l e rm s m args below meth c s.heap [] 0 0 (MQ below (QMw D ws ws' sz v) args s mc ms (AL ws sz)) (F0 m 0 ls [])) : Met l y (ws_ y cc nL ret) rm (PCw D ca ws sz av) (QMw D ws ws' sz v) mc ms (AL ws sz) := by
  refine Met.ofW (cc := cc) (maxL := nL) (ret := ret) hy rfl ?_
  intro p e s m args below meth c s₁ B hml hv
  obtain ⟨rfl, hsz, hP, hK, hD0⟩ := hv
  have hts := atoms_spec (ws := ws_ y cc nL ret) B.pre
  have hD : va_D (AL ws s.heap.size) ws := hD0.weaken (fun k q hk _ => Or.inl (List.mem_map.mpr ⟨q, List.mem_of_getElem? hk, rfl⟩))
  have hl := lv_entry av (n := nL) hav
  rw [lg_entry_eq]
  exact body p e s m _ below meth c ⟨B.exec, B.bytes, hml, findClass_of_methodNamed B.named, fun w h => hts w (List.mem_cons_of_mem _ h), hK, B.notSynchronized⟩ B.returns ⟨hP, hD, va_S.rf⟩ hsz _ hl
theorem Met_ofWF {l : Launch} {y : MethodName} {ws ws' : List Cond} {rm : Room} {Pc : Array Value → State → Prop} {Qc : Array Value → State → Outcome → State → Prop} {mc ms : Nat} {free : Addr → Prop} {cc : ByteArray} {maxL : Nat} {ret : Option FieldType}
    (hy : plainFor y = true) (hw : ws = Cond.code y cc maxL ret :: ws')
    (body : ∀ p e s m args below meth c s₁, BodyLoose p l y (headSpec ws rm) cc maxL ret e s m args below meth c s₁ → c.maxLocals = maxL → Pc args s →
      W p l e (headSpec ws rm).room s m args below meth c s.heap [] 0 0 (MQ below Qc args s mc ms free) (entryFrame m args maxL)) : Met l y ws rm Pc Qc mc ms free := by
  refine MetFree.of_bodySF (code := cc) (maxLocals := maxL) (ret := ret) hy ?_ ?_
  · intro args s m h hn
    obtain ⟨meth, c, h1, h2, h3, h4, h5, h6, -, -⟩ := Cond.code_spec hn (atoms_spec (ws := ws) h _ (by rw [hw]; exact List.mem_cons_self))
    exact ⟨meth, c, h1, h2, h3, h4, h5, h6⟩
  · intro p e s m args below meth c s₁ B hml hP _
    have hh0 : s₁.heap = s.heap := by rw [B.state]; rfl
    obtain ⟨t, a1, o, b1, b2, b3⟩ := body p e s m args below meth c s₁ B hml hP s₁ hh0 (Stand.of_body B)
    exact ⟨t, o, a1, b1, b2, ⟨b3.1, b3.2⟩⟩
theorem met_ofF {l : Launch} {y : MethodName} {cc : ByteArray} {nL : Nat} {ret : Option FieldType} {rm : Room} {D : va_G} {ca : Nat → ClassId} {ws ws' : va_W} {sz : Nat} {av : List Value} {v : Option Value} {mc ms : Nat} (hy : plainFor y = true) (hav : (lg_sl av).length ≤ nL)
    (body : ∀ (p : Program) (e : Env) (s : State) (m : MethodId) (args : Array Value) (below : List Frame) (meth : Method) (c : Code), MC D ca p s m args meth c cc nL y.cls → meth.sig.returnType = ret → RW D ws s.heap s.heap [] → s.heap.size = sz → ∀ ls : Array Slot, lv_has ls nL (lv_args 0 av) →
      W p l e rm s m args below meth c s.heap [] 0 0 (MQ below (QMw D ws ws' sz v) args s mc ms (AL ws sz)) (F0 m 0 ls [])) : Met l y (ws_ y cc nL ret) rm (PCw D ca ws sz av) (QMw D ws ws' sz v) mc ms (AL ws sz) := by
  refine Met_ofWF (cc := cc) (maxL := nL) (ret := ret) hy rfl ?_
  intro p e s m args below meth c s₁ B hml hv
  obtain ⟨rfl, hsz, hP, hK, hD0⟩ := hv
  have hts := atoms_spec (ws := ws_ y cc nL ret) B.pre
  have hD : va_D (AL ws s.heap.size) ws := hD0.weaken (fun k q hk _ => Or.inl (List.mem_map.mpr ⟨q, List.mem_of_getElem? hk, rfl⟩))
  have hl := lv_entry av (n := nL) hav
  rw [lg_entry_eq]
  exact body p e s m _ below meth c ⟨B.exec, B.bytes, hml, findClass_of_methodNamed B.named, fun w h => hts w (List.mem_cons_of_mem _ h), hK, B.notSynchronized⟩ B.returns ⟨hP, hD, va_S.rf⟩ hsz _ hl
section RWS
variable {p : Program} {l : Launch} {e : Env} {Rm : Room} {s : State} {m : MethodId} {args : Array Value} {below : List Frame} {meth : Method} {c : Code} {H0 H : Heap} {locs : List Loc} {cells slots : Nat} {Q : State → Prop}
variable {cc : ByteArray} {nL : Nat} {own : String} {D : va_G} {ca : Nat → ClassId} {ws ws2 : va_W} {pc : Nat} {ls : Array Slot} {rest : List Value} {a : Nat}
theorem w_get (M : MC D ca p s m args meth c cc nL own) (X : RW D ws H0 H locs) {C : String} {T : u_T} {N ci idx : Nat} {fs : List Value} {v : Value} (hin : ∀ w ∈ u_ws C T N, w ∈ lw_all) (hc : vwCl[ci]? = some (C, T, N)) (q0 : Nat) (he : ws[q0]? = some (a, .inr (ci, fs))) (k : Nat) (hk : k < N) (hl : Cond.fieldLink own idx (T k).1 (T k).2.1 (T k).2.2.1 ∈ lw_all) (hv : fs[k]? = some v) (hdg : decode cc pc = .ok (.getfield idx, 3))
    (kk : W p l e Rm s m args below meth c H locs cells slots Q (F0 m (pc + 3) ls (v :: rest))) : W p l e Rm s m args below meth c H locs cells slots Q (F0 m pc ls (.ref a :: rest)) := by
  obtain ⟨hx, hb, hml, hown, hts, hK, -⟩ := M
  exact va_get hx hb hts hin hown hK X.1 q0 he hc k hk (hts _ hl) (fun _ h => h) hv hdg kk
theorem w_put (M : MC D ca p s m args meth c cc nL own) (X : RW D ws H0 H locs) {C : String} {T : u_T} {N ci idx : Nat} {fs : List Value} {v : Value} {ty : FieldType} (hin : ∀ w ∈ u_ws C T N, w ∈ lw_all) (ty0 : Nat → FieldType) (hty : ∀ k, k < N → parseFieldDescriptor (T k).2.2.1 = some (ty0 k)) (hnm : ∀ a, a < N → ∀ b, b < N → a ≠ b → (T a).2.1 ≠ (T b).2.1) (hc : vwCl[ci]? = some (C, T, N)) (q0 : Nat) (he : ws[q0]? = some (a, .inr (ci, fs))) (k : Nat) (hk : k < N) (hl : Cond.fieldLink own idx (T k).1 (T k).2.1 (T k).2.2.1 ∈ lw_all) (hfin : (T k).2.2.2 = false) (hd : parseFieldDescriptor (T k).2.2.1 = some ty) (hn : narrow ty v = v) (hfit : fits ty v = true) (hlen : k < fs.length) (hs : ws.set q0 (a, .inr (ci, fs.set k v)) = ws2) (hdg : decode cc pc = .ok (.putfield idx, 3))
    (kk : ∀ (H1 : Heap) (locs1 : List Loc), RW D ws2 H0 H1 locs1 → W p l e Rm s m args below meth c H1 locs1 cells slots Q (F0 m (pc + 3) ls rest)) : W p l e Rm s m args below meth c H locs cells slots Q (F0 m pc ls (v :: .ref a :: rest)) := by
  obtain ⟨hx, hb, hml, hown, hts, hK, -⟩ := M
  have hf : AL ws H0.size = AL ws2 H0.size := AL_fst (by rw [← hs, fst_set he])
  refine va_put hx hb hts hin ty0 hty hnm hown hK X.1 X.2.1 X.2.2 q0 he hc k hk (hts _ hl) (fun _ h => h) hfin hd hn hfit hlen hdg (fun H1 locs1 h1 h2 h3 => kk H1 locs1 ⟨?_, ?_, ?_⟩)
  · rw [← hs]; exact h1
  · rw [← hs] at hf ⊢; rw [← hf]; exact h2
  · rw [← hf]; exact h3
theorem w_iald (M : MC D ca p s m args meth c cc nL own) (X : RW D ws H0 H locs) {n : Nat} {f : Nat → Int32} (q0 : Nat) (he : ws[q0]? = some (a, .inl (ca 1, n, .inl f))) {i : Int32} (hin : vp_in i n) (hdg : decode cc pc = .ok (.iaload, 1))
    (kk : W p l e Rm s m args below meth c H locs cells slots Q (F0 m (pc + 1) ls (.int (f i.toNatClampNeg) :: rest))) : W p l e Rm s m args below meth c H locs cells slots Q (F0 m pc ls (.int i :: .ref a :: rest)) := by
  obtain ⟨hx, hb, hml, hown, hts, hK, -⟩ := M
  exact va_iald hx hb hK X.1 q0 1 he rfl hin hdg kk
theorem w_bald (M : MC D ca p s m args meth c cc nL own) (X : RW D ws H0 H locs) {n : Nat} {f : Nat → Int32} (q0 : Nat) (he : ws[q0]? = some (a, .inl (ca 0, n, .inl f))) {i : Int32} (hin : vp_in i n) (hdg : decode cc pc = .ok (.baload, 1))
    (kk : W p l e Rm s m args below meth c H locs cells slots Q (F0 m (pc + 1) ls (.int (f i.toNatClampNeg) :: rest))) : W p l e Rm s m args below meth c H locs cells slots Q (F0 m pc ls (.int i :: .ref a :: rest)) := by
  obtain ⟨hx, hb, hml, hown, hts, hK, -⟩ := M
  exact va_bald hx hb hK X.1 q0 0 he rfl hin hdg kk
theorem w_aald (M : MC D ca p s m args meth c cc nL own) (X : RW D ws H0 H locs) {n t0 : Nat} {C : String} {f : Nat → Nat} (q0 : Nat) (he : ws[q0]? = some (a, .inl (ca t0, n, .inr (.inr (.inr (.inr fun j => some (f j))))))) (ht : (tyl ca)[t0]? = some (ca t0, .object C)) {i : Int32} (hin : vp_in i n) (hdg : decode cc pc = .ok (.aaload, 1))
    (kk : W p l e Rm s m args below meth c H locs cells slots Q (F0 m (pc + 1) ls (.ref (f i.toNatClampNeg) :: rest))) : W p l e Rm s m args below meth c H locs cells slots Q (F0 m pc ls (.int i :: .ref a :: rest)) := by
  obtain ⟨hx, hb, hml, hown, hts, hK, -⟩ := M
  exact va_aldq hx hb hK X.1 q0 t0 he ht hin hdg kk
theorem w_alen (M : MC D ca p s m args meth c cc nL own) (X : RW D ws H0 H locs) {t0 : Nat} {x : vp_A} {ty : FieldType} (q0 : Nat) (he : ws[q0]? = some (a, .inl (ca t0, x))) (ht : (tyl ca)[t0]? = some (ca t0, ty)) {v : Int32} (hv : Int32.ofNat x.1 = v) (hdg : decode cc pc = .ok (.arraylength, 1))
    (kk : W p l e Rm s m args below meth c H locs cells slots Q (F0 m (pc + 1) ls (.int v :: rest))) : W p l e Rm s m args below meth c H locs cells slots Q (F0 m pc ls (.ref a :: rest)) := by
  obtain ⟨hx, hb, hml, hown, hts, hK, -⟩ := M
  exact va_alen hx hb hK X.1 q0 t0 he ht hv hdg kk
theorem w_iast (M : MC D ca p s m args meth c cc nL own) (X : RW D ws H0 H locs) {n : Nat} {f : Nat → Int32} (q0 : Nat) (he : ws[q0]? = some (a, .inl (ca 1, n, .inl f))) {i x : Int32} (hin : vp_in i n) (hs : ws.set q0 (a, .inl (ca 1, n, .inl (va_up f i.toNatClampNeg x))) = ws2) (hdg : decode cc pc = .ok (.iastore, 1))
    (kk : ∀ (H1 : Heap) (locs1 : List Loc), RW D ws2 H0 H1 locs1 → W p l e Rm s m args below meth c H1 locs1 cells slots Q (F0 m (pc + 1) ls rest)) : W p l e Rm s m args below meth c H locs cells slots Q (F0 m pc ls (.int x :: .int i :: .ref a :: rest)) := by
  obtain ⟨hx, hb, hml, hown, hts, hK, -⟩ := M
  have hf : AL ws H0.size = AL ws2 H0.size := AL_fst (by rw [← hs, fst_set he])
  refine va_iast hx hb hK X.1 X.2.1 X.2.2 q0 1 he rfl hin hdg (fun H1 locs1 h1 h2 h3 => kk H1 locs1 ⟨?_, ?_, ?_⟩)
  · rw [← hs]; exact h1
  · rw [← hs] at hf ⊢; rw [← hf]; exact h2
  · rw [← hf]; exact h3
theorem w_bast (M : MC D ca p s m args meth c cc nL own) (X : RW D ws H0 H locs) {n : Nat} {f : Nat → Int32} (q0 : Nat) (he : ws[q0]? = some (a, .inl (ca 0, n, .inl f))) {i x : Int32} (hin : vp_in i n) (hx8 : x.toInt8.toInt32 = x) (hs : ws.set q0 (a, .inl (ca 0, n, .inl (va_up f i.toNatClampNeg x))) = ws2) (hdg : decode cc pc = .ok (.bastore, 1))
    (kk : ∀ (H1 : Heap) (locs1 : List Loc), RW D ws2 H0 H1 locs1 → W p l e Rm s m args below meth c H1 locs1 cells slots Q (F0 m (pc + 1) ls rest)) : W p l e Rm s m args below meth c H locs cells slots Q (F0 m pc ls (.int x :: .int i :: .ref a :: rest)) := by
  obtain ⟨hx, hb, hml, hown, hts, hK, -⟩ := M
  have hf : AL ws H0.size = AL ws2 H0.size := AL_fst (by rw [← hs, fst_set he])
  have hnx : vp_nar .byte x = x := by rw [vp_nar_byte]; exact hx8
  refine va_bast hx hb hK X.1 X.2.1 X.2.2 q0 0 he rfl hin hdg (fun H1 locs1 h1 h2 h3 => kk H1 locs1 ⟨?_, ?_, ?_⟩)
  · rw [hnx] at h1; rw [← hs]; exact h1
  · rw [hnx] at h2; rw [← hs] at hf ⊢; rw [← hf]; exact h2
  · rw [← hf]; exact h3
/-- behind a call: the callee's world is the caller's -/
theorem w_run {st0 rest st' : List Value} {a : Array Value} {v : Option Value} {mc ms : Nat} (X : RW D ws H0 H locs) (hfst : ws2.map Prod.fst = ws.map Prod.fst) (hr : va_Run p l e Rm s m args below meth c H locs cells slots mc ms (F0 m pc ls st0) rest (QMw D ws ws2 H.size v a) (AL ws H.size)) (hst : v.toList ++ rest = st')
    (kk : ∀ (H1 : Heap) (locs1 : List Loc), RW D ws2 H0 H1 locs1 → W p l e Rm s m args below meth c H1 locs1 (cells + mc) (slots + ms) Q (F0 m (pc + 3) ls st')) : W p l e Rm s m args below meth c H locs cells slots Q (F0 m pc ls st0) := by
  intro T hT X0
  obtain ⟨v', st₀, t, T', L, h0, X', hL, e1, e2, ⟨hv, hP, hD, hz, hk⟩, st⟩ := hr T hT X0
  cases hv
  rw [h0] at hz hk
  have hsub : ∀ q, AL ws H.size q → AL ws H0.size q := fun q h => h.elim Or.inl (fun h => Or.inr (Nat.le_trans X.2.2.1 h))
  have hf : AL ws H0.size = AL ws2 H0.size := AL_fst hfst.symm
  obtain ⟨t2, a1, b1⟩ := kk T'.heap (locs ++ L) ⟨by rw [e1]; exact hP, by rw [← hf]; exact hD.weaken (fun _ _ _ h => hsub _ h), by
    rw [← hf]
    refine ⟨Nat.le_trans X.2.2.1 (by rw [e1]; exact hz), fun q h1 h2 => ?_, fun q hq => ?_⟩
    · rw [e1, hk q (Nat.lt_of_lt_of_le h1 X.2.2.1) (fun z => h2 (hsub q z))]; exact X.2.2.2.1 q h1 h2
    · rcases List.mem_append.mp hq with h | h
      · exact X.2.2.2.2 q h
      · exact hsub _ (hL q h)⟩ T' rfl X'
  exact ⟨t2, st t2 (by rw [hst]; exact a1), b1⟩
theorem good_in {ts : List Cond} (h : ∀ w ∈ ts, w ∈ lw_all) : GoodIn lw_all ts := fun w hw => ⟨h w hw, lw_all_good w (h w hw)⟩
theorem good_ws {y : MethodName} {cc' : ByteArray} {n : Nat} {r : Option FieldType} (h : Cond.code y cc' n r ∈ lw_all) : ∀ w ∈ ws_ y cc' n r, w ∈ lw_all := fun w hw => (List.mem_cons.mp hw).elim (fun q => q ▸ h) id
theorem w_pre {av : List Value} (M : MC D ca p s m args meth c cc nL own) (X : RW D ws H0 H locs) : ∀ U : State, U.heap = H → s.WarmedH U.vm → PCw D ca ws H.size av av.toArray U := fun U hU hW =>
  ⟨rfl, by rw [hU], by rw [hU]; exact X.1, va_K.moved hW.alike M.2.2.2.2.2.1, X.2.1.weaken (fun _ _ _ _ => trivial)⟩
theorem w_callV {y : MethodName} {cc' : ByteArray} {nL' idx ci q0 mc ms b : Nat} {ret' : Option FieldType} {rm' : Room} {C : String} {v : Option Value} {As st st' : List Value} {qc : vw_C} {fs : List Value} (M : MC D ca p s m args meth c cc nL own) (X : RW D ws H0 H locs) (hfst : ws2.map Prod.fst = ws.map Prod.fst)
    (hM : Met l y (ws_ y cc' nL' ret') rm' (PCw D ca ws H.size (.ref b :: As)) (QMw D ws ws2 H.size v) mc ms (AL ws H.size)) (hsz : ls.size = nL) (n : Nat) (q1 : Cond.methodLink own idx y ∈ lw_all) (q2 : Cond.instanceMethod y ∈ lw_all) (q3 : Cond.selects C y y ∈ lw_all) (q4 : Cond.initialized C ∈ lw_all) (q5 : Cond.code y cc' nL' ret' ∈ lw_all)
    (hd : y.cls = C ∧ y.cls ≠ "java/lang/invoke/MethodHandle" ∧ y.cls ≠ "java/lang/invoke/VarHandle" ∧ (parseMethodDescriptor y.desc).map (fun d => d.parameters.length) = some n) (hR : (rm'.frames + 1 ≤ Rm.frames ∧ 8 + (nL' + 11) + rm'.locals ≤ Rm.locals) ∧ (rm'.cells = mc ∧ rm'.slots = ms))
    (he : ws[q0]? = some (b, .inr (ci, fs))) (hc : vwCl[ci]? = some qc) (hqc : qc.1 = C) (hn : As.length = n) (hst0 : st = As.reverse ++ .ref b :: rest) (hcat : (rest.map fun v => v.category).sum ≤ 8) (hdg : decode cc pc = .ok (.invokevirtual idx, 3)) (hf : cells + mc ≤ Rm.cells ∧ slots + ms ≤ Rm.slots) (hst : v.toList ++ rest = st')
    (kk : ∀ (H1 : Heap) (locs1 : List Loc), RW D ws2 H0 H1 locs1 → W p l e Rm s m args below meth c H1 locs1 (cells + mc) (slots + ms) Q (F0 m (pc + 3) ls st')) : W p l e Rm s m args below meth c H locs cells slots Q (F0 m pc ls st) := by
  have M' := M
  obtain ⟨hx, hb, hml, hown, hts, hK, -⟩ := M'
  subst hst0
  have hG : GoodIn lw_all (wsV own idx C y (ws_ y cc' nL' ret')) := good_in (fun w hw => by
    rcases List.mem_append.mp hw with h | h
    · simp only [List.mem_cons, List.not_mem_nil, or_false] at h
      rcases h with rfl | rfl | rfl | rfl
      · exact q1
      · exact q2
      · exact q3
      · exact q4
    · exact good_ws q5 w h)
  exact w_run X hfst (va_runV (As := As) (rest := rest) ⟨hx, hb, hml, hown, hts⟩ hM (cwV n hts hG rfl hR.2.1 hR.2.2 hd hR.1) ⟨PCw_blind, hqc ▸ va_recv hK X.1 hc he, w_pre M X⟩ rfl hn hsz rfl (lv_room hcat) hdg hf) hst kk
theorem w_callS {y : MethodName} {cc' : ByteArray} {nL' idx mc ms : Nat} {ret' : Option FieldType} {rm' : Room} {v : Option Value} {As st st' : List Value} (M : MC D ca p s m args meth c cc nL own) (X : RW D ws H0 H locs) (hfst : ws2.map Prod.fst = ws.map Prod.fst)
    (hM : Met l y (ws_ y cc' nL' ret') rm' (PCw D ca ws H.size As) (QMw D ws ws2 H.size v) mc ms (AL ws H.size)) (hsz : ls.size = nL) (n : Nat) (q1 : Cond.methodLink own idx y ∈ lw_all) (q2 : Cond.static y ∈ lw_all) (q4 : Cond.initialized y.cls ∈ lw_all) (q5 : Cond.code y cc' nL' ret' ∈ lw_all)
    (hd : y.cls ≠ "java/lang/invoke/MethodHandle" ∧ y.cls ≠ "java/lang/invoke/VarHandle" ∧ (parseMethodDescriptor y.desc).map (fun d => d.parameters.length) = some n) (hR : (rm'.frames + 1 ≤ Rm.frames ∧ 8 + (nL' + 11) + rm'.locals ≤ Rm.locals) ∧ (rm'.cells = mc ∧ rm'.slots = ms))
    (hn : As.length = n) (hst0 : st = As.reverse ++ rest) (hcat : (rest.map fun v => v.category).sum ≤ 8) (hdg : decode cc pc = .ok (.invokestatic idx, 3)) (hf : cells + mc ≤ Rm.cells ∧ slots + ms ≤ Rm.slots) (hst : v.toList ++ rest = st')
    (kk : ∀ (H1 : Heap) (locs1 : List Loc), RW D ws2 H0 H1 locs1 → W p l e Rm s m args below meth c H1 locs1 (cells + mc) (slots + ms) Q (F0 m (pc + 3) ls st')) : W p l e Rm s m args below meth c H locs cells slots Q (F0 m pc ls st) := by
  have M' := M
  obtain ⟨hx, hb, hml, hown, hts, hK, -⟩ := M'
  subst hst0
  have hG : GoodIn lw_all (va_wsS own idx y (ws_ y cc' nL' ret')) := good_in (fun w hw => by
    rcases List.mem_append.mp hw with h | h
    · simp only [List.mem_cons, List.not_mem_nil, or_false] at h
      rcases h with rfl | rfl | rfl
      · exact q1
      · exact q2
      · exact q4
    · exact good_ws q5 w h)
  exact w_run X hfst (va_runS (As := As) (rest := rest) ⟨hx, hb, hml, hown, hts⟩ hM (va_cwS n hts hG rfl hR.2.1 hR.2.2 hd hR.1) ⟨PCw_blind, w_pre M X⟩ rfl hn hsz rfl (lv_room hcat) hdg hf) hst kk
-- ends
theorem w_q {t : State} {v : Option Value} {sz : Nat} (X : RW D ws2 s.heap H locs) (hfst : ws2.map Prod.fst = ws.map Prod.fst) (hsz : s.heap.size = sz) (ht : t.heap = H) : QMw D ws ws2 sz v args s (.returned v) t := by
  have hf : AL ws2 s.heap.size = AL ws s.heap.size := AL_fst hfst
  subst hsz
  refine ⟨rfl, by rw [ht]; exact X.1, hf ▸ X.2.1, (hf ▸ X.2.2 : va_S (AL ws s.heap.size) s.heap H locs).F ht⟩
theorem w_l {sz : Nat} (X : RW D ws2 s.heap H locs) (hfst : ws2.map Prod.fst = ws.map Prod.fst) (hsz : s.heap.size = sz) : ∀ q ∈ locs, AL ws sz q.base := by
  have hf : AL ws2 s.heap.size = AL ws s.heap.size := AL_fst hfst
  subst hsz
  exact (hf ▸ X.2.2 : va_S (AL ws s.heap.size) s.heap H locs).2.2
theorem w_iret {v : Int32} {sz : Nat} (M : MC D ca p s m args meth c cc nL own) (hr : meth.sig.returnType = some .int) (X : RW D ws2 s.heap H locs) (hfst : ws2.map Prod.fst = ws.map Prod.fst) (hsz : s.heap.size = sz) (hdg : decode cc pc = .ok (.ireturn, 1)) : W p l e Rm s m args below meth c H locs cells slots (MQ below (QMw D ws ws2 sz (some (.int v))) args s cells slots (AL ws sz)) (F0 m pc ls [.int v]) := by
  obtain ⟨hx, hb, hml, hown, hts, hK, hlk⟩ := M
  exact W.iret hx hb hr (fun t ht _ => w_q X hfst hsz ht) (w_l X hfst hsz) hdg hlk
theorem w_zret {v : Int32} {sz : Nat} (M : MC D ca p s m args meth c cc nL own) (hr : meth.sig.returnType = some .boolean) (X : RW D ws2 s.heap H locs) (hfst : ws2.map Prod.fst = ws.map Prod.fst) (hsz : s.heap.size = sz) (hn : narrow .boolean (.int v) = .int v) (hdg : decode cc pc = .ok (.ireturn, 1)) : W p l e Rm s m args below meth c H locs cells slots (MQ below (QMw D ws ws2 sz (some (.int v))) args s cells slots (AL ws sz)) (F0 m pc ls [.int v]) := by
  obtain ⟨hx, hb, hml, hown, hts, hK, hlk⟩ := M
  exact W.zret hx hb hr hn (fun t ht _ => w_q X hfst hsz ht) (w_l X hfst hsz) hdg hlk
theorem w_vret {sz : Nat} (M : MC D ca p s m args meth c cc nL own) (hr : meth.sig.returnType = none) (X : RW D ws2 s.heap H locs) (hfst : ws2.map Prod.fst = ws.map Prod.fst) (hsz : s.heap.size = sz) (hdg : decode cc pc = .ok (.return_, 1)) : W p l e Rm s m args below meth c H locs cells slots (MQ below (QMw D ws ws2 sz none) args s cells slots (AL ws sz)) (F0 m pc ls []) := by
  obtain ⟨hx, hb, hml, hown, hts, hK, hlk⟩ := M
  exact W.vret hx hb hr (fun t ht _ => w_q X hfst hsz ht) (w_l X hfst hsz) hdg hlk
theorem w_lret {v : Int64} {sz : Nat} (M : MC D ca p s m args meth c cc nL own) (hr : meth.sig.returnType = some .long) (X : RW D ws2 s.heap H locs) (hfst : ws2.map Prod.fst = ws.map Prod.fst) (hsz : s.heap.size = sz) (hdg : decode cc pc = .ok (.lreturn, 1)) : W p l e Rm s m args below meth c H locs cells slots (MQ below (QMw D ws ws2 sz (some (.long v))) args s cells slots (AL ws sz)) (F0 m pc ls [.long v]) := by
  obtain ⟨hx, hb, hml, hown, hts, hK, hlk⟩ := M
  exact W.lret hx hb hr (fun t ht _ => w_q X hfst hsz ht) (w_l X hfst hsz) hdg hlk
theorem w_aret {b : Nat} {rt : FieldType} {sz : Nat} (M : MC D ca p s m args meth c cc nL own) (hr : meth.sig.returnType = some rt) (hrt : (∃ n, rt = .object n) ∨ ∃ t, rt = .array t) (X : RW D ws2 s.heap H locs) (hfst : ws2.map Prod.fst = ws.map Prod.fst) (hsz : s.heap.size = sz) (hdg : decode cc pc = .ok (.areturn, 1)) : W p l e Rm s m args below meth c H locs cells slots (MQ below (QMw D ws ws2 sz (some (.ref b))) args s cells slots (AL ws sz)) (F0 m pc ls [.ref b]) := by
  obtain ⟨hx, hb, hml, hown, hts, hK, hlk⟩ := M
  exact W.aret hx hb hr hrt (Or.inr ⟨_, rfl⟩) (fun t ht _ => w_q X hfst hsz ht) (w_l X hfst hsz) hdg hlk
-- branches over longs and over truth values
theorem w_blt {x y : Int64} {off : Int} {tgt : Nat} (M : MC D ca p s m args meth c cc nL own) (hd1 : decode cc pc = .ok (.lcmp, 1)) (hd2 : decode cc (pc + 1) = .ok (.ifCond .lt off, 3)) (ht : ((pc + 1 : Nat) : Int) + off = (tgt : Int)) (kt : x < y → W p l e Rm s m args below meth c H locs cells slots Q (F0 m tgt ls rest)) (kf : ¬ x < y → W p l e Rm s m args below meth c H locs cells slots Q (F0 m (pc + 1 + 3) ls rest)) : W p l e Rm s m args below meth c H locs cells slots Q (F0 m pc ls (.long y :: .long x :: rest)) :=
  W.lcmp M.1 M.2.1 hd1 (lv_if_lt M.1 M.2.1 hd2 ht (fun q => kt ((lg_cmp_lt x y).mp q)) (fun q => kf (fun z => q ((lg_cmp_lt x y).mpr z))))
theorem w_bge {x y : Int64} {off : Int} {tgt : Nat} (M : MC D ca p s m args meth c cc nL own) (hd1 : decode cc pc = .ok (.lcmp, 1)) (hd2 : decode cc (pc + 1) = .ok (.ifCond .ge off, 3)) (ht : ((pc + 1 : Nat) : Int) + off = (tgt : Int)) (kt : y ≤ x → W p l e Rm s m args below meth c H locs cells slots Q (F0 m tgt ls rest)) (kf : ¬ y ≤ x → W p l e Rm s m args below meth c H locs cells slots Q (F0 m (pc + 1 + 3) ls rest)) : W p l e Rm s m args below meth c H locs cells slots Q (F0 m pc ls (.long y :: .long x :: rest)) :=
  W.lcmp M.1 M.2.1 hd1 (lv_if_ge M.1 M.2.1 hd2 ht (fun q => kt ((lg_cmp_ge x y).mp q)) (fun q => kf (fun z => q ((lg_cmp_ge x y).mpr z))))
theorem w_bgt {x y : Int64} {off : Int} {tgt : Nat} (M : MC D ca p s m args meth c cc nL own) (hd1 : decode cc pc = .ok (.lcmp, 1)) (hd2 : decode cc (pc + 1) = .ok (.ifCond .gt off, 3)) (ht : ((pc + 1 : Nat) : Int) + off = (tgt : Int)) (kt : y < x → W p l e Rm s m args below meth c H locs cells slots Q (F0 m tgt ls rest)) (kf : ¬ y < x → W p l e Rm s m args below meth c H locs cells slots Q (F0 m (pc + 1 + 3) ls rest)) : W p l e Rm s m args below meth c H locs cells slots Q (F0 m pc ls (.long y :: .long x :: rest)) :=
  W.lcmp M.1 M.2.1 hd1 (lv_if_gt M.1 M.2.1 hd2 ht (fun q => kt ((lg_cmp_gt x y).mp q)) (fun q => kf (fun z => q ((lg_cmp_gt x y).mpr z))))
theorem w_ble {x y : Int64} {off : Int} {tgt : Nat} (M : MC D ca p s m args meth c cc nL own) (hd1 : decode cc pc = .ok (.lcmp, 1)) (hd2 : decode cc (pc + 1) = .ok (.ifCond .le off, 3)) (ht : ((pc + 1 : Nat) : Int) + off = (tgt : Int)) (kt : x ≤ y → W p l e Rm s m args below meth c H locs cells slots Q (F0 m tgt ls rest)) (kf : ¬ x ≤ y → W p l e Rm s m args below meth c H locs cells slots Q (F0 m (pc + 1 + 3) ls rest)) : W p l e Rm s m args below meth c H locs cells slots Q (F0 m pc ls (.long y :: .long x :: rest)) :=
  W.lcmp M.1 M.2.1 hd1 (lv_if_le M.1 M.2.1 hd2 ht (fun q => kt ((lg_cmp_le x y).mp q)) (fun q => kf (fun z => q ((lg_cmp_le x y).mpr z))))
theorem w_beq {x y : Int64} {off : Int} {tgt : Nat} (M : MC D ca p s m args meth c cc nL own) (hd1 : decode cc pc = .ok (.lcmp, 1)) (hd2 : decode cc (pc + 1) = .ok (.ifCond .eq off, 3)) (ht : ((pc + 1 : Nat) : Int) + off = (tgt : Int)) (kt : x = y → W p l e Rm s m args below meth c H locs cells slots Q (F0 m tgt ls rest)) (kf : ¬ x = y → W p l e Rm s m args below meth c H locs cells slots Q (F0 m (pc + 1 + 3) ls rest)) : W p l e Rm s m args below meth c H locs cells slots Q (F0 m pc ls (.long y :: .long x :: rest)) :=
  W.lcmp M.1 M.2.1 hd1 (lv_if_eq M.1 M.2.1 hd2 ht (fun q => kt ((lg_cmp_eq x y).mp q)) (fun q => kf (fun z => q ((lg_cmp_eq x y).mpr z))))
theorem w_bne {x y : Int64} {off : Int} {tgt : Nat} (M : MC D ca p s m args meth c cc nL own) (hd1 : decode cc pc = .ok (.lcmp, 1)) (hd2 : decode cc (pc + 1) = .ok (.ifCond .ne off, 3)) (ht : ((pc + 1 : Nat) : Int) + off = (tgt : Int)) (kt : ¬ x = y → W p l e Rm s m args below meth c H locs cells slots Q (F0 m tgt ls rest)) (kf : x = y → W p l e Rm s m args below meth c H locs cells slots Q (F0 m (pc + 1 + 3) ls rest)) : W p l e Rm s m args below meth c H locs cells slots Q (F0 m pc ls (.long y :: .long x :: rest)) :=
  W.lcmp M.1 M.2.1 hd1 (lv_if_ne M.1 M.2.1 hd2 ht (fun q => kt (fun z => q ((lg_cmp_eq x y).mpr z))) (fun q => kf ((lg_cmp_eq x y).mp q)))
theorem w_zeq {b : Bool} {off : Int} {tgt : Nat} (M : MC D ca p s m args meth c cc nL own) (hdg : decode cc pc = .ok (.ifCond .eq off, 3)) (ht : (pc : Int) + off = (tgt : Int)) (kt : ¬ b = true → W p l e Rm s m args below meth c H locs cells slots Q (F0 m tgt ls rest)) (kf : b = true → W p l e Rm s m args below meth c H locs cells slots Q (F0 m (pc + 3) ls rest)) : W p l e Rm s m args below meth c H locs cells slots Q (F0 m pc ls (.int (b2i b) :: rest)) :=
  lv_if_eq M.1 M.2.1 hdg ht (fun q => kt (b2i_0.mp q)) (fun q => kf (by cases b; exact absurd (by rfl) q; rfl))
theorem w_zne {b : Bool} {off : Int} {tgt : Nat} (M : MC D ca p s m args meth c cc nL own) (hdg : decode cc pc = .ok (.ifCond .ne off, 3)) (ht : (pc : Int) + off = (tgt : Int)) (kt : b = true → W p l e Rm s m args below meth c H locs cells slots Q (F0 m tgt ls rest)) (kf : ¬ b = true → W p l e Rm s m args below meth c H locs cells slots Q (F0 m (pc + 3) ls rest)) : W p l e Rm s m args below meth c H locs cells slots Q (F0 m pc ls (.int (b2i b) :: rest)) :=
  lv_if_ne M.1 M.2.1 hdg ht (fun q => kt (by cases b; exact absurd (by rfl) q; rfl)) (fun q => kf (b2i_0.mp q))
theorem w_int {x y : Int32} (h : y = x) (k : W p l e Rm s m args below meth c H locs cells slots Q (F0 m pc ls (.int y :: rest))) : W p l e Rm s m args below meth c H locs cells slots Q (F0 m pc ls (.int x :: rest)) := by subst h; exact k
theorem w_long {x y : Int64} (h : y = x) (k : W p l e Rm s m args below meth c H locs cells slots Q (F0 m pc ls (.long y :: rest))) : W p l e Rm s m args below meth c H locs cells slots Q (F0 m pc ls (.long x :: rest)) := by subst h; exact k
end RWS
end
section
/-! ZF: what the heap holds from the start and nobody writes: String constants, statics, the script -/
def zs : List (String × Nat × String) := [("SlantGaugesLaw", 46, "gauges"), ("SlantGaugesLaw", 27, " -"), ("SlantGaugesLaw", 29, " "), ("SlantGaugesLaw", 53, ";"), ("SlantGaugesLaw", 55, "leg"), ("SlantGaugesLaw", 57, "pressure"), ("SlantGaugesLaw", 59, "tube"), ("SlantGaugesLaw", 62, " mark"), ("SlantGauges", 312, "out of range"), ("SlantGauges$TextGrammar", 19, "gauges"), ("SlantGauges$TextGrammar", 49, "leg"), ("SlantGauges$TextGrammar", 58, "tube"), ("SlantGauges$TextGrammar", 108, "mark"), ("SlantGauges$TextGrammar", 63, "pressure"), ("SlantGauges", 116, "no such size"), ("SlantGauges", 306, "no such tube"), ("SlantGauges", 169, "no such number of a tube"), ("SlantGauges", 304, "no such point"), ("SlantGauges", 308, "no such leg"), ("SlantGauges", 149, "no such number of a leg"), ("SlantGauges", 164, "no such account")]
def zbyt : List (List Int32) := [[103, 97, 117, 103, 101, 115], [32, 45], [32], [59], [108, 101, 103], [112, 114, 101, 115, 115, 117, 114, 101], [116, 117, 98, 101], [32, 109, 97, 114, 107], [111, 117, 116, 32, 111, 102, 32, 114, 97, 110, 103, 101], [103, 97, 117, 103, 101, 115], [108, 101, 103], [116, 117, 98, 101], [109, 97, 114, 107], [112, 114, 101, 115, 115, 117, 114, 101], [110, 111, 32, 115, 117, 99, 104, 32, 115, 105, 122, 101], [110, 111, 32, 115, 117, 99, 104, 32, 116, 117, 98, 101], [110, 111, 32, 115, 117, 99, 104, 32, 110, 117, 109, 98, 101, 114, 32, 111, 102, 32, 97, 32, 116, 117, 98, 101], [110, 111, 32, 115, 117, 99, 104, 32, 112, 111, 105, 110, 116], [110, 111, 32, 115, 117, 99, 104, 32, 108, 101, 103], [110, 111, 32, 115, 117, 99, 104, 32, 110, 117, 109, 98, 101, 114, 32, 111, 102, 32, 97, 32, 108, 101, 103], [110, 111, 32, 115, 117, 99, 104, 32, 97, 99, 99, 111, 117, 110, 116]]
def zO (i : Nat) : String := ((zs[i]?).getD ("", 0, "")).1
def zK (i : Nat) : Nat := ((zs[i]?).getD ("", 0, "")).2.1
def zT (i : Nat) : String := ((zs[i]?).getD ("", 0, "")).2.2
def zlen (i : Nat) : Nat := (zbyt.getD i []).length
def zch (i j : Nat) : Int32 := (zbyt.getD i []).getD j 0
/-- links to members that are private in a nested class -/
def zN : List (String × Nat × MethodName) := [(RX3, 17, yX1_init), (RX3, 31, yX6_init), (RX7, 31, yX5_init)]
abbrev ZG : Type := (Nat → Nat) × (Nat → Nat) × Nat × Nat × (Nat → Int32)
/-- z.2.2: the script's cell, its length, what it holds -/
def ZF (z : ZG) (A : Nat → Prop) (U : State) (H : Heap) : Prop :=
  (∀ i, i < 21 → va_O "java/lang/String" (z.1 i) A U H ∧ va_OF "java/lang/String" "coder" "B" (.int 0) (z.1 i) A U H ∧ va_OF "java/lang/String" "value" "[B" (.ref (z.2.1 i)) (z.1 i) A U H ∧ va_T .byte (z.2.1 i) (zlen i) (fun j => .int (zch i j)) A U H) ∧
  (∀ i, i < 21 → vk_R (zO i) (zK i) (zT i) (z.1 i) U) ∧
  va_Z "java/lang/String" "COMPACT_STRINGS" "Z" (.int 1) A U H ∧
  va_Zq "jdk/internal/util/Preconditions" "SIOOBE_FORMATTER" "Ljava/util/function/BiFunction;" A U H ∧
  va_T .int z.2.2.1 z.2.2.2.1 (fun j => .int (z.2.2.2.2 j)) A U H ∧
  (∀ q ∈ zN, va_Nw (.methodLinkNest q.1 q.2.1 q.2.2 "SlantGauges") U) ∧
  va_AO RX3 U ∧ va_AO RX6 U
theorem ZF.step {z : ZG} {A B : Nat → Prop} {s U : State} {H H1 : Heap} (h : ZF z A s H) (hq : ∀ a : Nat, a < H.size → ¬ A a → H1[a]? = H[a]?) (hAB : ∀ q, B q → A q) (hW : s.WarmedH U.vm) : ZF z B U H1 := by
  obtain ⟨h1, h2, h3, h4, h5, h11, h14, h15⟩ := h
  have ha := hW.alike
  refine ⟨fun i hi => ?_, fun i hi => (h2 i hi).warm hW, ?_, ?_, ?_, fun q hq => va_Nw.warmM hW (h11 q hq), h14.moved ha, h15.moved ha⟩
  · obtain ⟨a1, a2, a3, a4⟩ := h1 i hi
    exact ⟨va_O.moved ha ((a1.kept hq).narrow hAB), va_OF.moved ha ((a2.kept hq).narrow hAB), va_OF.moved ha ((a3.kept hq).narrow hAB), va_T.moved ha ((a4.kept hq).narrow hAB)⟩
  · exact va_Z.moved ha ((h3.kept hq).narrow hAB)
  · exact va_Zq.moved ha ((h4.kept hq).narrow hAB)
  · exact va_T.moved ha ((h5.kept hq).narrow hAB)
theorem ZF.same {z : ZG} {A : Nat → Prop} {u U : State} {H : Heap} (hv : U.vm = u.vm) (h : ZF z A u H) : ZF z A U H := by
  obtain ⟨h1, h2, h3, h4, h5, h11, h14, h15⟩ := h
  have ha : u.vm.Alike U.vm := by rw [hv]; exact Vm.Alike.refl _
  refine ⟨fun i hi => ?_, fun i hi => (h2 i hi).same hv, va_Z.moved ha h3, va_Zq.moved ha h4, va_T.moved ha h5, fun q hq => va_Nw.same rfl hv.symm (h11 q hq), h14.moved ha, h15.moved ha⟩
  obtain ⟨a1, a2, a3, a4⟩ := h1 i hi
  exact ⟨va_O.moved ha a1, va_OF.moved ha a2, va_OF.moved ha a3, va_T.moved ha a4⟩
def PCz (z : ZG) (D : va_G) (ca : Nat → ClassId) (ws : va_W) (sz : Nat) (av : List Value) : Array Value → State → Prop := fun v U => PCw D ca ws sz av v U ∧ ZF z (AL ws sz) U U.heap
theorem PCz_blind {z : ZG} {D : va_G} {ca : Nat → ClassId} {ws : va_W} {sz : Nat} {av : List Value} : FrameBlind (PCz z D ca ws sz av) := fun a U g mk q => ⟨PCw_blind a U g mk q.1, ZF.same (u := U) rfl q.2⟩
theorem met_z {l : Launch} {y : MethodName} {cc : ByteArray} {nL : Nat} {ret : Option FieldType} {rm : Room} {z : ZG} {D : va_G} {ca : Nat → ClassId} {ws ws' : va_W} {sz : Nat} {av : List Value} {v : Option Value} {mc ms : Nat} (hy : plainFor y = true) (hav : (lg_sl av).length ≤ nL)
    (body : ∀ (p : Program) (e : Env) (s : State) (m : MethodId) (args : Array Value) (below : List Frame) (meth : Method) (c : Code), MC D ca p s m args meth c cc nL y.cls → meth.sig.returnType = ret → ZF z (AL ws s.heap.size) s s.heap → RW D ws s.heap s.heap [] → s.heap.size = sz → ∀ ls : Array Slot, lv_has ls nL (lv_args 0 av) →
      W p l e rm s m args below meth c s.heap [] 0 0 (MQ below (QMw D ws ws' sz v) args s mc ms (AL ws sz)) (F0 m 0 ls [])) : Met l y (ws_ y cc nL ret) rm (PCz z D ca ws sz av) (QMw D ws ws' sz v) mc ms (AL ws sz) := by
  refine Met_ofWF (cc := cc) (maxL := nL) (ret := ret) hy rfl ?_
  intro p e s m args below meth c s₁ B hml hv
  obtain ⟨⟨rfl, hsz, hP, hK, hD0⟩, hZ⟩ := hv
  have hts := atoms_spec (ws := ws_ y cc nL ret) B.pre
  have hD : va_D (AL ws s.heap.size) ws := hD0.weaken (fun k q hk _ => Or.inl (List.mem_map.mpr ⟨q, List.mem_of_getElem? hk, rfl⟩))
  have hl := lv_entry av (n := nL) hav
  rw [lg_entry_eq]
  exact body p e s m _ below meth c ⟨B.exec, B.bytes, hml, findClass_of_methodNamed B.named, fun w h => hts w (List.mem_cons_of_mem _ h), hK, B.notSynchronized⟩ B.returns (by rw [hsz]; exact hZ) ⟨hP, hD, va_S.rf⟩ hsz _ hl
section ZRW
variable {p : Program} {l : Launch} {e : Env} {Rm : Room} {s : State} {m : MethodId} {args : Array Value} {below : List Frame} {meth : Method} {c : Code} {H0 H : Heap} {locs : List Loc} {cells slots : Nat} {Q : State → Prop}
variable {cc : ByteArray} {nL : Nat} {own : String} {z : ZG} {D : va_G} {ca : Nat → ClassId} {ws ws0 ws2 : va_W} {pc : Nat} {ls : Array Slot} {rest : List Value} {a i idx : Nat}
theorem z_S (X : RW D ws s.heap H locs) (hf0 : ws.map Prod.fst = ws0.map Prod.fst) : va_S (AL ws0 s.heap.size) s.heap H locs := AL_fst (sz := s.heap.size) hf0 ▸ X.2.2
theorem z_pre {av : List Value} (M : MC D ca p s m args meth c cc nL own) (hZ : ZF z (AL ws0 s.heap.size) s s.heap) (X : RW D ws s.heap H locs) (hf0 : ws.map Prod.fst = ws0.map Prod.fst) : ∀ U : State, U.heap = H → s.WarmedH U.vm → PCz z D ca ws H.size av av.toArray U := fun U hU hW => by
  refine ⟨w_pre M X U hU hW, ?_⟩
  rw [hU]
  have hS := z_S X hf0
  refine hZ.step hS.2.1 (fun q hq => ?_) hW
  rw [← AL_fst hf0]
  exact hq.elim Or.inl (fun h => Or.inr (Nat.le_trans hS.1 h))
theorem z_callV {y : MethodName} {cc' : ByteArray} {nL' b : Nat} {ret' : Option FieldType} {rm' : Room} {C : String} {v : Option Value} {As st st' : List Value} (M : MC D ca p s m args meth c cc nL own) (hZ : ZF z (AL ws0 s.heap.size) s s.heap) (X : RW D ws s.heap H locs) (hf0 : ws.map Prod.fst = ws0.map Prod.fst) (hfst : ws2.map Prod.fst = ws.map Prod.fst)
    (hM : Met l y (ws_ y cc' nL' ret') rm' (PCz z D ca ws H.size (.ref b :: As)) (QMw D ws ws2 H.size v) 0 0 (AL ws H.size)) (hsz : ls.size = nL) (n : Nat) (q1 : Cond.methodLink own idx y ∈ lw_all) (q2 : Cond.instanceMethod y ∈ lw_all) (q3 : Cond.selects C y y ∈ lw_all) (q4 : Cond.initialized C ∈ lw_all) (q5 : Cond.code y cc' nL' ret' ∈ lw_all)
    (hd : y.cls = C ∧ y.cls ≠ "java/lang/invoke/MethodHandle" ∧ y.cls ≠ "java/lang/invoke/VarHandle" ∧ (parseMethodDescriptor y.desc).map (fun d => d.parameters.length) = some n) (hR : (rm'.frames + 1 ≤ Rm.frames ∧ 8 + (nL' + 11) + rm'.locals ≤ Rm.locals) ∧ (rm'.cells = 0 ∧ rm'.slots = 0))
    (hrecv : (∃ cell : Cell, H[b]? = some cell ∧ cell.vm.isStatics = false ∧ s.vm.findClass C = some cell.cls)) (hn : As.length = n) (hst0 : st = As.reverse ++ .ref b :: rest) (hcat : (rest.map fun v => v.category).sum ≤ 8) (hdg : decode cc pc = .ok (.invokevirtual idx, 3)) (hf : cells ≤ Rm.cells ∧ slots ≤ Rm.slots) (hst : v.toList ++ rest = st')
    (kk : ∀ (H1 : Heap) (locs1 : List Loc), RW D ws2 s.heap H1 locs1 → W p l e Rm s m args below meth c H1 locs1 cells slots Q (F0 m (pc + 3) ls st')) : W p l e Rm s m args below meth c H locs cells slots Q (F0 m pc ls st) := by
  have M' := M
  obtain ⟨hx, hb, hml, hown, hts, hK, -⟩ := M'
  subst hst0
  have hG : GoodIn lw_all (wsV own idx C y (ws_ y cc' nL' ret')) := good_in (fun w hw => by
    rcases List.mem_append.mp hw with h | h
    · simp only [List.mem_cons, List.not_mem_nil, or_false] at h
      rcases h with rfl | rfl | rfl | rfl
      · exact q1
      · exact q2
      · exact q3
      · exact q4
    · exact good_ws q5 w h)
  exact w_run X hfst (va_runV (As := As) (rest := rest) ⟨hx, hb, hml, hown, hts⟩ hM (cwV n hts hG rfl hR.2.1 hR.2.2 hd hR.1) ⟨PCz_blind, hrecv, z_pre M hZ X hf0⟩ rfl hn hsz rfl (lv_room hcat) hdg hf) hst kk
theorem z_callU {x y : MethodName} {owner : String} {cc' : ByteArray} {nL' b : Nat} {ret' : Option FieldType} {rm' : Room} {C : String} {v : Option Value} {As st st' : List Value} (M : MC D ca p s m args meth c cc nL own) (hZ : ZF z (AL ws0 s.heap.size) s s.heap) (X : RW D ws s.heap H locs) (hf0 : ws.map Prod.fst = ws0.map Prod.fst) (hfst : ws2.map Prod.fst = ws.map Prod.fst)
    (hM : Met l y (ws_ y cc' nL' ret') rm' (PCz z D ca ws H.size (.ref b :: As)) (QMw D ws ws2 H.size v) 0 0 (AL ws H.size)) (hsz : ls.size = nL) (n : Nat) (q1 : Cond.methodLink own idx x ∈ lw_all) (q6 : Cond.sameMethod x.cls owner x.name x.desc ∈ lw_all) (q2 : Cond.instanceMethod y ∈ lw_all) (q3 : Cond.selects C x y ∈ lw_all) (q4 : Cond.initialized y.cls ∈ lw_all) (q5 : Cond.code y cc' nL' ret' ∈ lw_all)
    (hyx : y = ⟨owner, x.name, x.desc⟩) (hd : owner ≠ "java/lang/invoke/MethodHandle" ∧ owner ≠ "java/lang/invoke/VarHandle" ∧ (parseMethodDescriptor x.desc).map (fun d => d.parameters.length) = some n) (hR : (rm'.frames + 1 ≤ Rm.frames ∧ 8 + (nL' + 11) + rm'.locals ≤ Rm.locals) ∧ (rm'.cells = 0 ∧ rm'.slots = 0))
    (hrecv : (∃ cell : Cell, H[b]? = some cell ∧ cell.vm.isStatics = false ∧ s.vm.findClass C = some cell.cls)) (hn : As.length = n) (hst0 : st = As.reverse ++ .ref b :: rest) (hcat : (rest.map fun v => v.category).sum ≤ 8) (hdg : decode cc pc = .ok (.invokevirtual idx, 3)) (hf : cells ≤ Rm.cells ∧ slots ≤ Rm.slots) (hst : v.toList ++ rest = st')
    (kk : ∀ (H1 : Heap) (locs1 : List Loc), RW D ws2 s.heap H1 locs1 → W p l e Rm s m args below meth c H1 locs1 cells slots Q (F0 m (pc + 3) ls st')) : W p l e Rm s m args below meth c H locs cells slots Q (F0 m pc ls st) := by
  have M' := M
  obtain ⟨hx, hb, hml, hown, hts, hK, -⟩ := M'
  subst hst0
  have hG : GoodIn lw_all (va_wsU own idx C owner x y (ws_ y cc' nL' ret')) := good_in (fun w hw => by
    rcases List.mem_append.mp hw with h | h
    · simp only [List.mem_cons, List.not_mem_nil, or_false] at h
      rcases h with rfl | rfl | rfl | rfl | rfl
      · exact q1
      · exact q6
      · exact q3
      · exact q2
      · exact q4
    · exact good_ws q5 w h)
  exact w_run X hfst (va_runU (As := As) (rest := rest) ⟨hx, hb, hml, hown, hts⟩ hM (va_cwU n hts hG rfl hR.2.1 hR.2.2 hyx hd hR.1) ⟨PCz_blind, hrecv, z_pre M hZ X hf0⟩ rfl hn hsz rfl (lv_room hcat) hdg hf) hst kk
theorem z_callSU {y : MethodName} {cc' : ByteArray} {nL' b : Nat} {ret' : Option FieldType} {rm' : Room} {C : String} {v : Option Value} {As st st' : List Value} (M : MC D ca p s m args meth c cc nL own) (hZ : ZF z (AL ws0 s.heap.size) s s.heap) (X : RW D ws s.heap H locs) (hf0 : ws.map Prod.fst = ws0.map Prod.fst) (hfst : ws2.map Prod.fst = ws.map Prod.fst)
    (hM : Met l y (ws_ y cc' nL' ret') rm' (PCz z D ca ws H.size (.ref b :: As)) (QMw D ws ws2 H.size v) 0 0 (AL ws H.size)) (hsz : ls.size = nL) (n : Nat) (q1 : Cond.methodLink own idx y ∈ lw_all) (q6 : Cond.sameMethod y.cls y.cls y.name y.desc ∈ lw_all) (q7 : Cond.superclass own y.cls ∈ lw_all) (q2 : Cond.instanceMethod y ∈ lw_all) (q4 : Cond.initialized y.cls ∈ lw_all) (q5 : Cond.code y cc' nL' ret' ∈ lw_all)
    (hd : y.name ≠ "<init>" ∧ (parseMethodDescriptor y.desc).map (fun d => d.parameters.length) = some n) (hR : (rm'.frames + 1 ≤ Rm.frames ∧ 8 + (nL' + 11) + rm'.locals ≤ Rm.locals) ∧ (rm'.cells = 0 ∧ rm'.slots = 0))
    (hat : ∃ cC, ClassAt s C cC) (hrecv : (∃ cell : Cell, H[b]? = some cell ∧ cell.vm.isStatics = false ∧ s.vm.findClass C = some cell.cls)) (hn : As.length = n) (hst0 : st = As.reverse ++ .ref b :: rest) (hcat : (rest.map fun v => v.category).sum ≤ 8) (hdg : decode cc pc = .ok (.invokespecial idx, 3)) (hf : cells ≤ Rm.cells ∧ slots ≤ Rm.slots) (hst : v.toList ++ rest = st')
    (kk : ∀ (H1 : Heap) (locs1 : List Loc), RW D ws2 s.heap H1 locs1 → W p l e Rm s m args below meth c H1 locs1 cells slots Q (F0 m (pc + 3) ls st')) : W p l e Rm s m args below meth c H locs cells slots Q (F0 m pc ls st) := by
  have M' := M
  obtain ⟨hx, hb, hml, hown, hts, hK, -⟩ := M'
  subst hst0
  obtain ⟨cC, hat⟩ := hat
  have hG : GoodIn lw_all (va_wsSU own idx y (ws_ y cc' nL' ret')) := good_in (fun w hw => by
    rcases List.mem_append.mp hw with h | h
    · simp only [List.mem_cons, List.not_mem_nil, or_false] at h
      rcases h with rfl | rfl | rfl | rfl | rfl
      · exact q1
      · exact q6
      · exact q7
      · exact q2
      · exact q4
    · exact good_ws q5 w h)
  exact w_run X hfst (va_runSU (As := As) (rest := rest) hat ⟨hx, hb, hml, hown, hts⟩ hM (va_cwSU n hts hG rfl hR.2.1 hR.2.2 hd hR.1) ⟨PCz_blind, hrecv, z_pre M hZ X hf0⟩ rfl hn hsz rfl (lv_room hcat) hdg hf) hst kk
theorem z_callS {y : MethodName} {cc' : ByteArray} {nL' : Nat} {ret' : Option FieldType} {rm' : Room} {v : Option Value} {As st st' : List Value} (M : MC D ca p s m args meth c cc nL own) (hZ : ZF z (AL ws0 s.heap.size) s s.heap) (X : RW D ws s.heap H locs) (hf0 : ws.map Prod.fst = ws0.map Prod.fst) (hfst : ws2.map Prod.fst = ws.map Prod.fst)
    (hM : Met l y (ws_ y cc' nL' ret') rm' (PCz z D ca ws H.size As) (QMw D ws ws2 H.size v) 0 0 (AL ws H.size)) (hsz : ls.size = nL) (n : Nat) (q1 : Cond.methodLink own idx y ∈ lw_all) (q2 : Cond.static y ∈ lw_all) (q4 : Cond.initialized y.cls ∈ lw_all) (q5 : Cond.code y cc' nL' ret' ∈ lw_all)
    (hd : y.cls ≠ "java/lang/invoke/MethodHandle" ∧ y.cls ≠ "java/lang/invoke/VarHandle" ∧ (parseMethodDescriptor y.desc).map (fun d => d.parameters.length) = some n) (hR : (rm'.frames + 1 ≤ Rm.frames ∧ 8 + (nL' + 11) + rm'.locals ≤ Rm.locals) ∧ (rm'.cells = 0 ∧ rm'.slots = 0))
    (hn : As.length = n) (hst0 : st = As.reverse ++ rest) (hcat : (rest.map fun v => v.category).sum ≤ 8) (hdg : decode cc pc = .ok (.invokestatic idx, 3)) (hf : cells ≤ Rm.cells ∧ slots ≤ Rm.slots) (hst : v.toList ++ rest = st')
    (kk : ∀ (H1 : Heap) (locs1 : List Loc), RW D ws2 s.heap H1 locs1 → W p l e Rm s m args below meth c H1 locs1 cells slots Q (F0 m (pc + 3) ls st')) : W p l e Rm s m args below meth c H locs cells slots Q (F0 m pc ls st) := by
  have M' := M
  obtain ⟨hx, hb, hml, hown, hts, hK, -⟩ := M'
  subst hst0
  have hG : GoodIn lw_all (va_wsS own idx y (ws_ y cc' nL' ret')) := good_in (fun w hw => by
    rcases List.mem_append.mp hw with h | h
    · simp only [List.mem_cons, List.not_mem_nil, or_false] at h
      rcases h with rfl | rfl | rfl
      · exact q1
      · exact q2
      · exact q4
    · exact good_ws q5 w h)
  exact w_run X hfst (va_runS (As := As) (rest := rest) ⟨hx, hb, hml, hown, hts⟩ hM (va_cwS n hts hG rfl hR.2.1 hR.2.2 hd hR.1) ⟨PCz_blind, z_pre M hZ X hf0⟩ rfl hn hsz rfl (lv_room hcat) hdg hf) hst kk
theorem z_recv (hZ : ZF z (AL ws0 s.heap.size) s s.heap) (X : RW D ws s.heap H locs) (hf0 : ws.map Prod.fst = ws0.map Prod.fst) (hi : i < 21) : ∃ cell : Cell, H[z.1 i]? = some cell ∧ cell.vm.isStatics = false ∧ s.vm.findClass "java/lang/String" = some cell.cls := by
  have hS := z_S X hf0
  obtain ⟨cell, h1, h2, h3, -⟩ := (hZ.1 i hi).1.kept hS.2.1
  exact ⟨cell, h1, h2, h3⟩
theorem z_recvw {q0 ci : Nat} {fs : List Value} {qc : vw_C} {C : String} (M : MC D ca p s m args meth c cc nL own) (X : RW D ws s.heap H locs) (he : ws[q0]? = some (a, .inr (ci, fs))) (hc : vwCl[ci]? = some qc) (hqc : qc.1 = C) : ∃ cell : Cell, H[a]? = some cell ∧ cell.vm.isStatics = false ∧ s.vm.findClass C = some cell.cls := hqc ▸ va_recv M.2.2.2.2.2.1 X.1 hc he
theorem z_at {ci : Nat} {qc : vw_C} {C : String} (M : MC D ca p s m args meth c cc nL own) (hc : vwCl[ci]? = some qc) (hqc : qc.1 = C) : ∃ cC, ClassAt s C cC := ⟨_, hqc ▸ (M.2.2.2.2.2.1.1 ci qc hc).2⟩
theorem z_ldc (M : MC D ca p s m args meth c cc nL own) (hZ : ZF z (AL ws0 s.heap.size) s s.heap) (i : Nat) (hi : i < 21) (ho : zO i = own ∧ zK i = idx) (hdg : decode cc pc = .ok (.ldc idx, 2))
    (k : W p l e Rm s m args below meth c H locs cells slots Q (F0 m (pc + 2) ls (.ref (z.1 i) :: rest))) : W p l e Rm s m args below meth c H locs cells slots Q (F0 m pc ls rest) := by
  have h := hZ.2.1 i hi
  rw [ho.1, ho.2] at h
  exact va_ldcS M.1 M.2.1 M.2.2.2.1 h hdg k
theorem z_ldcwT {T : State} (X : Stand p l e Rm s m args below meth c T locs cells slots) (hexec : p.tables.exec = Jvm.exec) {own text : String} {index : Nat} {q : Nat} (hown : s.vm.findClass own = some m.cls)
    (hconst : (Cond.stringRef own index text).before args s = true) (hev : (Term.string own index).eval args s none [] s = some (.ref q)) {g : JFrame} (hg : g.method = m) (hdg : decode c.code g.pc = .ok (.ldc_w index, 3)) :
    ∀ target, Steps p.tables e below (T.setTop { g with pc := g.pc + 3, stack := .ref q :: g.stack }) target → Steps p.tables e below (T.setTop g) target := by
  obtain ⟨k, cf, i, a', hk, hcf, hcp, -, hr, hev'⟩ := Cond.stringRef_spec hown hconst
  cases hev.symm.trans hev'
  obtain ⟨k', hk', he⟩ := X.warmed.alike.2.2 _ _ hk
  have hr' : k'.resolved[index]? = some (some (.string q)) := by
    rcases X.warmed.entry hk hk' index with h | ⟨h, -⟩
    · rw [h]; exact hr
    · rw [hr] at h; cases h
  intro target hrest
  subst hg
  jvm_step X.here [hexec, hdg, ldc_w.wp_string (e := e) (s := T) (f := g) X.here.top hk' (by rw [he]; exact hcf) hcp hr']
  exact hrest
theorem z_ldcw (M : MC D ca p s m args meth c cc nL own) (hZ : ZF z (AL ws0 s.heap.size) s s.heap) (i : Nat) (hi : i < 21) (ho : zO i = own ∧ zK i = idx) (hdg : decode cc pc = .ok (.ldc_w idx, 3))
    (k : W p l e Rm s m args below meth c H locs cells slots Q (F0 m (pc + 3) ls (.ref (z.1 i) :: rest))) : W p l e Rm s m args below meth c H locs cells slots Q (F0 m pc ls rest) := by
  have h := hZ.2.1 i hi
  rw [ho.1, ho.2] at h
  obtain ⟨hexec, hb, -, hown, -⟩ := M
  intro T hT X
  obtain ⟨t, a1, b1⟩ := k T hT X
  exact ⟨t, z_ldcwT X hexec hown (text := zT i) (q := z.1 i) h.1 h.2 (g := F0 m pc ls rest) rfl (by rw [hb]; exact hdg) t a1, b1⟩
theorem z_val (M : MC D ca p s m args meth c cc nL own) (hZ : ZF z (AL ws0 s.heap.size) s s.heap) (X : RW D ws s.heap H locs) (hf0 : ws.map Prod.fst = ws0.map Prod.fst) (hi : i < 21) (hl : Cond.fieldLink own idx "java/lang/String" "value" "[B" ∈ lw_all) (hdg : decode cc pc = .ok (.getfield idx, 3))
    (k : W p l e Rm s m args below meth c H locs cells slots Q (F0 m (pc + 3) ls (.ref (z.2.1 i) :: rest))) : W p l e Rm s m args below meth c H locs cells slots Q (F0 m pc ls (.ref (z.1 i) :: rest)) :=
  vk_getf M.1 M.2.1 (hZ.1 i hi).2.2.1 (z_S X hf0) M.2.2.2.1 (M.2.2.2.2.1 _ hl) (fun _ h => h) hdg k
theorem z_cod (M : MC D ca p s m args meth c cc nL own) (hZ : ZF z (AL ws0 s.heap.size) s s.heap) (X : RW D ws s.heap H locs) (hf0 : ws.map Prod.fst = ws0.map Prod.fst) (hi : i < 21) (hl : Cond.fieldLink own idx "java/lang/String" "coder" "B" ∈ lw_all) (hdg : decode cc pc = .ok (.getfield idx, 3))
    (k : W p l e Rm s m args below meth c H locs cells slots Q (F0 m (pc + 3) ls (.int 0 :: rest))) : W p l e Rm s m args below meth c H locs cells slots Q (F0 m pc ls (.ref (z.1 i) :: rest)) :=
  vk_getf M.1 M.2.1 (hZ.1 i hi).2.1 (z_S X hf0) M.2.2.2.1 (M.2.2.2.2.1 _ hl) (fun _ h => h) hdg k
theorem z_len (M : MC D ca p s m args meth c cc nL own) (hZ : ZF z (AL ws0 s.heap.size) s s.heap) (X : RW D ws s.heap H locs) (hf0 : ws.map Prod.fst = ws0.map Prod.fst) (hi : i < 21) (hdg : decode cc pc = .ok (.arraylength, 1))
    (k : W p l e Rm s m args below meth c H locs cells slots Q (F0 m (pc + 1) ls (.int (nI (zlen i)) :: rest))) : W p l e Rm s m args below meth c H locs cells slots Q (F0 m pc ls (.ref (z.2.1 i) :: rest)) :=
  va_tlen M.1 M.2.1 (hZ.1 i hi).2.2.2 (z_S X hf0) rfl hdg k
theorem z_bald (M : MC D ca p s m args meth c cc nL own) (hZ : ZF z (AL ws0 s.heap.size) s s.heap) (X : RW D ws s.heap H locs) (hf0 : ws.map Prod.fst = ws0.map Prod.fst) (hi : i < 21) {x : Int32} (hin : vp_in x (zlen i)) (hdg : decode cc pc = .ok (.baload, 1))
    (k : W p l e Rm s m args below meth c H locs cells slots Q (F0 m (pc + 1) ls (.int (zch i x.toNatClampNeg) :: rest))) : W p l e Rm s m args below meth c H locs cells slots Q (F0 m pc ls (.int x :: .ref (z.2.1 i) :: rest)) :=
  va_tb M.1 M.2.1 (hZ.1 i hi).2.2.2 (z_S X hf0) hin rfl hdg k
theorem z_ilen (M : MC D ca p s m args meth c cc nL own) (hZ : ZF z (AL ws0 s.heap.size) s s.heap) (X : RW D ws s.heap H locs) (hf0 : ws.map Prod.fst = ws0.map Prod.fst) (hdg : decode cc pc = .ok (.arraylength, 1))
    (k : W p l e Rm s m args below meth c H locs cells slots Q (F0 m (pc + 1) ls (.int (nI z.2.2.2.1) :: rest))) : W p l e Rm s m args below meth c H locs cells slots Q (F0 m pc ls (.ref z.2.2.1 :: rest)) :=
  va_tlen M.1 M.2.1 hZ.2.2.2.2.1 (z_S X hf0) rfl hdg k
theorem z_iald (M : MC D ca p s m args meth c cc nL own) (hZ : ZF z (AL ws0 s.heap.size) s s.heap) (X : RW D ws s.heap H locs) (hf0 : ws.map Prod.fst = ws0.map Prod.fst) {x : Int32} (hin : vp_in x z.2.2.2.1) (hdg : decode cc pc = .ok (.iaload, 1))
    (k : W p l e Rm s m args below meth c H locs cells slots Q (F0 m (pc + 1) ls (.int (z.2.2.2.2 x.toNatClampNeg) :: rest))) : W p l e Rm s m args below meth c H locs cells slots Q (F0 m pc ls (.int x :: .ref z.2.2.1 :: rest)) :=
  va_ti M.1 M.2.1 hZ.2.2.2.2.1 (z_S X hf0) hin rfl hdg k
theorem z_compact (M : MC D ca p s m args meth c cc nL own) (hZ : ZF z (AL ws0 s.heap.size) s s.heap) (X : RW D ws s.heap H locs) (hf0 : ws.map Prod.fst = ws0.map Prod.fst) (hl : Cond.fieldLink own idx "java/lang/String" "COMPACT_STRINGS" "Z" ∈ lw_all) (hdg : decode cc pc = .ok (.getstatic idx, 3))
    (k : W p l e Rm s m args below meth c H locs cells slots Q (F0 m (pc + 3) ls (.int 1 :: rest))) : W p l e Rm s m args below meth c H locs cells slots Q (F0 m pc ls rest) :=
  va_gets M.1 M.2.1 hZ.2.2.1 (z_S X hf0) M.2.2.2.1 (M.2.2.2.2.1 _ hl) (fun _ h => h) hdg k
theorem z_fmt (M : MC D ca p s m args meth c cc nL own) (hZ : ZF z (AL ws0 s.heap.size) s s.heap) (X : RW D ws s.heap H locs) (hf0 : ws.map Prod.fst = ws0.map Prod.fst) (hl : Cond.fieldLink own idx "jdk/internal/util/Preconditions" "SIOOBE_FORMATTER" "Ljava/util/function/BiFunction;" ∈ lw_all) (hdg : decode cc pc = .ok (.getstatic idx, 3))
    (k : ∀ r : Option Nat, W p l e Rm s m args below meth c H locs cells slots Q (F0 m (pc + 3) ls (va_rf r :: rest))) : W p l e Rm s m args below meth c H locs cells slots Q (F0 m pc ls rest) := by
  rcases hZ.2.2.2.1 with h | ⟨t, h⟩
  · exact va_gets (v := .null) M.1 M.2.1 h (z_S X hf0) M.2.2.2.1 (M.2.2.2.2.1 _ hl) (fun _ h => h) hdg (k none)
  · exact va_gets (v := .ref t) M.1 M.2.1 h (z_S X hf0) M.2.2.2.1 (M.2.2.2.2.1 _ hl) (fun _ h => h) hdg (k (some t))
end ZRW
end
section
/-! ACCESS: fields and arrays of the class's and the model's cells, one row each -/
theorem iX0 : ∀ w ∈ u_ws RX0 TX0 3, w ∈ lw_all := by decide +kernel
theorem iX1 : ∀ w ∈ u_ws RX1 TX1 7, w ∈ lw_all := by decide +kernel
theorem iXL : ∀ w ∈ u_ws RL TL 2, w ∈ lw_all := by decide +kernel
theorem iX3 : ∀ w ∈ u_ws RX3 TX3 8, w ∈ lw_all := by decide +kernel
theorem iX4 : ∀ w ∈ u_ws RX4 TX4 2, w ∈ lw_all := by decide +kernel
theorem iX5 : ∀ w ∈ u_ws RX5 TX5 9, w ∈ lw_all := by decide +kernel
theorem iX6 : ∀ w ∈ u_ws RX6 TX6 10, w ∈ lw_all := by decide +kernel
theorem iX7 : ∀ w ∈ u_ws RX7 TX7 7, w ∈ lw_all := by decide +kernel
theorem kX6 : ∀ k, k < 10 → parseFieldDescriptor (TX6 k).2.2.1 = some .int ∧ (TX6 k).2.2.2 = false := by decide +kernel
theorem kX1i : ∀ k, k < 3 → parseFieldDescriptor (TX1 k).2.2.1 = some .int ∧ (TX1 k).2.2.2 = false := by decide +kernel
theorem kX1l : ∀ k, 3 ≤ k ∧ k < 7 → parseFieldDescriptor (TX1 k).2.2.1 = some .long ∧ (TX1 k).2.2.2 = false := by
  intro k ⟨h1, h2⟩
  rcases (by omega : k = 3 ∨ k = 4 ∨ k = 5 ∨ k = 6) with rfl | rfl | rfl | rfl <;> decide +kernel
theorem kX3i : ∀ k, k < 3 → parseFieldDescriptor (TX3 k).2.2.1 = some .int ∧ (TX3 k).2.2.2 = false := by decide +kernel
theorem kX5i : ∀ k, 1 ≤ k ∧ k < 9 → parseFieldDescriptor (TX5 k).2.2.1 = some .int ∧ (TX5 k).2.2.2 = false := by
  intro k ⟨h1, h2⟩
  rcases (by omega : k = 1 ∨ k = 2 ∨ k = 3 ∨ k = 4 ∨ k = 5 ∨ k = 6 ∨ k = 7 ∨ k = 8) with rfl | rfl | rfl | rfl | rfl | rfl | rfl | rfl <;> decide +kernel
theorem tubeFs_get {T : Nat → Int32} : ∀ k, k < 10 → (tubeFs T)[k]? = some (.int (T k)) := by
  intro k hk
  rcases (by omega : k = 0 ∨ k = 1 ∨ k = 2 ∨ k = 3 ∨ k = 4 ∨ k = 5 ∨ k = 6 ∨ k = 7 ∨ k = 8 ∨ k = 9) with rfl | rfl | rfl | rfl | rfl | rfl | rfl | rfl | rfl | rfl <;> rfl
theorem tubeFs_set {T : Nat → Int32} {v : Int32} : ∀ k, k < 10 → (tubeFs T).set k (.int v) = tubeFs (va_up T k v) := by
  intro k hk
  rcases (by omega : k = 0 ∨ k = 1 ∨ k = 2 ∨ k = 3 ∨ k = 4 ∨ k = 5 ∨ k = 6 ∨ k = 7 ∨ k = 8 ∨ k = 9) with rfl | rfl | rfl | rfl | rfl | rfl | rfl | rfl | rfl | rfl <;> rfl
theorem legFs_geti {I : Nat → Int32} {L : Nat → Int64} : ∀ k, k < 3 → (legFs I L)[k]? = some (.int (I k)) := by
  intro k hk
  rcases (by omega : k = 0 ∨ k = 1 ∨ k = 2) with rfl | rfl | rfl <;> rfl
theorem legFs_getl {I : Nat → Int32} {L : Nat → Int64} : ∀ k, 3 ≤ k ∧ k < 7 → (legFs I L)[k]? = some (.long (L k)) := by
  intro k ⟨h1, h2⟩
  rcases (by omega : k = 3 ∨ k = 4 ∨ k = 5 ∨ k = 6) with rfl | rfl | rfl | rfl <;> rfl
theorem legFs_seti {I : Nat → Int32} {L : Nat → Int64} {v : Int32} : ∀ k, k < 3 → (legFs I L).set k (.int v) = legFs (va_up I k v) L := by
  intro k hk
  rcases (by omega : k = 0 ∨ k = 1 ∨ k = 2) with rfl | rfl | rfl <;> rfl
theorem legFs_setl {I : Nat → Int32} {L : Nat → Int64} {v : Int64} : ∀ k, 3 ≤ k ∧ k < 7 → (legFs I L).set k (.long v) = legFs I (va_up L k v) := by
  intro k ⟨h1, h2⟩
  rcases (by omega : k = 3 ∨ k = 4 ∨ k = 5 ∨ k = 6) with rfl | rfl | rfl | rfl <;> rfl
theorem rowFs_geti {ar : Nat → Nat → Nat} {r : Nat} {I : Nat → Int32} : ∀ k, k < 3 → (rowFs ar r I)[k]? = some (.int (I k)) := by
  intro k hk
  rcases (by omega : k = 0 ∨ k = 1 ∨ k = 2) with rfl | rfl | rfl <;> rfl
theorem rowFs_seti {ar : Nat → Nat → Nat} {r : Nat} {I : Nat → Int32} {v : Int32} : ∀ k, k < 3 → (rowFs ar r I).set k (.int v) = rowFs ar r (va_up I k v) := by
  intro k hk
  rcases (by omega : k = 0 ∨ k = 1 ∨ k = 2) with rfl | rfl | rfl <;> rfl
theorem tokFs_geti {ag : Nat → Nat} {I : Nat → Int32} : ∀ k, 1 ≤ k ∧ k < 9 → (tokFs ag I)[k]? = some (.int (I k)) := by
  intro k ⟨h1, h2⟩
  rcases (by omega : k = 1 ∨ k = 2 ∨ k = 3 ∨ k = 4 ∨ k = 5 ∨ k = 6 ∨ k = 7 ∨ k = 8) with rfl | rfl | rfl | rfl | rfl | rfl | rfl | rfl <;> rfl
theorem tokFs_seti {ag : Nat → Nat} {I : Nat → Int32} {v : Int32} : ∀ k, 1 ≤ k ∧ k < 9 → (tokFs ag I).set k (.int v) = tokFs ag (va_up I k v) := by
  intro k ⟨h1, h2⟩
  rcases (by omega : k = 1 ∨ k = 2 ∨ k = 3 ∨ k = 4 ∨ k = 5 ∨ k = 6 ∨ k = 7 ∨ k = 8) with rfl | rfl | rfl | rfl | rfl | rfl | rfl | rfl <;> rfl
-- the levels: a row in the rows, a tube or a leg in a row
def stT (R : RowS) (c : Nat) (T : Nat → Int32) : RowS := (va_up R.1 c T, R.2)
def stL (R : RowS) (c : Nat) (L : (Nat → Int32) × (Nat → Int64)) : RowS := (va_up R.1 c L.1, va_up R.2 c L.2)
def upT (P : RowsS) (r c : Nat) (T : Nat → Int32) : RowsS := va_up P r (stT (P r) c T)
def upL (P : RowsS) (r c : Nat) (L : (Nat → Int32) × (Nat → Int64)) : RowsS := va_up P r (stL (P r) c L)
theorem up_self {α : Type} (f : Nat → α) (k : Nat) : va_up f k (f k) = f := by
  funext j; unfold va_up; split
  · next h => rw [h]
  · rfl
theorem up_up {α : Type} (f : Nat → α) (k : Nat) (v w : α) : va_up (va_up f k v) k w = va_up f k w := by
  funext j; unfold va_up; split <;> rfl
theorem upR_1 {P : RowsS} {r : Nat} {R : RowS} (c : Nat) : ((va_up P r R) r).1 c = R.1 c := by rw [va_up_self]
theorem upR_2 {P : RowsS} {r : Nat} {R : RowS} (c : Nat) : ((va_up P r R) r).2 c = R.2 c := by rw [va_up_self]
theorem upR_n {P : RowsS} {r r2 : Nat} {R : RowS} (h : r2 ≠ r) : (va_up P r R) r2 = P r2 := va_up_ne _ _ h
theorem upR_si {P : RowsS} {r c k : Nat} {R R2 : RowS} {v : Int32} (h : R2 = si R c k v) : va_up (va_up P r R) r (si ((va_up P r R) r) c k v) = va_up P r R2 := by rw [h, up_up, va_up_self]
theorem upR_sl {P : RowsS} {r c k : Nat} {R R2 : RowS} {v : Int64} (h : R2 = sl R c k v) : va_up (va_up P r R) r (sl ((va_up P r R) r) c k v) = va_up P r R2 := by rw [h, up_up, va_up_self]
theorem upT_1 {P : RowsS} {r c : Nat} {T : Nat → Int32} : ((upT P r c T) r).1 c = T := by simp [upT, stT, va_up_self]
theorem upT_si {P : RowsS} {r c k : Nat} {T T2 : Nat → Int32} {v : Int32} (h : T2 = va_up T k v) : va_up (upT P r c T) r (si ((upT P r c T) r) c k v) = upT P r c T2 := by
  subst h; simp [upT, stT, si, va_up_self, up_up]
theorem upT_self {P : RowsS} {r c : Nat} : upT P r c ((P r).1 c) = P := by simp [upT, stT, up_self]
theorem upT_R {P : RowsS} {r c : Nat} {R : RowS} {T : Nat → Int32} : upT (va_up P r R) r c T = va_up P r (stT R c T) := by simp [upT, up_up, va_up_self]
theorem upL_1 {P : RowsS} {r c : Nat} {L : (Nat → Int32) × (Nat → Int64)} : ((upL P r c L) r).1 c = L.1 := by simp [upL, stL, va_up_self]
theorem upL_2 {P : RowsS} {r c : Nat} {L : (Nat → Int32) × (Nat → Int64)} : ((upL P r c L) r).2 c = L.2 := by simp [upL, stL, va_up_self]
theorem upL_si {P : RowsS} {r c k : Nat} {L L2 : (Nat → Int32) × (Nat → Int64)} {v : Int32} (h : L2 = (va_up L.1 k v, L.2)) : va_up (upL P r c L) r (si ((upL P r c L) r) c k v) = upL P r c L2 := by
  subst h; simp [upL, stL, si, va_up_self, up_up]
theorem upL_sl {P : RowsS} {r c k : Nat} {L L2 : (Nat → Int32) × (Nat → Int64)} {v : Int64} (h : L2 = (L.1, va_up L.2 k v)) : va_up (upL P r c L) r (sl ((upL P r c L) r) c k v) = upL P r c L2 := by
  subst h; simp [upL, stL, sl, va_up_self, up_up]
theorem upL_self {P : RowsS} {r c : Nat} : upL P r c ((P r).1 c, (P r).2 c) = P := by simp [upL, stL, up_self]
theorem upL_R {P : RowsS} {r c : Nat} {R : RowS} {L : (Nat → Int32) × (Nat → Int64)} : upL (va_up P r R) r c L = va_up P r (stL R c L) := by simp [upL, up_up, va_up_self]
theorem stT_self {R : RowS} {c : Nat} : stT R c (R.1 c) = R := by simp [stT, up_self]
theorem stL_self {R : RowS} {c : Nat} : stL R c (R.1 c, R.2 c) = R := by simp [stL, up_self]
theorem upT_n {P : RowsS} {r r2 c c2 : Nat} {T : Nat → Int32} (h : r2 ≠ r ∨ c2 ≠ c) : ((upT P r c T) r2).1 c2 = (P r2).1 c2 := by
  unfold upT
  by_cases h1 : r2 = r
  · subst h1
    rcases h with h | h
    · exact absurd rfl h
    · simp [va_up_self, stT, va_up_ne _ _ h]
  · rw [va_up_ne _ _ h1]
theorem upL_n1 {P : RowsS} {r r2 c c2 : Nat} {L : (Nat → Int32) × (Nat → Int64)} (h : r2 ≠ r) : ((upL P r c L) r2).1 c2 = (P r2).1 c2 := by
  unfold upL; rw [va_up_ne _ _ h]
theorem upL_n2 {P : RowsS} {r r2 c c2 : Nat} {L : (Nat → Int32) × (Nat → Int64)} (h : r2 ≠ r) : ((upL P r c L) r2).2 c2 = (P r2).2 c2 := by
  unfold upL; rw [va_up_ne _ _ h]
section ACC
variable {p : Program} {l : Launch} {e : Env} {Rm : Room} {s : State} {m : MethodId} {args : Array Value} {below : List Frame} {meth : Method} {c : Code} {H0 H : Heap} {locs : List Loc} {cells slots : Nat} {Q : State → Prop}
variable {cc : ByteArray} {nL : Nat} {own : String} {D : va_G} {ca : Nat → ClassId} {ar : Nat → Nat → Nat} {ag : Nat → Nat} {am : Nat → Nat} {xs : va_W} {pc : Nat} {ls : Array Slot} {rest : List Value} {P P2 : RowsS} {G G2 : GlbS} {r i j idx : Nat} {I : Nat → Int32} {L : Nat → Int64} {M M2 : RowS}
theorem g_tube (K : MC D ca p s m args meth c cc nL own) (X : RW D (wC ar ag ca P G ++ xs) H0 H locs) (hr : r < 13) (hi : i < 13) (hI : (P r).1 (i + 5) = I) (k : Nat) (hk : k < 10) (hl : Cond.fieldLink own idx (TX6 k).1 (TX6 k).2.1 (TX6 k).2.2.1 ∈ lw_all) (hdg : decode cc pc = .ok (.getfield idx, 3))
    (kk : W p l e Rm s m args below meth c H locs cells slots Q (F0 m (pc + 3) ls (.int (I k) :: rest))) : W p l e Rm s m args below meth c H locs cells slots Q (F0 m pc ls (.ref (ar r (i + 5)) :: rest)) := by
  subst hI
  exact w_get K X iX6 rfl (18 * r + (i + 5)) (pl_row hr (by omega)) k hk hl (tubeFs_get k hk) hdg kk
theorem p_tube (K : MC D ca p s m args meth c cc nL own) (X : RW D (wC ar ag ca P G ++ xs) H0 H locs) (hr : r < 13) (hi : i < 13) (k : Nat) (hk : k < 10) {v : Int32} (hN : va_up P r (si (P r) (i + 5) k v) = P2) (hl : Cond.fieldLink own idx (TX6 k).1 (TX6 k).2.1 (TX6 k).2.2.1 ∈ lw_all) (hdg : decode cc pc = .ok (.putfield idx, 3))
    (kk : ∀ (H1 : Heap) (locs1 : List Loc), RW D (wC ar ag ca P2 G ++ xs) H0 H1 locs1 → W p l e Rm s m args below meth c H1 locs1 cells slots Q (F0 m (pc + 3) ls rest)) : W p l e Rm s m args below meth c H locs cells slots Q (F0 m pc ls (.int v :: .ref (ar r (i + 5)) :: rest)) := by
  subst hN
  refine w_put K X iX6 tyX6 tyX6_ok nmX6 rfl (18 * r + (i + 5)) (pl_row hr (by omega)) k hk hl (kX6 k hk).2 (kX6 k hk).1 rfl rfl hk (set_row hr (by omega) ?_ ?_ ?_) hdg kk
  · show Sum.inr (8, tubeFs _) = _
    rw [si, tubeFs_set k hk]; simp [va_up_self]
  · intro d hd; simp [si, va_up_ne _ _ hd]
  · intro d hd; rfl
theorem g_legi (K : MC D ca p s m args meth c cc nL own) (X : RW D (wC ar ag ca P G ++ xs) H0 H locs) (hr : r < 13) (hj : j < 2) (hI : (P r).1 (j + 2) = I) (k : Nat) (hk : k < 3) (hl : Cond.fieldLink own idx (TX1 k).1 (TX1 k).2.1 (TX1 k).2.2.1 ∈ lw_all) (hdg : decode cc pc = .ok (.getfield idx, 3))
    (kk : W p l e Rm s m args below meth c H locs cells slots Q (F0 m (pc + 3) ls (.int (I k) :: rest))) : W p l e Rm s m args below meth c H locs cells slots Q (F0 m pc ls (.ref (ar r (j + 2)) :: rest)) := by
  subst hI
  refine w_get (ci := 3) K X iX1 rfl (18 * r + (j + 2)) ?_ k (by omega) hl (legFs_geti (L := (P r).2 (j + 2)) k hk) hdg kk
  rw [pl_row hr (by omega)]
  rcases (by omega : j = 0 ∨ j = 1) with rfl | rfl <;> rfl
theorem g_legl (K : MC D ca p s m args meth c cc nL own) (X : RW D (wC ar ag ca P G ++ xs) H0 H locs) (hr : r < 13) (hj : j < 2) (hI : (P r).2 (j + 2) = L) (k : Nat) (hk : 3 ≤ k ∧ k < 7) (hl : Cond.fieldLink own idx (TX1 k).1 (TX1 k).2.1 (TX1 k).2.2.1 ∈ lw_all) (hdg : decode cc pc = .ok (.getfield idx, 3))
    (kk : W p l e Rm s m args below meth c H locs cells slots Q (F0 m (pc + 3) ls (.long (L k) :: rest))) : W p l e Rm s m args below meth c H locs cells slots Q (F0 m pc ls (.ref (ar r (j + 2)) :: rest)) := by
  subst hI
  refine w_get (ci := 3) K X iX1 rfl (18 * r + (j + 2)) ?_ k (by omega) hl (legFs_getl (I := (P r).1 (j + 2)) k hk) hdg kk
  rw [pl_row hr (by omega)]
  rcases (by omega : j = 0 ∨ j = 1) with rfl | rfl <;> rfl
theorem p_legi (K : MC D ca p s m args meth c cc nL own) (X : RW D (wC ar ag ca P G ++ xs) H0 H locs) (hr : r < 13) (hj : j < 2) (k : Nat) (hk : k < 3) {v : Int32} (hN : va_up P r (si (P r) (j + 2) k v) = P2) (hl : Cond.fieldLink own idx (TX1 k).1 (TX1 k).2.1 (TX1 k).2.2.1 ∈ lw_all) (hdg : decode cc pc = .ok (.putfield idx, 3))
    (kk : ∀ (H1 : Heap) (locs1 : List Loc), RW D (wC ar ag ca P2 G ++ xs) H0 H1 locs1 → W p l e Rm s m args below meth c H1 locs1 cells slots Q (F0 m (pc + 3) ls rest)) : W p l e Rm s m args below meth c H locs cells slots Q (F0 m pc ls (.int v :: .ref (ar r (j + 2)) :: rest)) := by
  subst hN
  refine w_put (ci := 3) (fs := legFs ((P r).1 (j + 2)) ((P r).2 (j + 2))) K X iX1 tyX1 tyX1_ok nmX1 rfl (18 * r + (j + 2)) ?_ k (by omega) hl (kX1i k hk).2 (kX1i k hk).1 rfl rfl (show k < 7 by omega) (set_row hr (by omega) ?_ ?_ ?_) hdg kk
  · rw [pl_row hr (by omega)]
    rcases (by omega : j = 0 ∨ j = 1) with rfl | rfl <;> rfl
  · rw [legFs_seti k hk]
    rcases (by omega : j = 0 ∨ j = 1) with rfl | rfl <;> simp [rowCell, si, va_up_self]
  · intro d hd; simp [si, va_up_ne _ _ hd]
  · intro d hd; rfl
theorem p_legl (K : MC D ca p s m args meth c cc nL own) (X : RW D (wC ar ag ca P G ++ xs) H0 H locs) (hr : r < 13) (hj : j < 2) (k : Nat) (hk : 3 ≤ k ∧ k < 7) {v : Int64} (hN : va_up P r (sl (P r) (j + 2) k v) = P2) (hl : Cond.fieldLink own idx (TX1 k).1 (TX1 k).2.1 (TX1 k).2.2.1 ∈ lw_all) (hdg : decode cc pc = .ok (.putfield idx, 3))
    (kk : ∀ (H1 : Heap) (locs1 : List Loc), RW D (wC ar ag ca P2 G ++ xs) H0 H1 locs1 → W p l e Rm s m args below meth c H1 locs1 cells slots Q (F0 m (pc + 3) ls rest)) : W p l e Rm s m args below meth c H locs cells slots Q (F0 m pc ls (.long v :: .ref (ar r (j + 2)) :: rest)) := by
  subst hN
  refine w_put (ci := 3) (fs := legFs ((P r).1 (j + 2)) ((P r).2 (j + 2))) K X iX1 tyX1 tyX1_ok nmX1 rfl (18 * r + (j + 2)) ?_ k (by omega) hl (kX1l k hk).2 (kX1l k hk).1 rfl rfl (show k < 7 by omega) (set_row hr (by omega) ?_ ?_ ?_) hdg kk
  · rw [pl_row hr (by omega)]
    rcases (by omega : j = 0 ∨ j = 1) with rfl | rfl <;> rfl
  · rw [legFs_setl k hk]
    rcases (by omega : j = 0 ∨ j = 1) with rfl | rfl <;> simp [rowCell, sl, va_up_self]
  · intro d hd; rfl
  · intro d hd; simp [sl, va_up_ne _ _ hd]
theorem g_rowi (K : MC D ca p s m args meth c cc nL own) (X : RW D (wC ar ag ca P G ++ xs) H0 H locs) (hr : r < 13) (hI : (P r).1 0 = I) (k : Nat) (hk : k < 3) (hl : Cond.fieldLink own idx (TX3 k).1 (TX3 k).2.1 (TX3 k).2.2.1 ∈ lw_all) (hdg : decode cc pc = .ok (.getfield idx, 3))
    (kk : W p l e Rm s m args below meth c H locs cells slots Q (F0 m (pc + 3) ls (.int (I k) :: rest))) : W p l e Rm s m args below meth c H locs cells slots Q (F0 m pc ls (.ref (ar r 0) :: rest)) := by
  subst hI
  exact w_get K X iX3 rfl (18 * r + 0) (pl_row hr (by omega)) k (by omega) hl (rowFs_geti k hk) hdg kk
theorem g_rowr (K : MC D ca p s m args meth c cc nL own) (X : RW D (wC ar ag ca P G ++ xs) H0 H locs) (hr : r < 13) (k d : Nat) (hk : (3 ≤ k ∧ k < 7 ∧ d = k - 2) ∨ (k = 7 ∧ d = 17)) (hl : Cond.fieldLink own idx (TX3 k).1 (TX3 k).2.1 (TX3 k).2.2.1 ∈ lw_all) (hdg : decode cc pc = .ok (.getfield idx, 3))
    (kk : W p l e Rm s m args below meth c H locs cells slots Q (F0 m (pc + 3) ls (.ref (ar r d) :: rest))) : W p l e Rm s m args below meth c H locs cells slots Q (F0 m pc ls (.ref (ar r 0) :: rest)) := by
  refine w_get K X iX3 rfl (18 * r + 0) (pl_row hr (by omega)) k (by omega) hl ?_ hdg kk
  rcases (by omega : (k = 3 ∧ d = 1) ∨ (k = 4 ∧ d = 2) ∨ (k = 5 ∧ d = 3) ∨ (k = 6 ∧ d = 4) ∨ (k = 7 ∧ d = 17)) with ⟨rfl, rfl⟩ | ⟨rfl, rfl⟩ | ⟨rfl, rfl⟩ | ⟨rfl, rfl⟩ | ⟨rfl, rfl⟩ <;> rfl
theorem p_rowi (K : MC D ca p s m args meth c cc nL own) (X : RW D (wC ar ag ca P G ++ xs) H0 H locs) (hr : r < 13) (k : Nat) (hk : k < 3) {v : Int32} (hN : va_up P r (si (P r) 0 k v) = P2) (hl : Cond.fieldLink own idx (TX3 k).1 (TX3 k).2.1 (TX3 k).2.2.1 ∈ lw_all) (hdg : decode cc pc = .ok (.putfield idx, 3))
    (kk : ∀ (H1 : Heap) (locs1 : List Loc), RW D (wC ar ag ca P2 G ++ xs) H0 H1 locs1 → W p l e Rm s m args below meth c H1 locs1 cells slots Q (F0 m (pc + 3) ls rest)) : W p l e Rm s m args below meth c H locs cells slots Q (F0 m pc ls (.int v :: .ref (ar r 0) :: rest)) := by
  subst hN
  refine w_put K X iX3 tyX3 tyX3_ok nmX3 rfl (18 * r + 0) (pl_row hr (by omega)) k (by omega) hl (kX3i k hk).2 (kX3i k hk).1 rfl rfl (show k < 8 by omega) (set_row hr (by omega) ?_ ?_ ?_) hdg kk
  · rw [rowFs_seti k hk]; simp [rowCell, si, va_up_self]
  · intro d hd; simp [si, va_up_ne _ _ hd]
  · intro d hd; rfl
theorem a_press (K : MC D ca p s m args meth c cc nL own) (X : RW D (wC ar ag ca P G ++ xs) H0 H locs) (hr : r < 13) (hI : (P r).1 1 = I) {x : Int32} (hin : vp_in x 8) (hdg : decode cc pc = .ok (.iaload, 1))
    (kk : W p l e Rm s m args below meth c H locs cells slots Q (F0 m (pc + 1) ls (.int (I x.toNatClampNeg) :: rest))) : W p l e Rm s m args below meth c H locs cells slots Q (F0 m pc ls (.int x :: .ref (ar r 1) :: rest)) := by
  subst hI
  exact w_iald K X (18 * r + 1) (pl_row hr (by omega)) hin hdg kk
theorem l_press (K : MC D ca p s m args meth c cc nL own) (X : RW D (wC ar ag ca P G ++ xs) H0 H locs) (hr : r < 13) (hdg : decode cc pc = .ok (.arraylength, 1))
    (kk : W p l e Rm s m args below meth c H locs cells slots Q (F0 m (pc + 1) ls (.int 8 :: rest))) : W p l e Rm s m args below meth c H locs cells slots Q (F0 m pc ls (.ref (ar r 1) :: rest)) :=
  w_alen (t0 := 1) (ty := .int) K X (18 * r + 1) (pl_row hr (by omega)) rfl rfl hdg kk
theorem s_press (K : MC D ca p s m args meth c cc nL own) (X : RW D (wC ar ag ca P G ++ xs) H0 H locs) (hr : r < 13) {x v : Int32} (hin : vp_in x 8) (hN : va_up P r (si (P r) 1 x.toNatClampNeg v) = P2) (hdg : decode cc pc = .ok (.iastore, 1))
    (kk : ∀ (H1 : Heap) (locs1 : List Loc), RW D (wC ar ag ca P2 G ++ xs) H0 H1 locs1 → W p l e Rm s m args below meth c H1 locs1 cells slots Q (F0 m (pc + 1) ls rest)) : W p l e Rm s m args below meth c H locs cells slots Q (F0 m pc ls (.int v :: .int x :: .ref (ar r 1) :: rest)) := by
  subst hN
  refine w_iast (f := (P r).1 1) K X (18 * r + 1) (pl_row hr (by omega)) hin (set_row hr (by omega) ?_ ?_ ?_) hdg kk
  · simp [rowCell, si, va_up_self]
  · intro d hd; simp [si, va_up_ne _ _ hd]
  · intro d hd; rfl
theorem a_tubes (K : MC D ca p s m args meth c cc nL own) (X : RW D (wC ar ag ca P G ++ xs) H0 H locs) (hr : r < 13) {x : Int32} (hin : vp_in x 12) (hdg : decode cc pc = .ok (.aaload, 1))
    (kk : W p l e Rm s m args below meth c H locs cells slots Q (F0 m (pc + 1) ls (.ref (ar r (x.toNatClampNeg + 5)) :: rest))) : W p l e Rm s m args below meth c H locs cells slots Q (F0 m pc ls (.int x :: .ref (ar r 4) :: rest)) :=
  w_aald (f := fun j => ar r (j + 5)) (C := "SlantGauges$Tube") K X (18 * r + 4) (pl_row hr (by omega)) rfl hin hdg kk
theorem l_tubes (K : MC D ca p s m args meth c cc nL own) (X : RW D (wC ar ag ca P G ++ xs) H0 H locs) (hr : r < 13) (hdg : decode cc pc = .ok (.arraylength, 1))
    (kk : W p l e Rm s m args below meth c H locs cells slots Q (F0 m (pc + 1) ls (.int 12 :: rest))) : W p l e Rm s m args below meth c H locs cells slots Q (F0 m pc ls (.ref (ar r 4) :: rest)) :=
  w_alen (t0 := 4) (ty := .object "SlantGauges$Tube") K X (18 * r + 4) (pl_row hr (by omega)) rfl rfl hdg kk
theorem in_lt {x : Int32} {n : Nat} (h : vp_in x n) : x.toNatClampNeg < n := Nat.not_le.mp fun q => h (Or.inr q)
-- cells of their own
theorem g_objr (K : MC D ca p s m args meth c cc nL own) (X : RW D (wC ar ag ca P G ++ xs) H0 H locs) (k : Nat) {v : Value} (hk : k < 6) (hv : (objFs ar ag (G 0))[k]? = some v) (hl : Cond.fieldLink own idx (TX7 k).1 (TX7 k).2.1 (TX7 k).2.2.1 ∈ lw_all) (hdg : decode cc pc = .ok (.getfield idx, 3))
    (kk : W p l e Rm s m args below meth c H locs cells slots Q (F0 m (pc + 3) ls (v :: rest))) : W p l e Rm s m args below meth c H locs cells slots Q (F0 m pc ls (.ref (ag 0) :: rest)) :=
  w_get K X iX7 rfl (234 + 0) (pl_glb (by omega)) k (by omega) hl hv hdg kk
theorem g_obji (K : MC D ca p s m args meth c cc nL own) (X : RW D (wC ar ag ca P G ++ xs) H0 H locs) (hl : Cond.fieldLink own idx (TX7 6).1 (TX7 6).2.1 (TX7 6).2.2.1 ∈ lw_all) (hdg : decode cc pc = .ok (.getfield idx, 3))
    (kk : W p l e Rm s m args below meth c H locs cells slots Q (F0 m (pc + 3) ls (.int (G 0 6) :: rest))) : W p l e Rm s m args below meth c H locs cells slots Q (F0 m pc ls (.ref (ag 0) :: rest)) :=
  w_get K X iX7 rfl (234 + 0) (pl_glb (by omega)) 6 (by omega) hl rfl hdg kk
theorem p_objz (K : MC D ca p s m args meth c cc nL own) (X : RW D (wC ar ag ca P G ++ xs) H0 H locs) {v : Int32} (hn : v = 0 ∨ v = 1) (hN : G2 = sg G 0 6 v) (hl : Cond.fieldLink own idx (TX7 6).1 (TX7 6).2.1 (TX7 6).2.2.1 ∈ lw_all) (hdg : decode cc pc = .ok (.putfield idx, 3))
    (kk : ∀ (H1 : Heap) (locs1 : List Loc), RW D (wC ar ag ca P G2 ++ xs) H0 H1 locs1 → W p l e Rm s m args below meth c H1 locs1 cells slots Q (F0 m (pc + 3) ls rest)) : W p l e Rm s m args below meth c H locs cells slots Q (F0 m pc ls (.int v :: .ref (ag 0) :: rest)) := by
  subst hN
  refine w_put (ty := .boolean) K X iX7 tyX7 tyX7_ok nmX7 rfl (234 + 0) (pl_glb (by omega)) 6 (by omega) hl (by decide +kernel) (by decide +kernel) (by rcases hn with rfl | rfl <;> rfl) ?_ (show 6 < 7 by omega) (set_glb (by omega) ?_ ?_) hdg kk
  · rcases hn with rfl | rfl <;> rfl
  · rfl
  · intro d hd; simp [sg, va_up_ne _ _ hd]
theorem g_hisr (K : MC D ca p s m args meth c cc nL own) (X : RW D (wC ar ag ca P G ++ xs) H0 H locs) (hl : Cond.fieldLink own idx (TX0 0).1 (TX0 0).2.1 (TX0 0).2.2.1 ∈ lw_all) (hdg : decode cc pc = .ok (.getfield idx, 3))
    (kk : W p l e Rm s m args below meth c H locs cells slots Q (F0 m (pc + 3) ls (.ref (ag 2) :: rest))) : W p l e Rm s m args below meth c H locs cells slots Q (F0 m pc ls (.ref (ag 1) :: rest)) :=
  w_get K X iX0 rfl (234 + 1) (pl_glb (by omega)) 0 (by omega) hl rfl hdg kk
theorem g_hisi (K : MC D ca p s m args meth c cc nL own) (X : RW D (wC ar ag ca P G ++ xs) H0 H locs) (k : Nat) (hk : k = 1 ∨ k = 2) (hl : Cond.fieldLink own idx (TX0 k).1 (TX0 k).2.1 (TX0 k).2.2.1 ∈ lw_all) (hdg : decode cc pc = .ok (.getfield idx, 3))
    (kk : W p l e Rm s m args below meth c H locs cells slots Q (F0 m (pc + 3) ls (.int (G 1 k) :: rest))) : W p l e Rm s m args below meth c H locs cells slots Q (F0 m pc ls (.ref (ag 1) :: rest)) := by
  refine w_get K X iX0 rfl (234 + 1) (pl_glb (by omega)) k (by omega) hl ?_ hdg kk
  rcases hk with rfl | rfl <;> rfl
theorem p_hisi (K : MC D ca p s m args meth c cc nL own) (X : RW D (wC ar ag ca P G ++ xs) H0 H locs) (k : Nat) (hk : k = 1 ∨ k = 2) {v : Int32} (hN : G2 = sg G 1 k v) (hl : Cond.fieldLink own idx (TX0 k).1 (TX0 k).2.1 (TX0 k).2.2.1 ∈ lw_all) (hdg : decode cc pc = .ok (.putfield idx, 3))
    (kk : ∀ (H1 : Heap) (locs1 : List Loc), RW D (wC ar ag ca P G2 ++ xs) H0 H1 locs1 → W p l e Rm s m args below meth c H1 locs1 cells slots Q (F0 m (pc + 3) ls rest)) : W p l e Rm s m args below meth c H locs cells slots Q (F0 m pc ls (.int v :: .ref (ag 1) :: rest)) := by
  subst hN
  rcases hk with rfl | rfl
  all_goals
    refine w_put (ty := .int) K X iX0 tyX0 tyX0_ok nmX0 rfl (234 + 1) (pl_glb (by omega)) _ (by omega) hl (by decide +kernel) (by decide +kernel) rfl rfl (show _ < 3 by omega) (set_glb (by omega) ?_ ?_) hdg kk
    · rfl
    · intro d hd; simp [sg, va_up_ne _ _ hd]
theorem a_rows (K : MC D ca p s m args meth c cc nL own) (X : RW D (wC ar ag ca P G ++ xs) H0 H locs) {x : Int32} (hin : vp_in x 10) (hdg : decode cc pc = .ok (.aaload, 1))
    (kk : W p l e Rm s m args below meth c H locs cells slots Q (F0 m (pc + 1) ls (.ref (ar (x.toNatClampNeg + 3) 0) :: rest))) : W p l e Rm s m args below meth c H locs cells slots Q (F0 m pc ls (.int x :: .ref (ag 2) :: rest)) :=
  w_aald (f := fun j => ar (j + 3) 0) (C := "SlantGauges$Row") K X (234 + 2) (pl_glb (by omega)) rfl hin hdg kk
theorem l_rows (K : MC D ca p s m args meth c cc nL own) (X : RW D (wC ar ag ca P G ++ xs) H0 H locs) (hdg : decode cc pc = .ok (.arraylength, 1))
    (kk : W p l e Rm s m args below meth c H locs cells slots Q (F0 m (pc + 1) ls (.int 10 :: rest))) : W p l e Rm s m args below meth c H locs cells slots Q (F0 m pc ls (.ref (ag 2) :: rest)) :=
  w_alen (t0 := 3) (ty := .object "SlantGauges$Row") K X (234 + 2) (pl_glb (by omega)) rfl rfl hdg kk
theorem g_tokr (K : MC D ca p s m args meth c cc nL own) (X : RW D (wC ar ag ca P G ++ xs) H0 H locs) (hl : Cond.fieldLink own idx (TX5 0).1 (TX5 0).2.1 (TX5 0).2.2.1 ∈ lw_all) (hdg : decode cc pc = .ok (.getfield idx, 3))
    (kk : W p l e Rm s m args below meth c H locs cells slots Q (F0 m (pc + 3) ls (.ref (ag 4) :: rest))) : W p l e Rm s m args below meth c H locs cells slots Q (F0 m pc ls (.ref (ag 3) :: rest)) :=
  w_get K X iX5 rfl (234 + 3) (pl_glb (by omega)) 0 (by omega) hl rfl hdg kk
theorem g_toki (K : MC D ca p s m args meth c cc nL own) (X : RW D (wC ar ag ca P G ++ xs) H0 H locs) (k : Nat) (hk : 1 ≤ k ∧ k < 9) (hl : Cond.fieldLink own idx (TX5 k).1 (TX5 k).2.1 (TX5 k).2.2.1 ∈ lw_all) (hdg : decode cc pc = .ok (.getfield idx, 3))
    (kk : W p l e Rm s m args below meth c H locs cells slots Q (F0 m (pc + 3) ls (.int (G 3 k) :: rest))) : W p l e Rm s m args below meth c H locs cells slots Q (F0 m pc ls (.ref (ag 3) :: rest)) :=
  w_get K X iX5 rfl (234 + 3) (pl_glb (by omega)) k (by omega) hl (tokFs_geti k hk) hdg kk
theorem p_toki (K : MC D ca p s m args meth c cc nL own) (X : RW D (wC ar ag ca P G ++ xs) H0 H locs) (k : Nat) (hk : 1 ≤ k ∧ k < 9) {v : Int32} (hN : G2 = sg G 3 k v) (hl : Cond.fieldLink own idx (TX5 k).1 (TX5 k).2.1 (TX5 k).2.2.1 ∈ lw_all) (hdg : decode cc pc = .ok (.putfield idx, 3))
    (kk : ∀ (H1 : Heap) (locs1 : List Loc), RW D (wC ar ag ca P G2 ++ xs) H0 H1 locs1 → W p l e Rm s m args below meth c H1 locs1 cells slots Q (F0 m (pc + 3) ls rest)) : W p l e Rm s m args below meth c H locs cells slots Q (F0 m pc ls (.int v :: .ref (ag 3) :: rest)) := by
  subst hN
  refine w_put (ty := .int) K X iX5 tyX5 tyX5_ok nmX5 rfl (234 + 3) (pl_glb (by omega)) k (by omega) hl (kX5i k hk).2 (kX5i k hk).1 rfl rfl (show k < 9 by omega) (set_glb (by omega) ?_ ?_) hdg kk
  · rw [tokFs_seti k hk]; simp [glbCell, sg, va_up_self]
  · intro d hd; simp [sg, va_up_ne _ _ hd]
theorem a_bytes (K : MC D ca p s m args meth c cc nL own) (X : RW D (wC ar ag ca P G ++ xs) H0 H locs) {x : Int32} (hin : vp_in x 600) (hdg : decode cc pc = .ok (.baload, 1))
    (kk : W p l e Rm s m args below meth c H locs cells slots Q (F0 m (pc + 1) ls (.int (G 4 x.toNatClampNeg) :: rest))) : W p l e Rm s m args below meth c H locs cells slots Q (F0 m pc ls (.int x :: .ref (ag 4) :: rest)) :=
  w_bald K X (234 + 4) (pl_glb (by omega)) hin hdg kk
theorem l_bytes (K : MC D ca p s m args meth c cc nL own) (X : RW D (wC ar ag ca P G ++ xs) H0 H locs) (hdg : decode cc pc = .ok (.arraylength, 1))
    (kk : W p l e Rm s m args below meth c H locs cells slots Q (F0 m (pc + 1) ls (.int 600 :: rest))) : W p l e Rm s m args below meth c H locs cells slots Q (F0 m pc ls (.ref (ag 4) :: rest)) :=
  w_alen (t0 := 0) (ty := .byte) K X (234 + 4) (pl_glb (by omega)) rfl rfl hdg kk
theorem s_bytes (K : MC D ca p s m args meth c cc nL own) (X : RW D (wC ar ag ca P G ++ xs) H0 H locs) {x v : Int32} (hin : vp_in x 600) (h8 : v.toInt8.toInt32 = v) (hN : G2 = sg G 4 x.toNatClampNeg v) (hdg : decode cc pc = .ok (.bastore, 1))
    (kk : ∀ (H1 : Heap) (locs1 : List Loc), RW D (wC ar ag ca P G2 ++ xs) H0 H1 locs1 → W p l e Rm s m args below meth c H1 locs1 cells slots Q (F0 m (pc + 1) ls rest)) : W p l e Rm s m args below meth c H locs cells slots Q (F0 m pc ls (.int v :: .int x :: .ref (ag 4) :: rest)) := by
  subst hN
  refine w_bast (f := G 4) K X (234 + 4) (pl_glb (by omega)) hin h8 (set_glb (by omega) ?_ ?_) hdg kk
  · simp [glbCell, sg, va_up_self]
  · intro d hd; simp [sg, va_up_ne _ _ hd]
theorem g_lawr (K : MC D ca p s m args meth c cc nL own) (X : RW D (wC ar ag ca P G ++ xs) H0 H locs) (hl : Cond.fieldLink own idx (TL 0).1 (TL 0).2.1 (TL 0).2.2.1 ∈ lw_all) (hdg : decode cc pc = .ok (.getfield idx, 3))
    (kk : W p l e Rm s m args below meth c H locs cells slots Q (F0 m (pc + 3) ls (.ref (ag 8) :: rest))) : W p l e Rm s m args below meth c H locs cells slots Q (F0 m pc ls (.ref (ag 7) :: rest)) :=
  w_get K X iXL rfl (234 + 7) (pl_glb (by omega)) 0 (by omega) hl rfl hdg kk
theorem g_lawi (K : MC D ca p s m args meth c cc nL own) (X : RW D (wC ar ag ca P G ++ xs) H0 H locs) (hl : Cond.fieldLink own idx (TL 1).1 (TL 1).2.1 (TL 1).2.2.1 ∈ lw_all) (hdg : decode cc pc = .ok (.getfield idx, 3))
    (kk : W p l e Rm s m args below meth c H locs cells slots Q (F0 m (pc + 3) ls (.int (G 7 1) :: rest))) : W p l e Rm s m args below meth c H locs cells slots Q (F0 m pc ls (.ref (ag 7) :: rest)) :=
  w_get K X iXL rfl (234 + 7) (pl_glb (by omega)) 1 (by omega) hl rfl hdg kk
theorem p_lawi (K : MC D ca p s m args meth c cc nL own) (X : RW D (wC ar ag ca P G ++ xs) H0 H locs) {v : Int32} (hN : G2 = sg G 7 1 v) (hl : Cond.fieldLink own idx (TL 1).1 (TL 1).2.1 (TL 1).2.2.1 ∈ lw_all) (hdg : decode cc pc = .ok (.putfield idx, 3))
    (kk : ∀ (H1 : Heap) (locs1 : List Loc), RW D (wC ar ag ca P G2 ++ xs) H0 H1 locs1 → W p l e Rm s m args below meth c H1 locs1 cells slots Q (F0 m (pc + 3) ls rest)) : W p l e Rm s m args below meth c H locs cells slots Q (F0 m pc ls (.int v :: .ref (ag 7) :: rest)) := by
  subst hN
  refine w_put (ty := .int) K X iXL tyL tyL_ok nmL rfl (234 + 7) (pl_glb (by omega)) 1 (by omega) hl (by decide +kernel) (by decide +kernel) rfl rfl (show 1 < 2 by omega) (set_glb (by omega) ?_ ?_) hdg kk
  · rfl
  · intro d hd; simp [sg, va_up_ne _ _ hd]
theorem a_text (K : MC D ca p s m args meth c cc nL own) (X : RW D (wC ar ag ca P G ++ xs) H0 H locs) {x : Int32} (hin : vp_in x 700) (hdg : decode cc pc = .ok (.iaload, 1))
    (kk : W p l e Rm s m args below meth c H locs cells slots Q (F0 m (pc + 1) ls (.int (G 8 x.toNatClampNeg) :: rest))) : W p l e Rm s m args below meth c H locs cells slots Q (F0 m pc ls (.int x :: .ref (ag 8) :: rest)) :=
  w_iald K X (234 + 8) (pl_glb (by omega)) hin hdg kk
theorem s_text (K : MC D ca p s m args meth c cc nL own) (X : RW D (wC ar ag ca P G ++ xs) H0 H locs) {x v : Int32} (hin : vp_in x 700) (hN : G2 = sg G 8 x.toNatClampNeg v) (hdg : decode cc pc = .ok (.iastore, 1))
    (kk : ∀ (H1 : Heap) (locs1 : List Loc), RW D (wC ar ag ca P G2 ++ xs) H0 H1 locs1 → W p l e Rm s m args below meth c H1 locs1 cells slots Q (F0 m (pc + 1) ls rest)) : W p l e Rm s m args below meth c H locs cells slots Q (F0 m pc ls (.int v :: .int x :: .ref (ag 8) :: rest)) := by
  subst hN
  refine w_iast (f := G 8) K X (234 + 8) (pl_glb (by omega)) hin (set_glb (by omega) ?_ ?_) hdg kk
  · simp [glbCell, sg, va_up_self]
  · intro d hd; simp [sg, va_up_ne _ _ hd]
end ACC
end
section
/-! BUILDER: the StringBuilder's cells -/
theorem iJ4 : ∀ w ∈ u_ws RJ4 TJ4 4, w ∈ lw_all := by decide +kernel
theorem zfit : ∀ i, i < 21 → ∀ j, j < 25 → fits .byte (.int (zch i j)) = true := by decide +kernel
theorem zlen25 : ∀ i, i < 21 → zlen i < 25 := by decide +kernel
section SBR
variable {p : Program} {l : Launch} {e : Env} {Rm : Room} {s : State} {m : MethodId} {args : Array Value} {below : List Frame} {meth : Method} {c : Code} {H0 H : Heap} {locs : List Loc} {cells slots : Nat} {Q : State → Prop}
variable {cc : ByteArray} {nL : Nat} {own : String} {z : ZG} {D : va_G} {ca : Nat → ClassId} {ar : Nat → Nat → Nat} {ag : Nat → Nat} {xs ws0 : va_W} {pc : Nat} {ls : Array Slot} {rest : List Value} {P : RowsS} {G G2 : GlbS} {i idx : Nat}
theorem w_nret {ws ws2 : va_W} {v : Int32} {ty : FieldType} {sz : Nat} (M : MC D ca p s m args meth c cc nL own) (hr : meth.sig.returnType = some ty) (X : RW D ws2 s.heap H locs) (hfst : ws2.map Prod.fst = ws.map Prod.fst) (hsz : s.heap.size = sz) (hn : narrow ty (.int v) = .int v) (hdg : decode cc pc = .ok (.ireturn, 1)) : W p l e Rm s m args below meth c H locs cells slots (MQ below (QMw D ws ws2 sz (some (.int v))) args s cells slots (AL ws sz)) (F0 m pc ls [.int v]) := by
  obtain ⟨hx, hb, hml, hown, hts, hK, hlk⟩ := M
  exact W.zret hx hb hr hn (fun t ht _ => w_q X hfst hsz ht) (w_l X hfst hsz) hdg hlk
theorem nar_c {v : Int32} (h : 0 ≤ v.toInt ∧ v.toInt < 65536) : narrow .char (.int v) = .int v := by
  obtain ⟨j, hj, rfl⟩ : ∃ j : Nat, j < 65536 ∧ v = nI j := by
    refine ⟨v.toInt.toNat, by omega, ?_⟩
    apply Int32.toInt_inj.mp
    rw [nI_toInt (by omega)]; omega
  exact (pk_charN hj).1
theorem g_gram4 (K : MC D ca p s m args meth c cc nL own) {gq gj r : Nat} (X : RW D (wC ar ag ca P G ++ xs) H0 H locs) (hg : xs[gj]? = some (gq, .inr (6, [.ref (ag 3), .ref (ar r 0)]))) (k : Nat) {v : Value} (hk : k < 2) (hv : ([.ref (ag 3), .ref (ar r 0)] : List Value)[k]? = some v) (hl : Cond.fieldLink own idx (TX4 k).1 (TX4 k).2.1 (TX4 k).2.2.1 ∈ lw_all) (hdg : decode cc pc = .ok (.getfield idx, 3))
    (kk : W p l e Rm s m args below meth c H locs cells slots Q (F0 m (pc + 3) ls (v :: rest))) : W p l e Rm s m args below meth c H locs cells slots Q (F0 m pc ls (.ref gq :: rest)) :=
  w_get K X iX4 rfl (243 + gj) (pl_xs.trans hg) k hk hl hv hdg kk
end SBR
end
section
/-! MORE ROWS: calls that make nothing; Math; places of receivers -/
def jmax (x y : Int32) : Int32 := if x < y then y else x
def jmin (x y : Int32) : Int32 := if y < x then y else x
def jabs (x : Int32) : Int32 := if 0 ≤ x then x else 0 - x
def lmax (x y : Int64) : Int64 := if y < x then x else y
def lmin (x y : Int64) : Int64 := if y < x then y else x
theorem b2i_dec {x : Int32} (h : x = 0 ∨ x = 1) : b2i (decide (x = 1)) = x := by rcases h with rfl | rfl <;> decide
theorem b8_8 (x : Int32) : x.toInt8.toInt32.toInt8.toInt32 = x.toInt8.toInt32 := by simp
theorem in_lt12 {x : Int32} (h : vp_in x 12) : x.toNatClampNeg < 13 := Nat.lt_succ_of_lt (in_lt h)
theorem in_lt13 {x : Int32} (h : vp_in x 10) : x.toNatClampNeg + 3 < 13 := Nat.add_lt_add_right (in_lt h) 3
section MORE
variable {p : Program} {l : Launch} {e : Env} {Rm : Room} {s : State} {m : MethodId} {args : Array Value} {below : List Frame} {meth : Method} {c : Code} {H0 H : Heap} {locs : List Loc} {cells slots : Nat} {Q : State → Prop}
variable {cc : ByteArray} {nL : Nat} {own : String} {D : va_G} {ca : Nat → ClassId} {ar : Nat → Nat → Nat} {ag : Nat → Nat} {am : Nat → Nat} {xs ws ws2 : va_W} {pc : Nat} {ls : Array Slot} {rest : List Value} {P P2 : RowsS} {G G2 : GlbS} {r i j idx : Nat}
theorem pl_tube (hr : r < 13) (hi : i < 13) : (wC ar ag ca P G ++ xs)[18 * r + (i + 5)]? = some (ar r (i + 5), .inr (8, tubeFs ((P r).1 (i + 5)))) := pl_row hr (by omega)
theorem pl_leg (hr : r < 13) (hj : j < 2) : (wC ar ag ca P G ++ xs)[18 * r + (j + 2)]? = some (ar r (j + 2), .inr (3, legFs ((P r).1 (j + 2)) ((P r).2 (j + 2)))) := by
  rw [pl_row hr (by omega)]
  rcases (by omega : j = 0 ∨ j = 1) with rfl | rfl <;> rfl
theorem pl_rowo (hr : r < 13) : (wC ar ag ca P G ++ xs)[18 * r + 0]? = some (ar r 0, .inr (5, rowFs ar r ((P r).1 0))) := pl_row hr (by omega)
theorem w_callV0 {y : MethodName} {cc' : ByteArray} {nL' idx ci q0 b : Nat} {ret' : Option FieldType} {rm' : Room} {C : String} {v : Option Value} {As st st' : List Value} {qc : vw_C} {fs : List Value} (M : MC D ca p s m args meth c cc nL own) (X : RW D ws H0 H locs) (hfst : ws2.map Prod.fst = ws.map Prod.fst)
    (hM : Met l y (ws_ y cc' nL' ret') rm' (PCw D ca ws H.size (.ref b :: As)) (QMw D ws ws2 H.size v) 0 0 (AL ws H.size)) (hsz : ls.size = nL) (n : Nat) (q1 : Cond.methodLink own idx y ∈ lw_all) (q2 : Cond.instanceMethod y ∈ lw_all) (q3 : Cond.selects C y y ∈ lw_all) (q4 : Cond.initialized C ∈ lw_all) (q5 : Cond.code y cc' nL' ret' ∈ lw_all)
    (hd : y.cls = C ∧ y.cls ≠ "java/lang/invoke/MethodHandle" ∧ y.cls ≠ "java/lang/invoke/VarHandle" ∧ (parseMethodDescriptor y.desc).map (fun d => d.parameters.length) = some n) (hR : (rm'.frames + 1 ≤ Rm.frames ∧ 8 + (nL' + 11) + rm'.locals ≤ Rm.locals) ∧ (rm'.cells = 0 ∧ rm'.slots = 0))
    (he : ws[q0]? = some (b, .inr (ci, fs))) (hc : vwCl[ci]? = some qc) (hqc : qc.1 = C) (hn : As.length = n) (hst0 : st = As.reverse ++ .ref b :: rest) (hcat : (rest.map fun v => v.category).sum ≤ 8) (hdg : decode cc pc = .ok (.invokevirtual idx, 3)) (hf : cells ≤ Rm.cells ∧ slots ≤ Rm.slots) (hst : v.toList ++ rest = st')
    (kk : ∀ (H1 : Heap) (locs1 : List Loc), RW D ws2 H0 H1 locs1 → W p l e Rm s m args below meth c H1 locs1 cells slots Q (F0 m (pc + 3) ls st')) : W p l e Rm s m args below meth c H locs cells slots Q (F0 m pc ls st) :=
  w_callV M X hfst hM hsz n q1 q2 q3 q4 q5 hd hR he hc hqc hn hst0 hcat hdg hf hst kk
theorem w_callS0 {y : MethodName} {cc' : ByteArray} {nL' idx : Nat} {ret' : Option FieldType} {rm' : Room} {v : Option Value} {As st st' : List Value} (M : MC D ca p s m args meth c cc nL own) (X : RW D ws H0 H locs) (hfst : ws2.map Prod.fst = ws.map Prod.fst)
    (hM : Met l y (ws_ y cc' nL' ret') rm' (PCw D ca ws H.size As) (QMw D ws ws2 H.size v) 0 0 (AL ws H.size)) (hsz : ls.size = nL) (n : Nat) (q1 : Cond.methodLink own idx y ∈ lw_all) (q2 : Cond.static y ∈ lw_all) (q4 : Cond.initialized y.cls ∈ lw_all) (q5 : Cond.code y cc' nL' ret' ∈ lw_all)
    (hd : y.cls ≠ "java/lang/invoke/MethodHandle" ∧ y.cls ≠ "java/lang/invoke/VarHandle" ∧ (parseMethodDescriptor y.desc).map (fun d => d.parameters.length) = some n) (hR : (rm'.frames + 1 ≤ Rm.frames ∧ 8 + (nL' + 11) + rm'.locals ≤ Rm.locals) ∧ (rm'.cells = 0 ∧ rm'.slots = 0))
    (hn : As.length = n) (hst0 : st = As.reverse ++ rest) (hcat : (rest.map fun v => v.category).sum ≤ 8) (hdg : decode cc pc = .ok (.invokestatic idx, 3)) (hf : cells ≤ Rm.cells ∧ slots ≤ Rm.slots) (hst : v.toList ++ rest = st')
    (kk : ∀ (H1 : Heap) (locs1 : List Loc), RW D ws2 H0 H1 locs1 → W p l e Rm s m args below meth c H1 locs1 cells slots Q (F0 m (pc + 3) ls st')) : W p l e Rm s m args below meth c H locs cells slots Q (F0 m pc ls st) :=
  w_callS M X hfst hM hsz n q1 q2 q4 q5 hd hR hn hst0 hcat hdg hf hst kk
theorem w_mmax {x y : Int32} (K : MC D ca p s m args meth c cc nL own) (hsz : ls.size = nL) (q1 : Cond.methodLink own idx Lib.Math.max.name ∈ lw_all) (q2 : Cond.static Lib.Math.max.name ∈ lw_all) (q3 : Cond.initialized "java/lang/Math" ∈ lw_all) (q4 : Cond.code Lib.Math.max.name Lib.Math.max.code 2 (some .int) ∈ lw_all) (hfr : 1 ≤ Rm.frames) (hlo : (rest.map fun v => v.category).sum + 13 ≤ Rm.locals) (h1 : cells ≤ Rm.cells) (h2 : slots ≤ Rm.slots) (hdg : decode cc pc = .ok (.invokestatic idx, 3))
    (kk : W p l e Rm s m args below meth c H locs cells slots Q (F0 m (pc + 3) ls (.int (jmax x y) :: rest))) : W p l e Rm s m args below meth c H locs cells slots Q (F0 m pc ls (.int y :: .int x :: rest)) :=
  va_mmax K.1 K.2.1 (K.2.2.1.trans hsz.symm) K.2.2.2.1 (K.2.2.2.2.1 _ q1) (K.2.2.2.2.1 _ q2) (K.2.2.2.2.1 _ q3) (K.2.2.2.2.1 _ q4) hfr hlo h1 h2 hdg kk
theorem w_mmin {x y : Int32} (K : MC D ca p s m args meth c cc nL own) (hsz : ls.size = nL) (q1 : Cond.methodLink own idx Lib.Math.min.name ∈ lw_all) (q2 : Cond.static Lib.Math.min.name ∈ lw_all) (q3 : Cond.initialized "java/lang/Math" ∈ lw_all) (q4 : Cond.code Lib.Math.min.name Lib.Math.min.code 2 (some .int) ∈ lw_all) (hfr : 1 ≤ Rm.frames) (hlo : (rest.map fun v => v.category).sum + 13 ≤ Rm.locals) (h1 : cells ≤ Rm.cells) (h2 : slots ≤ Rm.slots) (hdg : decode cc pc = .ok (.invokestatic idx, 3))
    (kk : W p l e Rm s m args below meth c H locs cells slots Q (F0 m (pc + 3) ls (.int (jmin x y) :: rest))) : W p l e Rm s m args below meth c H locs cells slots Q (F0 m pc ls (.int y :: .int x :: rest)) :=
  va_mmin K.1 K.2.1 (K.2.2.1.trans hsz.symm) K.2.2.2.1 (K.2.2.2.2.1 _ q1) (K.2.2.2.2.1 _ q2) (K.2.2.2.2.1 _ q3) (K.2.2.2.2.1 _ q4) hfr hlo h1 h2 hdg kk
theorem w_mabs {x : Int32} (K : MC D ca p s m args meth c cc nL own) (hsz : ls.size = nL) (q1 : Cond.methodLink own idx Lib.Math.abs.name ∈ lw_all) (q2 : Cond.static Lib.Math.abs.name ∈ lw_all) (q3 : Cond.initialized "java/lang/Math" ∈ lw_all) (q4 : Cond.code Lib.Math.abs.name Lib.Math.abs.code 1 (some .int) ∈ lw_all) (hfr : 1 ≤ Rm.frames) (hlo : (rest.map fun v => v.category).sum + 13 ≤ Rm.locals) (h1 : cells ≤ Rm.cells) (h2 : slots ≤ Rm.slots) (hdg : decode cc pc = .ok (.invokestatic idx, 3))
    (kk : W p l e Rm s m args below meth c H locs cells slots Q (F0 m (pc + 3) ls (.int (jabs x) :: rest))) : W p l e Rm s m args below meth c H locs cells slots Q (F0 m pc ls (.int x :: rest)) :=
  va_mabs K.1 K.2.1 (K.2.2.1.trans hsz.symm) K.2.2.2.1 (K.2.2.2.2.1 _ q1) (K.2.2.2.2.1 _ q2) (K.2.2.2.2.1 _ q3) (K.2.2.2.2.1 _ q4) hfr (by omega) h1 h2 hdg kk
theorem w_mmaxl {x y : Int64} (K : MC D ca p s m args meth c cc nL own) (hsz : ls.size = nL) (q1 : Cond.methodLink own idx Lib.MathLoose.max_long.x ∈ lw_all) (q2 : Cond.static Lib.MathLoose.max_long.x ∈ lw_all) (q3 : Cond.initialized "java/lang/Math" ∈ lw_all) (q4 : Cond.code Lib.MathLoose.max_long.x Lib.MathLoose.max_long.code 4 (some .long) ∈ lw_all) (hfr : 1 ≤ Rm.frames) (hlo : (rest.map fun v => v.category).sum + 17 ≤ Rm.locals) (h1 : cells ≤ Rm.cells) (h2 : slots ≤ Rm.slots) (hdg : decode cc pc = .ok (.invokestatic idx, 3))
    (kk : W p l e Rm s m args below meth c H locs cells slots Q (F0 m (pc + 3) ls (.long (lmax x y) :: rest))) : W p l e Rm s m args below meth c H locs cells slots Q (F0 m pc ls (.long y :: .long x :: rest)) :=
  va_mmax_long K.1 K.2.1 (K.2.2.1.trans hsz.symm) K.2.2.2.1 (K.2.2.2.2.1 _ q1) (K.2.2.2.2.1 _ q2) (K.2.2.2.2.1 _ q3) (K.2.2.2.2.1 _ q4) hfr (by omega) h1 h2 hdg kk
theorem w_mminl {x y : Int64} (K : MC D ca p s m args meth c cc nL own) (hsz : ls.size = nL) (q1 : Cond.methodLink own idx Lib.MathLoose.min_long.x ∈ lw_all) (q2 : Cond.static Lib.MathLoose.min_long.x ∈ lw_all) (q3 : Cond.initialized "java/lang/Math" ∈ lw_all) (q4 : Cond.code Lib.MathLoose.min_long.x Lib.MathLoose.min_long.code 4 (some .long) ∈ lw_all) (hfr : 1 ≤ Rm.frames) (hlo : (rest.map fun v => v.category).sum + 17 ≤ Rm.locals) (h1 : cells ≤ Rm.cells) (h2 : slots ≤ Rm.slots) (hdg : decode cc pc = .ok (.invokestatic idx, 3))
    (kk : W p l e Rm s m args below meth c H locs cells slots Q (F0 m (pc + 3) ls (.long (lmin x y) :: rest))) : W p l e Rm s m args below meth c H locs cells slots Q (F0 m pc ls (.long y :: .long x :: rest)) :=
  va_mmin_long K.1 K.2.1 (K.2.2.1.trans hsz.symm) K.2.2.2.1 (K.2.2.2.2.1 _ q1) (K.2.2.2.2.1 _ q2) (K.2.2.2.2.1 _ q3) (K.2.2.2.2.1 _ q4) hfr (by omega) h1 h2 hdg kk
end MORE
end
