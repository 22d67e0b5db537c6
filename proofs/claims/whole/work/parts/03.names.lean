
/-! ===== BEGIN printed: names, fields, word lists, decode rows ===== -/
def RX0 : String := "Reorderium$Core"
def TX0 : u_T := fun k => match k with
  | 0 => ("Reorderium$Core", "program", "Ljava/util/ArrayList;", true)
  | 1 => ("Reorderium$Core", "settings", "LReorderium$Settings;", true)
  | 2 => ("Reorderium$Core", "counts", "LReorderium$Counts;", true)
  | 3 => ("Reorderium$Core", "plain", "LReorderium$Plain;", true)
  | 4 => ("Reorderium$Core", "inner", "LReorderium$InnerRegisters;", true)
  | 5 => ("Reorderium$Core", "lines", "LReorderium$Lines;", true)
  | 6 => ("Reorderium$Core", "front", "LReorderium$Front;", true)
  | 7 => ("Reorderium$Core", "buffer", "Ljava/util/ArrayList;", true)
  | 8 => ("Reorderium$Core", "ends", "Ljava/util/ArrayList;", true)
  | 9 => ("Reorderium$Core", "words", "[I", true)
  | 10 => ("Reorderium$Core", "marks", "[Z", true)
  | 11 => ("Reorderium$Core", "units", "[I", true)
  | 12 => ("Reorderium$Core", "cycle", "I", false)
  | 13 => ("Reorderium$Core", "stopped", "Z", false)
  | 14 => ("Reorderium$Core", "wantsInterrupt", "Z", false)
  | 15 => ("Reorderium$Core", "handling", "Z", false)
  | 16 => ("Reorderium$Core", "keptPlace", "I", false)
  | _ => ("Reorderium$Core", "place", "I", false)
def tyX0 : Nat → FieldType := fun k => match k with
  | 0 => .object "java/util/ArrayList"
  | 1 => .object "Reorderium$Settings"
  | 2 => .object "Reorderium$Counts"
  | 3 => .object "Reorderium$Plain"
  | 4 => .object "Reorderium$InnerRegisters"
  | 5 => .object "Reorderium$Lines"
  | 6 => .object "Reorderium$Front"
  | 7 => .object "java/util/ArrayList"
  | 8 => .object "java/util/ArrayList"
  | 9 => .array .int
  | 10 => .array .boolean
  | 11 => .array .int
  | 12 => .int
  | 13 => .boolean
  | 14 => .boolean
  | 15 => .boolean
  | 16 => .int
  | _ => .int
abbrev wsX00 : List Cond := u_ws RX0 TX0 18
theorem nmX0 : ∀ a, a < 18 → ∀ b, b < 18 → a ≠ b → (TX0 a).2.1 ≠ (TX0 b).2.1 := by decide +kernel
theorem tyX0_ok : ∀ k, k < 18 → parseFieldDescriptor (TX0 k).2.2.1 = some (tyX0 k) := by decide +kernel
abbrev cX0_init : ByteArray := prog_2_method_1_code
def yX0_init : MethodName := ⟨RX0, "<init>", "()V"⟩
abbrev cX0_doCycle : ByteArray := prog_2_method_2_code
def yX0_doCycle : MethodName := ⟨RX0, "doCycle", "()V"⟩
abbrev cX0_doAnswers : ByteArray := prog_2_method_3_code
def yX0_doAnswers : MethodName := ⟨RX0, "doAnswers", "()V"⟩
abbrev cX0_doEndings : ByteArray := prog_2_method_4_code
def yX0_doEndings : MethodName := ⟨RX0, "doEndings", "()V"⟩
abbrev cX0_endDelay : ByteArray := prog_2_method_5_code
def yX0_endDelay : MethodName := ⟨RX0, "endDelay", "(LReorderium$Entry;)V"⟩
abbrev cX0_checkGuess : ByteArray := prog_2_method_6_code
def yX0_checkGuess : MethodName := ⟨RX0, "checkGuess", "(LReorderium$Entry;I)V"⟩
abbrev cX0_checkLoads : ByteArray := prog_2_method_7_code
def yX0_checkLoads : MethodName := ⟨RX0, "checkLoads", "(LReorderium$Entry;I)V"⟩
abbrev cX0_writeResults : ByteArray := prog_2_method_8_code
def yX0_writeResults : MethodName := ⟨RX0, "writeResults", "()V"⟩
abbrev cX0_throwAwayFrom : ByteArray := prog_2_method_9_code
def yX0_throwAwayFrom : MethodName := ⟨RX0, "throwAwayFrom", "(I)V"⟩
abbrev cX0_doRetiring : ByteArray := prog_2_method_10_code
def yX0_doRetiring : MethodName := ⟨RX0, "doRetiring", "()V"⟩
abbrev cX0_canLeave : ByteArray := prog_2_method_11_code
def yX0_canLeave : MethodName := ⟨RX0, "canLeave", "()Z"⟩
abbrev cX0_reasonOfWaiting : ByteArray := prog_2_method_12_code
def yX0_reasonOfWaiting : MethodName := ⟨RX0, "reasonOfWaiting", "()C"⟩
abbrev cX0_takeInterrupt : ByteArray := prog_2_method_13_code
def yX0_takeInterrupt : MethodName := ⟨RX0, "takeInterrupt", "()V"⟩
abbrev cX0_takeTrap : ByteArray := prog_2_method_14_code
def yX0_takeTrap : MethodName := ⟨RX0, "takeTrap", "(LReorderium$Entry;)V"⟩
abbrev cX0_retireOldest : ByteArray := prog_2_method_15_code
def yX0_retireOldest : MethodName := ⟨RX0, "retireOldest", "(LReorderium$Entry;)V"⟩
abbrev cX0_addEnd : ByteArray := prog_2_method_16_code
def yX0_addEnd : MethodName := ⟨RX0, "addEnd", "(II[I)V"⟩
abbrev cX0_doBeginnings : ByteArray := prog_2_method_17_code
def yX0_doBeginnings : MethodName := ⟨RX0, "doBeginnings", "()V"⟩
abbrev cX0_isDividing : ByteArray := prog_2_method_18_code
def yX0_isDividing : MethodName := ⟨RX0, "isDividing", "()Z"⟩
abbrev cX0_hasOperands : ByteArray := prog_2_method_19_code
def yX0_hasOperands : MethodName := ⟨RX0, "hasOperands", "(LReorderium$Entry;)Z"⟩
abbrev cX0_canBegin : ByteArray := prog_2_method_20_code
def yX0_canBegin : MethodName := ⟨RX0, "canBegin", "(LReorderium$Entry;I)Z"⟩
abbrev cX0_canBeginLoad : ByteArray := prog_2_method_21_code
def yX0_canBeginLoad : MethodName := ⟨RX0, "canBeginLoad", "(LReorderium$Entry;I)Z"⟩
abbrev cX0_isStoreOpenBefore : ByteArray := prog_2_method_22_code
def yX0_isStoreOpenBefore : MethodName := ⟨RX0, "isStoreOpenBefore", "(I)Z"⟩
abbrev cX0_canTake : ByteArray := prog_2_method_23_code
def yX0_canTake : MethodName := ⟨RX0, "canTake", "(LReorderium$Entry;LReorderium$Entry;)Z"⟩
abbrev cX0_doRenaming : ByteArray := prog_2_method_24_code
def yX0_doRenaming : MethodName := ⟨RX0, "doRenaming", "()V"⟩
abbrev cX0_canRename : ByteArray := prog_2_method_25_code
def yX0_canRename : MethodName := ⟨RX0, "canRename", "(LReorderium$Instruction;)Z"⟩
abbrev cX0_renameFirst : ByteArray := prog_2_method_26_code
def yX0_renameFirst : MethodName := ⟨RX0, "renameFirst", "(LReorderium$Entry;)V"⟩
abbrev cX0_countQueue : ByteArray := prog_2_method_27_code
def yX0_countQueue : MethodName := ⟨RX0, "countQueue", "()I"⟩
abbrev cX0_findInner : ByteArray := prog_2_method_28_code
def yX0_findInner : MethodName := ⟨RX0, "findInner", "(I)I"⟩
abbrev cX0_isUsed : ByteArray := prog_2_method_29_code
def yX0_isUsed : MethodName := ⟨RX0, "isUsed", "(I)Z"⟩
abbrev cX0_hasSameEnds : ByteArray := prog_2_method_30_code
def yX0_hasSameEnds : MethodName := ⟨RX0, "hasSameEnds", "()Z"⟩
abbrev cX0_hasSameState : ByteArray := prog_2_method_31_code
def yX0_hasSameState : MethodName := ⟨RX0, "hasSameState", "()Z"⟩
def RX1 : String := "Reorderium$Counts"
def TX1 : u_T := fun k => match k with
  | 0 => ("Reorderium$Counts", "losses", "[I", true)
  | 1 => ("Reorderium$Counts", "wrongGuesses", "I", false)
  | 2 => ("Reorderium$Counts", "earlyLoads", "I", false)
  | 3 => ("Reorderium$Counts", "outOfBuffer", "I", false)
  | 4 => ("Reorderium$Counts", "takenValues", "I", false)
  | 5 => ("Reorderium$Counts", "linesThere", "I", false)
  | _ => ("Reorderium$Counts", "linesAsked", "I", false)
def tyX1 : Nat → FieldType := fun k => match k with
  | 0 => .array .int
  | 1 => .int
  | 2 => .int
  | 3 => .int
  | 4 => .int
  | 5 => .int
  | _ => .int
abbrev wsX10 : List Cond := u_ws RX1 TX1 7
theorem nmX1 : ∀ a, a < 7 → ∀ b, b < 7 → a ≠ b → (TX1 a).2.1 ≠ (TX1 b).2.1 := by decide +kernel
theorem tyX1_ok : ∀ k, k < 7 → parseFieldDescriptor (TX1 k).2.2.1 = some (tyX1 k) := by decide +kernel
abbrev cX1_init : ByteArray := prog_3_method_1_code
def yX1_init : MethodName := ⟨RX1, "<init>", "()V"⟩
abbrev cX1_lose : ByteArray := prog_3_method_2_code
def yX1_lose : MethodName := ⟨RX1, "lose", "(C)V"⟩
def RX2 : String := "Reorderium$End"
def TX2 : u_T := fun k => match k with
  | 0 => ("Reorderium$End", "kind", "I", true)
  | 1 => ("Reorderium$End", "place", "I", true)
  | 2 => ("Reorderium$End", "plainKind", "I", true)
  | 3 => ("Reorderium$End", "plainPlace", "I", true)
  | _ => ("Reorderium$End", "parts", "[I", true)
def tyX2 : Nat → FieldType := fun k => match k with
  | 0 => .int
  | 1 => .int
  | 2 => .int
  | 3 => .int
  | _ => .array .int
abbrev wsX20 : List Cond := u_ws RX2 TX2 5
theorem nmX2 : ∀ a, a < 5 → ∀ b, b < 5 → a ≠ b → (TX2 a).2.1 ≠ (TX2 b).2.1 := by decide +kernel
theorem tyX2_ok : ∀ k, k < 5 → parseFieldDescriptor (TX2 k).2.2.1 = some (tyX2 k) := by decide +kernel
abbrev cX2_init : ByteArray := prog_4_method_1_code
def yX2_init : MethodName := ⟨RX2, "<init>", "(IIII[I)V"⟩
def RX3 : String := "Reorderium$Entry"
def TX3 : u_T := fun k => match k with
  | 0 => ("Reorderium$Entry", "what", "LReorderium$Instruction;", true)
  | 1 => ("Reorderium$Entry", "order", "I", true)
  | 2 => ("Reorderium$Entry", "guess", "I", true)
  | 3 => ("Reorderium$Entry", "stack", "[I", true)
  | 4 => ("Reorderium$Entry", "parts", "[I", true)
  | 5 => ("Reorderium$Entry", "stage", "C", false)
  | 6 => ("Reorderium$Entry", "innerA", "I", false)
  | 7 => ("Reorderium$Entry", "innerB", "I", false)
  | 8 => ("Reorderium$Entry", "innerD", "I", false)
  | 9 => ("Reorderium$Entry", "innerBefore", "I", false)
  | 10 => ("Reorderium$Entry", "endsIn", "I", false)
  | 11 => ("Reorderium$Entry", "address", "I", false)
  | 12 => ("Reorderium$Entry", "trap", "I", false)
  | 13 => ("Reorderium$Entry", "value", "I", false)
  | 14 => ("Reorderium$Entry", "goesTo", "I", false)
  | 15 => ("Reorderium$Entry", "isSo", "Z", false)
  | _ => ("Reorderium$Entry", "giver", "I", false)
def tyX3 : Nat → FieldType := fun k => match k with
  | 0 => .object "Reorderium$Instruction"
  | 1 => .int
  | 2 => .int
  | 3 => .array .int
  | 4 => .array .int
  | 5 => .char
  | 6 => .int
  | 7 => .int
  | 8 => .int
  | 9 => .int
  | 10 => .int
  | 11 => .int
  | 12 => .int
  | 13 => .int
  | 14 => .int
  | 15 => .boolean
  | _ => .int
abbrev wsX30 : List Cond := u_ws RX3 TX3 17
theorem nmX3 : ∀ a, a < 17 → ∀ b, b < 17 → a ≠ b → (TX3 a).2.1 ≠ (TX3 b).2.1 := by decide +kernel
theorem tyX3_ok : ∀ k, k < 17 → parseFieldDescriptor (TX3 k).2.2.1 = some (tyX3 k) := by decide +kernel
abbrev cX3_init : ByteArray := prog_5_method_1_code
def yX3_init : MethodName := ⟨RX3, "<init>", "(LReorderium$Instruction;II[I)V"⟩
abbrev cX3_isEndedStore : ByteArray := prog_5_method_2_code
def yX3_isEndedStore : MethodName := ⟨RX3, "isEndedStore", "()Z"⟩
abbrev cX3_compute : ByteArray := prog_5_method_3_code
def yX3_compute : MethodName := ⟨RX3, "compute", "(II)V"⟩
abbrev cX3_beginWith : ByteArray := prog_5_method_4_code
def yX3_beginWith : MethodName := ⟨RX3, "beginWith", "(II)V"⟩
abbrev cX3_endIn : ByteArray := prog_5_method_5_code
def yX3_endIn : MethodName := ⟨RX3, "endIn", "(I)V"⟩
def RX4 : String := "Reorderium$Front"
def TX4 : u_T := fun k => match k with
  | 0 => ("Reorderium$Front", "line", "Ljava/util/ArrayList;", true)
  | 1 => ("Reorderium$Front", "counters", "[I", true)
  | 2 => ("Reorderium$Front", "table", "[I", true)
  | 3 => ("Reorderium$Front", "stack", "[I", false)
  | 4 => ("Reorderium$Front", "place", "I", false)
  | 5 => ("Reorderium$Front", "halted", "Z", false)
  | _ => ("Reorderium$Front", "order", "I", false)
def tyX4 : Nat → FieldType := fun k => match k with
  | 0 => .object "java/util/ArrayList"
  | 1 => .array .int
  | 2 => .array .int
  | 3 => .array .int
  | 4 => .int
  | 5 => .boolean
  | _ => .int
abbrev wsX40 : List Cond := u_ws RX4 TX4 7
theorem nmX4 : ∀ a, a < 7 → ∀ b, b < 7 → a ≠ b → (TX4 a).2.1 ≠ (TX4 b).2.1 := by decide +kernel
theorem tyX4_ok : ∀ k, k < 7 → parseFieldDescriptor (TX4 k).2.2.1 = some (tyX4 k) := by decide +kernel
abbrev cX4_init : ByteArray := prog_6_method_1_code
def yX4_init : MethodName := ⟨RX4, "<init>", "()V"⟩
abbrev cX4_goOn : ByteArray := prog_6_method_2_code
def yX4_goOn : MethodName := ⟨RX4, "goOn", "(I[I)V"⟩
abbrev cX4_fetch : ByteArray := prog_6_method_3_code
def yX4_fetch : MethodName := ⟨RX4, "fetch", "(Ljava/util/ArrayList;II)V"⟩
abbrev cX4_guess : ByteArray := prog_6_method_4_code
def yX4_guess : MethodName := ⟨RX4, "guess", "(LReorderium$Instruction;)I"⟩
abbrev cX4_guessLeap : ByteArray := prog_6_method_5_code
def yX4_guessLeap : MethodName := ⟨RX4, "guessLeap", "(I)I"⟩
abbrev cX4_push : ByteArray := prog_6_method_6_code
def yX4_push : MethodName := ⟨RX4, "push", "(I)V"⟩
abbrev cX4_pop : ByteArray := prog_6_method_7_code
def yX4_pop : MethodName := ⟨RX4, "pop", "()I"⟩
abbrev cX4_learn : ByteArray := prog_6_method_8_code
def yX4_learn : MethodName := ⟨RX4, "learn", "(LReorderium$Entry;)V"⟩
def RX5 : String := "Reorderium$InnerRegisters"
def TX5 : u_T := fun k => match k with
  | 0 => ("Reorderium$InnerRegisters", "map", "[I", true)
  | 1 => ("Reorderium$InnerRegisters", "retired", "[I", true)
  | 2 => ("Reorderium$InnerRegisters", "values", "[I", true)
  | 3 => ("Reorderium$InnerRegisters", "ready", "[Z", true)
  | 4 => ("Reorderium$InnerRegisters", "line", "[I", true)
  | 5 => ("Reorderium$InnerRegisters", "inLine", "I", false)
  | _ => ("Reorderium$InnerRegisters", "many", "I", false)
def tyX5 : Nat → FieldType := fun k => match k with
  | 0 => .array .int
  | 1 => .array .int
  | 2 => .array .int
  | 3 => .array .boolean
  | 4 => .array .int
  | 5 => .int
  | _ => .int
abbrev wsX50 : List Cond := u_ws RX5 TX5 7
theorem nmX5 : ∀ a, a < 7 → ∀ b, b < 7 → a ≠ b → (TX5 a).2.1 ≠ (TX5 b).2.1 := by decide +kernel
theorem tyX5_ok : ∀ k, k < 7 → parseFieldDescriptor (TX5 k).2.2.1 = some (tyX5 k) := by decide +kernel
abbrev cX5_init : ByteArray := prog_7_method_1_code
def yX5_init : MethodName := ⟨RX5, "<init>", "()V"⟩
abbrev cX5_fillLine : ByteArray := prog_7_method_2_code
def yX5_fillLine : MethodName := ⟨RX5, "fillLine", "(I)V"⟩
abbrev cX5_valueOf : ByteArray := prog_7_method_3_code
def yX5_valueOf : MethodName := ⟨RX5, "valueOf", "(I)I"⟩
abbrev cX5_hasValue : ByteArray := prog_7_method_4_code
def yX5_hasValue : MethodName := ⟨RX5, "hasValue", "(I)Z"⟩
abbrev cX5_write : ByteArray := prog_7_method_5_code
def yX5_write : MethodName := ⟨RX5, "write", "(II)V"⟩
abbrev cX5_putBehind : ByteArray := prog_7_method_6_code
def yX5_putBehind : MethodName := ⟨RX5, "putBehind", "(I)V"⟩
abbrev cX5_takeFirst : ByteArray := prog_7_method_7_code
def yX5_takeFirst : MethodName := ⟨RX5, "takeFirst", "()I"⟩
abbrev cX5_timesInLine : ByteArray := prog_7_method_8_code
def yX5_timesInLine : MethodName := ⟨RX5, "timesInLine", "(I)I"⟩
abbrev cX5_isInMap : ByteArray := prog_7_method_9_code
def yX5_isInMap : MethodName := ⟨RX5, "isInMap", "(I)Z"⟩
abbrev cX5_isInRetired : ByteArray := prog_7_method_10_code
def yX5_isInRetired : MethodName := ⟨RX5, "isInRetired", "(I)Z"⟩
abbrev cX5_give : ByteArray := prog_7_method_11_code
def yX5_give : MethodName := ⟨RX5, "give", "(LReorderium$Entry;)V"⟩
abbrev cX5_settle : ByteArray := prog_7_method_12_code
def yX5_settle : MethodName := ⟨RX5, "settle", "(LReorderium$Entry;)V"⟩
abbrev cX5_takeBack : ByteArray := prog_7_method_13_code
def yX5_takeBack : MethodName := ⟨RX5, "takeBack", "(LReorderium$Entry;)V"⟩
def RX6 : String := "Reorderium$Instruction"
def TX6 : u_T := fun k => match k with
  | 0 => ("Reorderium$Instruction", "place", "I", true)
  | 1 => ("Reorderium$Instruction", "code", "I", true)
  | 2 => ("Reorderium$Instruction", "d", "I", true)
  | 3 => ("Reorderium$Instruction", "a", "I", true)
  | 4 => ("Reorderium$Instruction", "b", "I", true)
  | _ => ("Reorderium$Instruction", "n", "I", true)
def tyX6 : Nat → FieldType := fun k => match k with
  | 0 => .int
  | 1 => .int
  | 2 => .int
  | 3 => .int
  | 4 => .int
  | _ => .int
abbrev wsX60 : List Cond := u_ws RX6 TX6 6
theorem nmX6 : ∀ a, a < 6 → ∀ b, b < 6 → a ≠ b → (TX6 a).2.1 ≠ (TX6 b).2.1 := by decide +kernel
theorem tyX6_ok : ∀ k, k < 6 → parseFieldDescriptor (TX6 k).2.2.1 = some (tyX6 k) := by decide +kernel
abbrev cX6_init : ByteArray := prog_8_method_1_code
def yX6_init : MethodName := ⟨RX6, "<init>", "(IIIIII)V"⟩
abbrev cX6_hasResult : ByteArray := prog_8_method_2_code
def yX6_hasResult : MethodName := ⟨RX6, "hasResult", "()Z"⟩
abbrev cX6_isForQueue : ByteArray := prog_8_method_3_code
def yX6_isForQueue : MethodName := ⟨RX6, "isForQueue", "()Z"⟩
abbrev cX6_isStore : ByteArray := prog_8_method_4_code
def yX6_isStore : MethodName := ⟨RX6, "isStore", "()Z"⟩
abbrev cX6_isQuestion : ByteArray := prog_8_method_5_code
def yX6_isQuestion : MethodName := ⟨RX6, "isQuestion", "()Z"⟩
abbrev cX6_isLeap : ByteArray := prog_8_method_6_code
def yX6_isLeap : MethodName := ⟨RX6, "isLeap", "()Z"⟩
abbrev cX6_standsAlone : ByteArray := prog_8_method_7_code
def yX6_standsAlone : MethodName := ⟨RX6, "standsAlone", "()Z"⟩
abbrev cX6_endsFetching : ByteArray := prog_8_method_8_code
def yX6_endsFetching : MethodName := ⟨RX6, "endsFetching", "()Z"⟩
abbrev cX6_needsA : ByteArray := prog_8_method_9_code
def yX6_needsA : MethodName := ⟨RX6, "needsA", "()Z"⟩
abbrev cX6_needsB : ByteArray := prog_8_method_10_code
def yX6_needsB : MethodName := ⟨RX6, "needsB", "()Z"⟩
abbrev cX6_unit : ByteArray := prog_8_method_11_code
def yX6_unit : MethodName := ⟨RX6, "unit", "()I"⟩
abbrev cX6_delay : ByteArray := prog_8_method_12_code
def yX6_delay : MethodName := ⟨RX6, "delay", "()I"⟩
abbrev cX6_trapBy : ByteArray := prog_8_method_13_code
def yX6_trapBy : MethodName := ⟨RX6, "trapBy", "(II)I"⟩
abbrev cX6_resultBy : ByteArray := prog_8_method_14_code
def yX6_resultBy : MethodName := ⟨RX6, "resultBy", "(II)I"⟩
abbrev cX6_isSo : ByteArray := prog_8_method_15_code
def yX6_isSo : MethodName := ⟨RX6, "isSo", "(II)Z"⟩
abbrev cX6_goesBy : ByteArray := prog_8_method_16_code
def yX6_goesBy : MethodName := ⟨RX6, "goesBy", "(II)I"⟩
abbrev cX6_changedWord : ByteArray := prog_8_method_17_code
def yX6_changedWord : MethodName := ⟨RX6, "changedWord", "(II)I"⟩
def RX7 : String := "Reorderium$Lines"
def TX7 : u_T := fun k => match k with
  | 0 => ("Reorderium$Lines", "there", "[I", true)
  | 1 => ("Reorderium$Lines", "times", "[I", true)
  | 2 => ("Reorderium$Lines", "waitedLine", "[I", true)
  | 3 => ("Reorderium$Lines", "waitedCycle", "[I", true)
  | _ => ("Reorderium$Lines", "waited", "I", false)
def tyX7 : Nat → FieldType := fun k => match k with
  | 0 => .array .int
  | 1 => .array .int
  | 2 => .array .int
  | 3 => .array .int
  | _ => .int
abbrev wsX70 : List Cond := u_ws RX7 TX7 5
theorem nmX7 : ∀ a, a < 5 → ∀ b, b < 5 → a ≠ b → (TX7 a).2.1 ≠ (TX7 b).2.1 := by decide +kernel
theorem tyX7_ok : ∀ k, k < 5 → parseFieldDescriptor (TX7 k).2.2.1 = some (tyX7 k) := by decide +kernel
abbrev cX7_init : ByteArray := prog_9_method_1_code
def yX7_init : MethodName := ⟨RX7, "<init>", "()V"⟩
abbrev cX7_isThere : ByteArray := prog_9_method_2_code
def yX7_isThere : MethodName := ⟨RX7, "isThere", "(I)Z"⟩
abbrev cX7_isWaitedFor : ByteArray := prog_9_method_3_code
def yX7_isWaitedFor : MethodName := ⟨RX7, "isWaitedFor", "(I)Z"⟩
abbrev cX7_askFor : ByteArray := prog_9_method_4_code
def yX7_askFor : MethodName := ⟨RX7, "askFor", "(II)Z"⟩
abbrev cX7_comeIn : ByteArray := prog_9_method_5_code
def yX7_comeIn : MethodName := ⟨RX7, "comeIn", "(I)V"⟩
def RX8 : String := "Reorderium$Plain"
def TX8 : u_T := fun k => match k with
  | 0 => ("Reorderium$Plain", "registers", "[I", true)
  | 1 => ("Reorderium$Plain", "words", "[I", true)
  | 2 => ("Reorderium$Plain", "place", "I", false)
  | 3 => ("Reorderium$Plain", "handling", "Z", false)
  | _ => ("Reorderium$Plain", "keptPlace", "I", false)
def tyX8 : Nat → FieldType := fun k => match k with
  | 0 => .array .int
  | 1 => .array .int
  | 2 => .int
  | 3 => .boolean
  | _ => .int
abbrev wsX80 : List Cond := u_ws RX8 TX8 5
theorem nmX8 : ∀ a, a < 5 → ∀ b, b < 5 → a ≠ b → (TX8 a).2.1 ≠ (TX8 b).2.1 := by decide +kernel
theorem tyX8_ok : ∀ k, k < 5 → parseFieldDescriptor (TX8 k).2.2.1 = some (tyX8 k) := by decide +kernel
abbrev cX8_init : ByteArray := prog_10_method_1_code
def yX8_init : MethodName := ⟨RX8, "<init>", "()V"⟩
abbrev cX8_doOne : ByteArray := prog_10_method_2_code
def yX8_doOne : MethodName := ⟨RX8, "doOne", "(Ljava/util/ArrayList;I)I"⟩
abbrev cX8_goToTraps : ByteArray := prog_10_method_3_code
def yX8_goToTraps : MethodName := ⟨RX8, "goToTraps", "(I)V"⟩
abbrev cX8_goToInterrupts : ByteArray := prog_10_method_4_code
def yX8_goToInterrupts : MethodName := ⟨RX8, "goToInterrupts", "(I)V"⟩
def RX9 : String := "Reorderium$Settings"
def TX9 : u_T := fun k => match k with
  | 0 => ("Reorderium$Settings", "width", "I", false)
  | 1 => ("Reorderium$Settings", "mostInBuffer", "I", false)
  | 2 => ("Reorderium$Settings", "mostInQueue", "I", false)
  | 3 => ("Reorderium$Settings", "traps", "I", false)
  | _ => ("Reorderium$Settings", "interrupts", "I", false)
def tyX9 : Nat → FieldType := fun k => match k with
  | 0 => .int
  | 1 => .int
  | 2 => .int
  | 3 => .int
  | _ => .int
abbrev wsX90 : List Cond := u_ws RX9 TX9 5
theorem nmX9 : ∀ a, a < 5 → ∀ b, b < 5 → a ≠ b → (TX9 a).2.1 ≠ (TX9 b).2.1 := by decide +kernel
theorem tyX9_ok : ∀ k, k < 5 → parseFieldDescriptor (TX9 k).2.2.1 = some (tyX9 k) := by decide +kernel
abbrev cX9_init : ByteArray := prog_11_method_1_code
def yX9_init : MethodName := ⟨RX9, "<init>", "()V"⟩
def RX10 : String := "Reorderium"
def TX10 : u_T := fun k => match k with
  | _ => ("Reorderium", "core", "LReorderium$Core;", true)
def tyX10 : Nat → FieldType := fun k => match k with
  | _ => .object "Reorderium$Core"
abbrev wsX100 : List Cond := u_ws RX10 TX10 1
theorem nmX10 : ∀ a, a < 1 → ∀ b, b < 1 → a ≠ b → (TX10 a).2.1 ≠ (TX10 b).2.1 := by decide +kernel
theorem tyX10_ok : ∀ k, k < 1 → parseFieldDescriptor (TX10 k).2.2.1 = some (tyX10 k) := by decide +kernel
abbrev cX10_init : ByteArray := prog_1_method_1_code
def yX10_init : MethodName := ⟨RX10, "<init>", "()V"⟩
abbrev cX10_add : ByteArray := prog_1_method_2_code
def yX10_add : MethodName := ⟨RX10, "add", "(IIIII)I"⟩
abbrev cX10_setRegister : ByteArray := prog_1_method_3_code
def yX10_setRegister : MethodName := ⟨RX10, "setRegister", "(II)I"⟩
abbrev cX10_setWord : ByteArray := prog_1_method_4_code
def yX10_setWord : MethodName := ⟨RX10, "setWord", "(II)I"⟩
abbrev cX10_setWidth : ByteArray := prog_1_method_5_code
def yX10_setWidth : MethodName := ⟨RX10, "setWidth", "(I)I"⟩
abbrev cX10_setBuffer : ByteArray := prog_1_method_6_code
def yX10_setBuffer : MethodName := ⟨RX10, "setBuffer", "(I)I"⟩
abbrev cX10_setQueue : ByteArray := prog_1_method_7_code
def yX10_setQueue : MethodName := ⟨RX10, "setQueue", "(I)I"⟩
abbrev cX10_setInner : ByteArray := prog_1_method_8_code
def yX10_setInner : MethodName := ⟨RX10, "setInner", "(I)I"⟩
abbrev cX10_setHandlers : ByteArray := prog_1_method_9_code
def yX10_setHandlers : MethodName := ⟨RX10, "setHandlers", "(II)I"⟩
abbrev cX10_setTime : ByteArray := prog_1_method_10_code
def yX10_setTime : MethodName := ⟨RX10, "setTime", "(II)I"⟩
abbrev cX10_interrupt : ByteArray := prog_1_method_11_code
def yX10_interrupt : MethodName := ⟨RX10, "interrupt", "()Z"⟩
abbrev cX10_run : ByteArray := prog_1_method_12_code
def yX10_run : MethodName := ⟨RX10, "run", "(I)I"⟩
abbrev cX10_cycle : ByteArray := prog_1_method_13_code
def yX10_cycle : MethodName := ⟨RX10, "cycle", "()I"⟩
abbrev cX10_hasStopped : ByteArray := prog_1_method_14_code
def yX10_hasStopped : MethodName := ⟨RX10, "hasStopped", "()Z"⟩
abbrev cX10_ends : ByteArray := prog_1_method_15_code
def yX10_ends : MethodName := ⟨RX10, "ends", "()I"⟩
abbrev cX10_kindAt : ByteArray := prog_1_method_16_code
def yX10_kindAt : MethodName := ⟨RX10, "kindAt", "(I)I"⟩
abbrev cX10_placeAt : ByteArray := prog_1_method_17_code
def yX10_placeAt : MethodName := ⟨RX10, "placeAt", "(I)I"⟩
abbrev cX10_kindByPlain : ByteArray := prog_1_method_18_code
def yX10_kindByPlain : MethodName := ⟨RX10, "kindByPlain", "(I)I"⟩
abbrev cX10_placeByPlain : ByteArray := prog_1_method_19_code
def yX10_placeByPlain : MethodName := ⟨RX10, "placeByPlain", "(I)I"⟩
abbrev cX10_register : ByteArray := prog_1_method_20_code
def yX10_register : MethodName := ⟨RX10, "register", "(I)I"⟩
abbrev cX10_registerByPlain : ByteArray := prog_1_method_21_code
def yX10_registerByPlain : MethodName := ⟨RX10, "registerByPlain", "(I)I"⟩
abbrev cX10_word : ByteArray := prog_1_method_22_code
def yX10_word : MethodName := ⟨RX10, "word", "(I)I"⟩
abbrev cX10_wordByPlain : ByteArray := prog_1_method_23_code
def yX10_wordByPlain : MethodName := ⟨RX10, "wordByPlain", "(I)I"⟩
abbrev cX10_kept : ByteArray := prog_1_method_24_code
def yX10_kept : MethodName := ⟨RX10, "kept", "()I"⟩
abbrev cX10_life : ByteArray := prog_1_method_25_code
def yX10_life : MethodName := ⟨RX10, "life", "(II)I"⟩
abbrev cX10_inner : ByteArray := prog_1_method_26_code
def yX10_inner : MethodName := ⟨RX10, "inner", "(I)I"⟩
abbrev cX10_innerAnew : ByteArray := prog_1_method_27_code
def yX10_innerAnew : MethodName := ⟨RX10, "innerAnew", "(I)I"⟩
abbrev cX10_stateOf : ByteArray := prog_1_method_28_code
def yX10_stateOf : MethodName := ⟨RX10, "stateOf", "(I)C"⟩
abbrev cX10_isReady : ByteArray := prog_1_method_29_code
def yX10_isReady : MethodName := ⟨RX10, "isReady", "(I)Z"⟩
abbrev cX10_free : ByteArray := prog_1_method_30_code
def yX10_free : MethodName := ⟨RX10, "free", "()I"⟩
abbrev cX10_freeAt : ByteArray := prog_1_method_31_code
def yX10_freeAt : MethodName := ⟨RX10, "freeAt", "(I)I"⟩
abbrev cX10_inBuffer : ByteArray := prog_1_method_32_code
def yX10_inBuffer : MethodName := ⟨RX10, "inBuffer", "()I"⟩
abbrev cX10_bufferAt : ByteArray := prog_1_method_33_code
def yX10_bufferAt : MethodName := ⟨RX10, "bufferAt", "(I)I"⟩
abbrev cX10_stageAt : ByteArray := prog_1_method_34_code
def yX10_stageAt : MethodName := ⟨RX10, "stageAt", "(I)C"⟩
abbrev cX10_inQueue : ByteArray := prog_1_method_35_code
def yX10_inQueue : MethodName := ⟨RX10, "inQueue", "()I"⟩
abbrev cX10_fetched : ByteArray := prog_1_method_36_code
def yX10_fetched : MethodName := ⟨RX10, "fetched", "()I"⟩
abbrev cX10_fetching : ByteArray := prog_1_method_37_code
def yX10_fetching : MethodName := ⟨RX10, "fetching", "()I"⟩
abbrev cX10_returns : ByteArray := prog_1_method_38_code
def yX10_returns : MethodName := ⟨RX10, "returns", "()I"⟩
abbrev cX10_returnAt : ByteArray := prog_1_method_39_code
def yX10_returnAt : MethodName := ⟨RX10, "returnAt", "(I)I"⟩
abbrev cX10_counter : ByteArray := prog_1_method_40_code
def yX10_counter : MethodName := ⟨RX10, "counter", "(I)I"⟩
abbrev cX10_isMarked : ByteArray := prog_1_method_41_code
def yX10_isMarked : MethodName := ⟨RX10, "isMarked", "(I)Z"⟩
abbrev cX10_lineAt : ByteArray := prog_1_method_42_code
def yX10_lineAt : MethodName := ⟨RX10, "lineAt", "(I)I"⟩
abbrev cX10_asked : ByteArray := prog_1_method_43_code
def yX10_asked : MethodName := ⟨RX10, "asked", "()I"⟩
abbrev cX10_lost : ByteArray := prog_1_method_44_code
def yX10_lost : MethodName := ⟨RX10, "lost", "(C)I"⟩
abbrev cX10_wrong : ByteArray := prog_1_method_45_code
def yX10_wrong : MethodName := ⟨RX10, "wrong", "()I"⟩
abbrev cX10_early : ByteArray := prog_1_method_46_code
def yX10_early : MethodName := ⟨RX10, "early", "()I"⟩
abbrev cX10_thrownAway : ByteArray := prog_1_method_47_code
def yX10_thrownAway : MethodName := ⟨RX10, "thrownAway", "()I"⟩
abbrev cX10_taken : ByteArray := prog_1_method_48_code
def yX10_taken : MethodName := ⟨RX10, "taken", "()I"⟩
abbrev cX10_hits : ByteArray := prog_1_method_49_code
def yX10_hits : MethodName := ⟨RX10, "hits", "()J"⟩
abbrev cX10_share : ByteArray := prog_1_method_50_code
def yX10_share : MethodName := ⟨RX10, "share", "()F"⟩
abbrev cX10_isSame : ByteArray := prog_1_method_51_code
def yX10_isSame : MethodName := ⟨RX10, "isSame", "()Z"⟩
abbrev cX10_isWhole : ByteArray := prog_1_method_52_code
def yX10_isWhole : MethodName := ⟨RX10, "isWhole", "()Z"⟩
abbrev cX10_isEnd : ByteArray := prog_1_method_53_code
def yX10_isEnd : MethodName := ⟨RX10, "isEnd", "(I)Z"⟩
abbrev cX10_isInner : ByteArray := prog_1_method_54_code
def yX10_isInner : MethodName := ⟨RX10, "isInner", "(I)Z"⟩
abbrev cX10_isRegister : ByteArray := prog_1_method_55_code
def yX10_isRegister : MethodName := ⟨RX10, "isRegister", "(I)Z"⟩
abbrev cX10_isAddress : ByteArray := prog_1_method_56_code
def yX10_isAddress : MethodName := ⟨RX10, "isAddress", "(I)Z"⟩
abbrev cX10_isPlace : ByteArray := prog_1_method_57_code
def yX10_isPlace : MethodName := ⟨RX10, "isPlace", "(I)Z"⟩
abbrev cX10_isHandler : ByteArray := prog_1_method_58_code
def yX10_isHandler : MethodName := ⟨RX10, "isHandler", "(I)Z"⟩
abbrev cX10_newLife : ByteArray := prog_1_method_59_code
def yX10_newLife : MethodName := ⟨RX10, "newLife", "()[I"⟩
abbrev cX10_indexOfReason : ByteArray := prog_1_method_60_code
def yX10_indexOfReason : MethodName := ⟨RX10, "indexOfReason", "(C)I"⟩
def RX11 : String := "ReorderiumModel"
def TX11 : u_T := fun k => match k with
  | 0 => ("ReorderiumModel", "codes", "[I", true)
  | 1 => ("ReorderiumModel", "ds", "[I", true)
  | 2 => ("ReorderiumModel", "as", "[I", true)
  | 3 => ("ReorderiumModel", "bs", "[I", true)
  | 4 => ("ReorderiumModel", "ns", "[I", true)
  | 5 => ("ReorderiumModel", "program", "I", false)
  | 6 => ("ReorderiumModel", "width", "I", false)
  | 7 => ("ReorderiumModel", "bufferMost", "I", false)
  | 8 => ("ReorderiumModel", "queueMost", "I", false)
  | 9 => ("ReorderiumModel", "inners", "I", false)
  | 10 => ("ReorderiumModel", "trapHandler", "I", false)
  | 11 => ("ReorderiumModel", "interruptHandler", "I", false)
  | 12 => ("ReorderiumModel", "firstRegisters", "[I", true)
  | 13 => ("ReorderiumModel", "firstWords", "[I", true)
  | 14 => ("ReorderiumModel", "times", "[I", true)
  | 15 => ("ReorderiumModel", "words", "[I", true)
  | 16 => ("ReorderiumModel", "map", "[I", true)
  | 17 => ("ReorderiumModel", "retiredMap", "[I", true)
  | 18 => ("ReorderiumModel", "values", "[I", true)
  | 19 => ("ReorderiumModel", "isReady", "[Z", true)
  | 20 => ("ReorderiumModel", "freeLine", "[I", true)
  | 21 => ("ReorderiumModel", "freeMany", "I", false)
  | 22 => ("ReorderiumModel", "buffer", "[[I", true)
  | 23 => ("ReorderiumModel", "inBuffer", "I", false)
  | 24 => ("ReorderiumModel", "line", "[[I", true)
  | 25 => ("ReorderiumModel", "inLine", "I", false)
  | 26 => ("ReorderiumModel", "fetchPlace", "I", false)
  | 27 => ("ReorderiumModel", "isHeld", "Z", false)
  | 28 => ("ReorderiumModel", "stack", "[I", true)
  | 29 => ("ReorderiumModel", "counters", "[I", true)
  | 30 => ("ReorderiumModel", "table", "[I", true)
  | 31 => ("ReorderiumModel", "marks", "[Z", true)
  | 32 => ("ReorderiumModel", "cached", "[I", true)
  | 33 => ("ReorderiumModel", "askedLines", "[I", true)
  | 34 => ("ReorderiumModel", "askedUntil", "[I", true)
  | 35 => ("ReorderiumModel", "asked", "I", false)
  | 36 => ("ReorderiumModel", "cycle", "I", false)
  | 37 => ("ReorderiumModel", "hasStopped", "Z", false)
  | 38 => ("ReorderiumModel", "isAsked", "Z", false)
  | 39 => ("ReorderiumModel", "isHandling", "Z", false)
  | 40 => ("ReorderiumModel", "kept", "I", false)
  | 41 => ("ReorderiumModel", "next", "I", false)
  | 42 => ("ReorderiumModel", "numbers", "I", false)
  | 43 => ("ReorderiumModel", "endKinds", "[I", true)
  | 44 => ("ReorderiumModel", "endPlaces", "[I", true)
  | 45 => ("ReorderiumModel", "lives", "[[I", true)
  | 46 => ("ReorderiumModel", "ends", "I", false)
  | 47 => ("ReorderiumModel", "lost", "[I", true)
  | 48 => ("ReorderiumModel", "wrong", "I", false)
  | 49 => ("ReorderiumModel", "early", "I", false)
  | 50 => ("ReorderiumModel", "gone", "I", false)
  | 51 => ("ReorderiumModel", "taken", "I", false)
  | 52 => ("ReorderiumModel", "there", "I", false)
  | 53 => ("ReorderiumModel", "asking", "I", false)
  | 54 => ("ReorderiumModel", "thrown", "I", false)
  | 55 => ("ReorderiumModel", "plainRegisters", "[I", true)
  | 56 => ("ReorderiumModel", "plainWords", "[I", true)
  | 57 => ("ReorderiumModel", "plainPlace", "I", false)
  | 58 => ("ReorderiumModel", "plainKept", "I", false)
  | 59 => ("ReorderiumModel", "plainHandling", "Z", false)
  | _ => ("ReorderiumModel", "plainStopped", "Z", false)
def tyX11 : Nat → FieldType := fun k => match k with
  | 0 => .array .int
  | 1 => .array .int
  | 2 => .array .int
  | 3 => .array .int
  | 4 => .array .int
  | 5 => .int
  | 6 => .int
  | 7 => .int
  | 8 => .int
  | 9 => .int
  | 10 => .int
  | 11 => .int
  | 12 => .array .int
  | 13 => .array .int
  | 14 => .array .int
  | 15 => .array .int
  | 16 => .array .int
  | 17 => .array .int
  | 18 => .array .int
  | 19 => .array .boolean
  | 20 => .array .int
  | 21 => .int
  | 22 => .array (.array .int)
  | 23 => .int
  | 24 => .array (.array .int)
  | 25 => .int
  | 26 => .int
  | 27 => .boolean
  | 28 => .array .int
  | 29 => .array .int
  | 30 => .array .int
  | 31 => .array .boolean
  | 32 => .array .int
  | 33 => .array .int
  | 34 => .array .int
  | 35 => .int
  | 36 => .int
  | 37 => .boolean
  | 38 => .boolean
  | 39 => .boolean
  | 40 => .int
  | 41 => .int
  | 42 => .int
  | 43 => .array .int
  | 44 => .array .int
  | 45 => .array (.array .int)
  | 46 => .int
  | 47 => .array .int
  | 48 => .int
  | 49 => .int
  | 50 => .int
  | 51 => .int
  | 52 => .int
  | 53 => .int
  | 54 => .int
  | 55 => .array .int
  | 56 => .array .int
  | 57 => .int
  | 58 => .int
  | 59 => .boolean
  | _ => .boolean
abbrev wsX110 : List Cond := u_ws RX11 TX11 61
theorem nmX11 : ∀ a, a < 61 → ∀ b, b < 61 → a ≠ b → (TX11 a).2.1 ≠ (TX11 b).2.1 := by decide +kernel
theorem tyX11_ok : ∀ k, k < 61 → parseFieldDescriptor (TX11 k).2.2.1 = some (tyX11 k) := by decide +kernel
abbrev cX11_init : ByteArray := prog_13_method_1_code
def yX11_init : MethodName := ⟨RX11, "<init>", "()V"⟩
abbrev cX11_thrown : ByteArray := prog_13_method_2_code
def yX11_thrown : MethodName := ⟨RX11, "thrown", "()I"⟩
abbrev cX11_raises : ByteArray := prog_13_method_3_code
def yX11_raises : MethodName := ⟨RX11, "raises", "(I)I"⟩
abbrev cX11_in : ByteArray := prog_13_method_4_code
def yX11_in : MethodName := ⟨RX11, "in", "(III)Z"⟩
abbrev cX11_laysFree : ByteArray := prog_13_method_5_code
def yX11_laysFree : MethodName := ⟨RX11, "laysFree", "()V"⟩
abbrev cX11_add : ByteArray := prog_13_method_6_code
def yX11_add : MethodName := ⟨RX11, "add", "(IIIII)I"⟩
abbrev cX11_cannot : ByteArray := prog_13_method_7_code
def yX11_cannot : MethodName := ⟨RX11, "cannot", "(Z)Z"⟩
abbrev cX11_setRegister : ByteArray := prog_13_method_8_code
def yX11_setRegister : MethodName := ⟨RX11, "setRegister", "(II)I"⟩
abbrev cX11_setWord : ByteArray := prog_13_method_9_code
def yX11_setWord : MethodName := ⟨RX11, "setWord", "(II)I"⟩
abbrev cX11_setWidth : ByteArray := prog_13_method_10_code
def yX11_setWidth : MethodName := ⟨RX11, "setWidth", "(I)I"⟩
abbrev cX11_setBuffer : ByteArray := prog_13_method_11_code
def yX11_setBuffer : MethodName := ⟨RX11, "setBuffer", "(I)I"⟩
abbrev cX11_setQueue : ByteArray := prog_13_method_12_code
def yX11_setQueue : MethodName := ⟨RX11, "setQueue", "(I)I"⟩
abbrev cX11_setInner : ByteArray := prog_13_method_13_code
def yX11_setInner : MethodName := ⟨RX11, "setInner", "(I)I"⟩
abbrev cX11_setHandlers : ByteArray := prog_13_method_14_code
def yX11_setHandlers : MethodName := ⟨RX11, "setHandlers", "(II)I"⟩
abbrev cX11_setTime : ByteArray := prog_13_method_15_code
def yX11_setTime : MethodName := ⟨RX11, "setTime", "(II)I"⟩
abbrev cX11_interrupt : ByteArray := prog_13_method_16_code
def yX11_interrupt : MethodName := ⟨RX11, "interrupt", "()Z"⟩
abbrev cX11_run : ByteArray := prog_13_method_17_code
def yX11_run : MethodName := ⟨RX11, "run", "(I)I"⟩
abbrev cX11_cycles : ByteArray := prog_13_method_18_code
def yX11_cycles : MethodName := ⟨RX11, "cycles", "()V"⟩
abbrev cX11_codeOf : ByteArray := prog_13_method_19_code
def yX11_codeOf : MethodName := ⟨RX11, "codeOf", "([I)I"⟩
abbrev cX11_hasD : ByteArray := prog_13_method_20_code
def yX11_hasD : MethodName := ⟨RX11, "hasD", "(I)Z"⟩
abbrev cX11_isQueued : ByteArray := prog_13_method_21_code
def yX11_isQueued : MethodName := ⟨RX11, "isQueued", "(I)Z"⟩
abbrev cX11_isStore : ByteArray := prog_13_method_22_code
def yX11_isStore : MethodName := ⟨RX11, "isStore", "(I)Z"⟩
abbrev cX11_isAlone : ByteArray := prog_13_method_23_code
def yX11_isAlone : MethodName := ⟨RX11, "isAlone", "(I)Z"⟩
abbrev cX11_isAddress : ByteArray := prog_13_method_24_code
def yX11_isAddress : MethodName := ⟨RX11, "isAddress", "(I)Z"⟩
abbrev cX11_guess : ByteArray := prog_13_method_25_code
def yX11_guess : MethodName := ⟨RX11, "guess", "(I)I"⟩
abbrev cX11_pushes : ByteArray := prog_13_method_26_code
def yX11_pushes : MethodName := ⟨RX11, "pushes", "(I)V"⟩
abbrev cX11_keepsStack : ByteArray := prog_13_method_27_code
def yX11_keepsStack : MethodName := ⟨RX11, "keepsStack", "([II)V"⟩
abbrev cX11_stackAs : ByteArray := prog_13_method_28_code
def yX11_stackAs : MethodName := ⟨RX11, "stackAs", "([II)V"⟩
abbrev cX11_fetches : ByteArray := prog_13_method_29_code
def yX11_fetches : MethodName := ⟨RX11, "fetches", "()V"⟩
abbrev cX11_goesOn : ByteArray := prog_13_method_30_code
def yX11_goesOn : MethodName := ⟨RX11, "goesOn", "(I)V"⟩
abbrev cX11_inQueueNow : ByteArray := prog_13_method_31_code
def yX11_inQueueNow : MethodName := ⟨RX11, "inQueueNow", "()I"⟩
abbrev cX11_canRename : ByteArray := prog_13_method_32_code
def yX11_canRename : MethodName := ⟨RX11, "canRename", "(I)Z"⟩
abbrev cX11_renames : ByteArray := prog_13_method_33_code
def yX11_renames : MethodName := ⟨RX11, "renames", "()V"⟩
abbrev cX11_hasOperands : ByteArray := prog_13_method_34_code
def yX11_hasOperands : MethodName := ⟨RX11, "hasOperands", "([II)Z"⟩
abbrev cX11_starts : ByteArray := prog_13_method_35_code
def yX11_starts : MethodName := ⟨RX11, "starts", "([II)V"⟩
abbrev cX11_isAskedFor : ByteArray := prog_13_method_36_code
def yX11_isAskedFor : MethodName := ⟨RX11, "isAskedFor", "(I)Z"⟩
abbrev cX11_loads : ByteArray := prog_13_method_37_code
def yX11_loads : MethodName := ⟨RX11, "loads", "(I)Z"⟩
abbrev cX11_begins : ByteArray := prog_13_method_38_code
def yX11_begins : MethodName := ⟨RX11, "begins", "()V"⟩
abbrev cX11_answers : ByteArray := prog_13_method_39_code
def yX11_answers : MethodName := ⟨RX11, "answers", "()V"⟩
abbrev cX11_throwsFrom : ByteArray := prog_13_method_40_code
def yX11_throwsFrom : MethodName := ⟨RX11, "throwsFrom", "(I)V"⟩
abbrev cX11_result : ByteArray := prog_13_method_41_code
def yX11_result : MethodName := ⟨RX11, "result", "([I)I"⟩
abbrev cX11_finds : ByteArray := prog_13_method_42_code
def yX11_finds : MethodName := ⟨RX11, "finds", "([II)V"⟩
abbrev cX11_wrongLoad : ByteArray := prog_13_method_43_code
def yX11_wrongLoad : MethodName := ⟨RX11, "wrongLoad", "(I)I"⟩
abbrev cX11_ends : ByteArray := prog_13_method_44_code
def yX11_ends : MethodName := ⟨RX11, "ends", "(I)V"⟩
abbrev cX11_endings : ByteArray := prog_13_method_45_code
def yX11_endings : MethodName := ⟨RX11, "endings", "()V"⟩
abbrev cX11_tellsEnd : ByteArray := prog_13_method_46_code
def yX11_tellsEnd : MethodName := ⟨RX11, "tellsEnd", "(II[I)V"⟩
abbrev cX11_handles : ByteArray := prog_13_method_47_code
def yX11_handles : MethodName := ⟨RX11, "handles", "(II)V"⟩
abbrev cX11_traps : ByteArray := prog_13_method_48_code
def yX11_traps : MethodName := ⟨RX11, "traps", "([II)V"⟩
abbrev cX11_leaves : ByteArray := prog_13_method_49_code
def yX11_leaves : MethodName := ⟨RX11, "leaves", "()V"⟩
abbrev cX11_retire : ByteArray := prog_13_method_50_code
def yX11_retire : MethodName := ⟨RX11, "retire", "([I)V"⟩
abbrev cX11_retires : ByteArray := prog_13_method_51_code
def yX11_retires : MethodName := ⟨RX11, "retires", "()V"⟩
abbrev cX11_reason : ByteArray := prog_13_method_52_code
def yX11_reason : MethodName := ⟨RX11, "reason", "(C)I"⟩
abbrev cX11_loses : ByteArray := prog_13_method_53_code
def yX11_loses : MethodName := ⟨RX11, "loses", "(C)V"⟩
abbrev cX11_cycle : ByteArray := prog_13_method_54_code
def yX11_cycle : MethodName := ⟨RX11, "cycle", "()I"⟩
abbrev cX11_hasStopped : ByteArray := prog_13_method_55_code
def yX11_hasStopped : MethodName := ⟨RX11, "hasStopped", "()Z"⟩
abbrev cX11_ends_ : ByteArray := prog_13_method_56_code
def yX11_ends_ : MethodName := ⟨RX11, "ends", "()I"⟩
abbrev cX11_noEnd : ByteArray := prog_13_method_57_code
def yX11_noEnd : MethodName := ⟨RX11, "noEnd", "(I)Z"⟩
abbrev cX11_kindAt : ByteArray := prog_13_method_58_code
def yX11_kindAt : MethodName := ⟨RX11, "kindAt", "(I)I"⟩
abbrev cX11_placeAt : ByteArray := prog_13_method_59_code
def yX11_placeAt : MethodName := ⟨RX11, "placeAt", "(I)I"⟩
abbrev cX11_address : ByteArray := prog_13_method_60_code
def yX11_address : MethodName := ⟨RX11, "address", "(I)I"⟩
abbrev cX11_plainTrap : ByteArray := prog_13_method_61_code
def yX11_plainTrap : MethodName := ⟨RX11, "plainTrap", "(I)I"⟩
abbrev cX11_plainDoes : ByteArray := prog_13_method_62_code
def yX11_plainDoes : MethodName := ⟨RX11, "plainDoes", "(I)V"⟩
abbrev cX11_plain : ByteArray := prog_13_method_63_code
def yX11_plain : MethodName := ⟨RX11, "plain", "(I)[I"⟩
abbrev cX11_kindByPlain : ByteArray := prog_13_method_64_code
def yX11_kindByPlain : MethodName := ⟨RX11, "kindByPlain", "(I)I"⟩
abbrev cX11_placeByPlain : ByteArray := prog_13_method_65_code
def yX11_placeByPlain : MethodName := ⟨RX11, "placeByPlain", "(I)I"⟩
abbrev cX11_register : ByteArray := prog_13_method_66_code
def yX11_register : MethodName := ⟨RX11, "register", "(I)I"⟩
abbrev cX11_registerByPlain : ByteArray := prog_13_method_67_code
def yX11_registerByPlain : MethodName := ⟨RX11, "registerByPlain", "(I)I"⟩
abbrev cX11_word : ByteArray := prog_13_method_68_code
def yX11_word : MethodName := ⟨RX11, "word", "(I)I"⟩
abbrev cX11_wordByPlain : ByteArray := prog_13_method_69_code
def yX11_wordByPlain : MethodName := ⟨RX11, "wordByPlain", "(I)I"⟩
abbrev cX11_kept : ByteArray := prog_13_method_70_code
def yX11_kept : MethodName := ⟨RX11, "kept", "()I"⟩
abbrev cX11_life : ByteArray := prog_13_method_71_code
def yX11_life : MethodName := ⟨RX11, "life", "(II)I"⟩
abbrev cX11_inner : ByteArray := prog_13_method_72_code
def yX11_inner : MethodName := ⟨RX11, "inner", "(I)I"⟩
abbrev cX11_innerAnew : ByteArray := prog_13_method_73_code
def yX11_innerAnew : MethodName := ⟨RX11, "innerAnew", "(I)I"⟩
abbrev cX11_noInner : ByteArray := prog_13_method_74_code
def yX11_noInner : MethodName := ⟨RX11, "noInner", "(I)Z"⟩
abbrev cX11_stateOf : ByteArray := prog_13_method_75_code
def yX11_stateOf : MethodName := ⟨RX11, "stateOf", "(I)C"⟩
abbrev cX11_isReady : ByteArray := prog_13_method_76_code
def yX11_isReady : MethodName := ⟨RX11, "isReady", "(I)Z"⟩
abbrev cX11_free : ByteArray := prog_13_method_77_code
def yX11_free : MethodName := ⟨RX11, "free", "()I"⟩
abbrev cX11_freeAt : ByteArray := prog_13_method_78_code
def yX11_freeAt : MethodName := ⟨RX11, "freeAt", "(I)I"⟩
abbrev cX11_inBuffer : ByteArray := prog_13_method_79_code
def yX11_inBuffer : MethodName := ⟨RX11, "inBuffer", "()I"⟩
abbrev cX11_bufferAt : ByteArray := prog_13_method_80_code
def yX11_bufferAt : MethodName := ⟨RX11, "bufferAt", "(I)I"⟩
abbrev cX11_stageAt : ByteArray := prog_13_method_81_code
def yX11_stageAt : MethodName := ⟨RX11, "stageAt", "(I)C"⟩
abbrev cX11_inQueue : ByteArray := prog_13_method_82_code
def yX11_inQueue : MethodName := ⟨RX11, "inQueue", "()I"⟩
abbrev cX11_fetched : ByteArray := prog_13_method_83_code
def yX11_fetched : MethodName := ⟨RX11, "fetched", "()I"⟩
abbrev cX11_fetching : ByteArray := prog_13_method_84_code
def yX11_fetching : MethodName := ⟨RX11, "fetching", "()I"⟩
abbrev cX11_returns : ByteArray := prog_13_method_85_code
def yX11_returns : MethodName := ⟨RX11, "returns", "()I"⟩
abbrev cX11_returnAt : ByteArray := prog_13_method_86_code
def yX11_returnAt : MethodName := ⟨RX11, "returnAt", "(I)I"⟩
abbrev cX11_counter : ByteArray := prog_13_method_87_code
def yX11_counter : MethodName := ⟨RX11, "counter", "(I)I"⟩
abbrev cX11_isMarked : ByteArray := prog_13_method_88_code
def yX11_isMarked : MethodName := ⟨RX11, "isMarked", "(I)Z"⟩
abbrev cX11_lineAt : ByteArray := prog_13_method_89_code
def yX11_lineAt : MethodName := ⟨RX11, "lineAt", "(I)I"⟩
abbrev cX11_asked : ByteArray := prog_13_method_90_code
def yX11_asked : MethodName := ⟨RX11, "asked", "()I"⟩
abbrev cX11_lost : ByteArray := prog_13_method_91_code
def yX11_lost : MethodName := ⟨RX11, "lost", "(C)I"⟩
abbrev cX11_wrong : ByteArray := prog_13_method_92_code
def yX11_wrong : MethodName := ⟨RX11, "wrong", "()I"⟩
abbrev cX11_early : ByteArray := prog_13_method_93_code
def yX11_early : MethodName := ⟨RX11, "early", "()I"⟩
abbrev cX11_thrownAway : ByteArray := prog_13_method_94_code
def yX11_thrownAway : MethodName := ⟨RX11, "thrownAway", "()I"⟩
abbrev cX11_taken : ByteArray := prog_13_method_95_code
def yX11_taken : MethodName := ⟨RX11, "taken", "()I"⟩
abbrev cX11_hits : ByteArray := prog_13_method_96_code
def yX11_hits : MethodName := ⟨RX11, "hits", "()J"⟩
abbrev cX11_share : ByteArray := prog_13_method_97_code
def yX11_share : MethodName := ⟨RX11, "share", "()F"⟩
abbrev cX11_isSame : ByteArray := prog_13_method_98_code
def yX11_isSame : MethodName := ⟨RX11, "isSame", "()Z"⟩
abbrev cX11_isWhole : ByteArray := prog_13_method_99_code
def yX11_isWhole : MethodName := ⟨RX11, "isWhole", "()Z"⟩
def RJx145de : String := "java/io/Serializable"
def TJx145de : u_T := fun k => match k with
  | _ => ("", "", "", false)
def tyJx145de : Nat → FieldType := fun k => match k with
  | _ => .int
theorem nmJx145de : ∀ a, a < 0 → ∀ b, b < 0 → a ≠ b → (TJx145de a).2.1 ≠ (TJx145de b).2.1 := by decide +kernel
theorem tyJx145de_ok : ∀ k, k < 0 → parseFieldDescriptor (TJx145de k).2.2.1 = some (tyJx145de k) := by decide +kernel
def RJx9f9b0 : String := "java/lang/CharSequence"
def TJx9f9b0 : u_T := fun k => match k with
  | _ => ("", "", "", false)
def tyJx9f9b0 : Nat → FieldType := fun k => match k with
  | _ => .int
theorem nmJx9f9b0 : ∀ a, a < 0 → ∀ b, b < 0 → a ≠ b → (TJx9f9b0 a).2.1 ≠ (TJx9f9b0 b).2.1 := by decide +kernel
theorem tyJx9f9b0_ok : ∀ k, k < 0 → parseFieldDescriptor (TJx9f9b0 k).2.2.1 = some (tyJx9f9b0 k) := by decide +kernel
def RJx8e188 : String := "java/lang/Cloneable"
def TJx8e188 : u_T := fun k => match k with
  | _ => ("", "", "", false)
def tyJx8e188 : Nat → FieldType := fun k => match k with
  | _ => .int
theorem nmJx8e188 : ∀ a, a < 0 → ∀ b, b < 0 → a ≠ b → (TJx8e188 a).2.1 ≠ (TJx8e188 b).2.1 := by decide +kernel
theorem tyJx8e188_ok : ∀ k, k < 0 → parseFieldDescriptor (TJx8e188 k).2.2.1 = some (tyJx8e188 k) := by decide +kernel
def RJxb160c : String := "java/lang/Comparable"
def TJxb160c : u_T := fun k => match k with
  | _ => ("", "", "", false)
def tyJxb160c : Nat → FieldType := fun k => match k with
  | _ => .int
theorem nmJxb160c : ∀ a, a < 0 → ∀ b, b < 0 → a ≠ b → (TJxb160c a).2.1 ≠ (TJxb160c b).2.1 := by decide +kernel
theorem tyJxb160c_ok : ∀ k, k < 0 → parseFieldDescriptor (TJxb160c k).2.2.1 = some (tyJxb160c k) := by decide +kernel
def RJxab1ab : String := "java/lang/Iterable"
def TJxab1ab : u_T := fun k => match k with
  | _ => ("", "", "", false)
def tyJxab1ab : Nat → FieldType := fun k => match k with
  | _ => .int
theorem nmJxab1ab : ∀ a, a < 0 → ∀ b, b < 0 → a ≠ b → (TJxab1ab a).2.1 ≠ (TJxab1ab b).2.1 := by decide +kernel
theorem tyJxab1ab_ok : ∀ k, k < 0 → parseFieldDescriptor (TJxab1ab k).2.2.1 = some (tyJxab1ab k) := by decide +kernel
def RJ9 : String := "java/lang/Math"
def TJ9 : u_T := fun k => match k with
  | _ => ("", "", "", false)
def tyJ9 : Nat → FieldType := fun k => match k with
  | _ => .int
theorem nmJ9 : ∀ a, a < 0 → ∀ b, b < 0 → a ≠ b → (TJ9 a).2.1 ≠ (TJ9 b).2.1 := by decide +kernel
theorem tyJ9_ok : ∀ k, k < 0 → parseFieldDescriptor (TJ9 k).2.2.1 = some (tyJ9 k) := by decide +kernel
abbrev cJ9_floorMod_7cf53 : ByteArray := prog_23_method_50_code
def yJ9_floorMod_7cf53 : MethodName := ⟨RJ9, "floorMod", "(II)I"⟩
abbrev cJ9_max_7cf53 : ByteArray := prog_23_method_65_code
def yJ9_max_7cf53 : MethodName := ⟨RJ9, "max", "(II)I"⟩
abbrev cJ9_min_7cf53 : ByteArray := prog_23_method_69_code
def yJ9_min_7cf53 : MethodName := ⟨RJ9, "min", "(II)I"⟩
def RJ0 : String := "java/lang/String"
def TJ0 : u_T := fun k => match k with
  | _ => ("", "", "", false)
def tyJ0 : Nat → FieldType := fun k => match k with
  | _ => .int
theorem nmJ0 : ∀ a, a < 0 → ∀ b, b < 0 → a ≠ b → (TJ0 a).2.1 ≠ (TJ0 b).2.1 := by decide +kernel
theorem tyJ0_ok : ∀ k, k < 0 → parseFieldDescriptor (TJ0 k).2.2.1 = some (tyJ0 k) := by decide +kernel
abbrev cJ0_length_8abf5 : ByteArray := prog_25_method_54_code
def yJ0_length_8abf5 : MethodName := ⟨RJ0, "length", "()I"⟩
abbrev cJ0_charAt_5068e : ByteArray := prog_25_method_56_code
def yJ0_charAt_5068e : MethodName := ⟨RJ0, "charAt", "(I)C"⟩
abbrev cJ0_coder_7d493 : ByteArray := prog_25_method_152_code
def yJ0_coder_7d493 : MethodName := ⟨RJ0, "coder", "()B"⟩
abbrev cJ0_isLatin1_aae02 : ByteArray := prog_25_method_154_code
def yJ0_isLatin1_aae02 : MethodName := ⟨RJ0, "isLatin1", "()Z"⟩
abbrev cJ0_checkIndex_df160 : ByteArray := prog_25_method_155_code
def yJ0_checkIndex_df160 : MethodName := ⟨RJ0, "checkIndex", "(II)V"⟩
def RJ1 : String := "java/lang/StringLatin1"
def TJ1 : u_T := fun k => match k with
  | _ => ("", "", "", false)
def tyJ1 : Nat → FieldType := fun k => match k with
  | _ => .int
theorem nmJ1 : ∀ a, a < 0 → ∀ b, b < 0 → a ≠ b → (TJ1 a).2.1 ≠ (TJ1 b).2.1 := by decide +kernel
theorem tyJ1_ok : ∀ k, k < 0 → parseFieldDescriptor (TJ1 k).2.2.1 = some (tyJ1 k) := by decide +kernel
abbrev cJ1_charAt_3b067 : ByteArray := prog_26_method_2_code
def yJ1_charAt_3b067 : MethodName := ⟨RJ1, "charAt", "([BI)C"⟩
def RJ2 : String := "java/lang/StringUTF16"
def TJ2 : u_T := fun k => match k with
  | _ => ("", "", "", false)
def tyJ2 : Nat → FieldType := fun k => match k with
  | _ => .int
theorem nmJ2 : ∀ a, a < 0 → ∀ b, b < 0 → a ≠ b → (TJ2 a).2.1 ≠ (TJ2 b).2.1 := by decide +kernel
theorem tyJ2_ok : ∀ k, k < 0 → parseFieldDescriptor (TJ2 k).2.2.1 = some (tyJ2 k) := by decide +kernel
abbrev cJ2_getChar_3b067 : ByteArray := prog_27_method_5_code
def yJ2_getChar_3b067 : MethodName := ⟨RJ2, "getChar", "([BI)C"⟩
abbrev cJ2_length_9d52b : ByteArray := prog_27_method_6_code
def yJ2_length_9d52b : MethodName := ⟨RJ2, "length", "([B)I"⟩
abbrev cJ2_charAt_3b067 : ByteArray := prog_27_method_83_code
def yJ2_charAt_3b067 : MethodName := ⟨RJ2, "charAt", "([BI)C"⟩
abbrev cJ2_checkIndex_2214a : ByteArray := prog_27_method_91_code
def yJ2_checkIndex_2214a : MethodName := ⟨RJ2, "checkIndex", "(I[B)V"⟩
def RJ10 : String := "java/lang/System"
def TJ10 : u_T := fun k => match k with
  | _ => ("", "", "", false)
def tyJ10 : Nat → FieldType := fun k => match k with
  | _ => .int
theorem nmJ10 : ∀ a, a < 0 → ∀ b, b < 0 → a ≠ b → (TJ10 a).2.1 ≠ (TJ10 b).2.1 := by decide +kernel
theorem tyJ10_ok : ∀ k, k < 0 → parseFieldDescriptor (TJ10 k).2.2.1 = some (tyJ10 k) := by decide +kernel
def RJxfd54e : String := "java/lang/constant/Constable"
def TJxfd54e : u_T := fun k => match k with
  | _ => ("", "", "", false)
def tyJxfd54e : Nat → FieldType := fun k => match k with
  | _ => .int
theorem nmJxfd54e : ∀ a, a < 0 → ∀ b, b < 0 → a ≠ b → (TJxfd54e a).2.1 ≠ (TJxfd54e b).2.1 := by decide +kernel
theorem tyJxfd54e_ok : ∀ k, k < 0 → parseFieldDescriptor (TJxfd54e k).2.2.1 = some (tyJxfd54e k) := by decide +kernel
def RJx3cf43 : String := "java/lang/constant/ConstantDesc"
def TJx3cf43 : u_T := fun k => match k with
  | _ => ("", "", "", false)
def tyJx3cf43 : Nat → FieldType := fun k => match k with
  | _ => .int
theorem nmJx3cf43 : ∀ a, a < 0 → ∀ b, b < 0 → a ≠ b → (TJx3cf43 a).2.1 ≠ (TJx3cf43 b).2.1 := by decide +kernel
theorem tyJx3cf43_ok : ∀ k, k < 0 → parseFieldDescriptor (TJx3cf43 k).2.2.1 = some (tyJx3cf43 k) := by decide +kernel
def RJxa1e45 : String := "java/util/AbstractCollection"
def TJxa1e45 : u_T := fun k => match k with
  | _ => ("", "", "", false)
def tyJxa1e45 : Nat → FieldType := fun k => match k with
  | _ => .int
theorem nmJxa1e45 : ∀ a, a < 0 → ∀ b, b < 0 → a ≠ b → (TJxa1e45 a).2.1 ≠ (TJxa1e45 b).2.1 := by decide +kernel
theorem tyJxa1e45_ok : ∀ k, k < 0 → parseFieldDescriptor (TJxa1e45 k).2.2.1 = some (tyJxa1e45 k) := by decide +kernel
abbrev cJxa1e45_init_da8c8 : ByteArray := prog_32_method_1_code
def yJxa1e45_init_da8c8 : MethodName := ⟨RJxa1e45, "<init>", "()V"⟩
def RJxc12de : String := "java/util/AbstractList"
def TJxc12de : u_T := fun k => match k with
  | _ => ("", "", "", false)
def tyJxc12de : Nat → FieldType := fun k => match k with
  | _ => .int
theorem nmJxc12de : ∀ a, a < 0 → ∀ b, b < 0 → a ≠ b → (TJxc12de a).2.1 ≠ (TJxc12de b).2.1 := by decide +kernel
theorem tyJxc12de_ok : ∀ k, k < 0 → parseFieldDescriptor (TJxc12de k).2.2.1 = some (tyJxc12de k) := by decide +kernel
abbrev cJxc12de_init_da8c8 : ByteArray := prog_33_method_1_code
def yJxc12de_init_da8c8 : MethodName := ⟨RJxc12de, "<init>", "()V"⟩
def RJx4a65c : String := "java/util/ArrayList"
def TJx4a65c : u_T := fun k => match k with
  | 0 => ("java/util/AbstractList", "modCount", "I", false)
  | 1 => ("java/util/ArrayList", "elementData", "[Ljava/lang/Object;", false)
  | _ => ("java/util/ArrayList", "size", "I", false)
def tyJx4a65c : Nat → FieldType := fun k => match k with
  | 0 => .int
  | 1 => .array (.object "java/lang/Object")
  | _ => .int
theorem nmJx4a65c : ∀ a, a < 3 → ∀ b, b < 3 → a ≠ b → (TJx4a65c a).2.1 ≠ (TJx4a65c b).2.1 := by decide +kernel
theorem tyJx4a65c_ok : ∀ k, k < 3 → parseFieldDescriptor (TJx4a65c k).2.2.1 = some (tyJx4a65c k) := by decide +kernel
abbrev cJx4a65c_init_da8c8 : ByteArray := prog_34_method_2_code
def yJx4a65c_init_da8c8 : MethodName := ⟨RJx4a65c, "<init>", "()V"⟩
abbrev cJx4a65c_grow_92f84 : ByteArray := prog_34_method_6_code
def yJx4a65c_grow_92f84 : MethodName := ⟨RJx4a65c, "grow", "(I)[Ljava/lang/Object;"⟩
abbrev cJx4a65c_grow_d5877 : ByteArray := prog_34_method_7_code
def yJx4a65c_grow_d5877 : MethodName := ⟨RJx4a65c, "grow", "()[Ljava/lang/Object;"⟩
abbrev cJx4a65c_size_8abf5 : ByteArray := prog_34_method_8_code
def yJx4a65c_size_8abf5 : MethodName := ⟨RJx4a65c, "size", "()I"⟩
abbrev cJx4a65c_isEmpty_aae02 : ByteArray := prog_34_method_9_code
def yJx4a65c_isEmpty_aae02 : MethodName := ⟨RJx4a65c, "isEmpty", "()Z"⟩
abbrev cJx4a65c_elementData_915e3 : ByteArray := prog_34_method_18_code
def yJx4a65c_elementData_915e3 : MethodName := ⟨RJx4a65c, "elementData", "(I)Ljava/lang/Object;"⟩
abbrev cJx4a65c_get_915e3 : ByteArray := prog_34_method_20_code
def yJx4a65c_get_915e3 : MethodName := ⟨RJx4a65c, "get", "(I)Ljava/lang/Object;"⟩
abbrev cJx4a65c_add_72be8 : ByteArray := prog_34_method_24_code
def yJx4a65c_add_72be8 : MethodName := ⟨RJx4a65c, "add", "(Ljava/lang/Object;[Ljava/lang/Object;I)V"⟩
abbrev cJx4a65c_add_9ea2d : ByteArray := prog_34_method_25_code
def yJx4a65c_add_9ea2d : MethodName := ⟨RJx4a65c, "add", "(Ljava/lang/Object;)Z"⟩
abbrev cJx4a65c_remove_915e3 : ByteArray := prog_34_method_29_code
def yJx4a65c_remove_915e3 : MethodName := ⟨RJx4a65c, "remove", "(I)Ljava/lang/Object;"⟩
abbrev cJx4a65c_fastRemove_b59b0 : ByteArray := prog_34_method_39_code
def yJx4a65c_fastRemove_b59b0 : MethodName := ⟨RJx4a65c, "fastRemove", "([Ljava/lang/Object;I)V"⟩
abbrev cJx4a65c_clear_da8c8 : ByteArray := prog_34_method_40_code
def yJx4a65c_clear_da8c8 : MethodName := ⟨RJx4a65c, "clear", "()V"⟩
def RJ7 : String := "java/util/Arrays"
def TJ7 : u_T := fun k => match k with
  | _ => ("", "", "", false)
def tyJ7 : Nat → FieldType := fun k => match k with
  | _ => .int
theorem nmJ7 : ∀ a, a < 0 → ∀ b, b < 0 → a ≠ b → (TJ7 a).2.1 ≠ (TJ7 b).2.1 := by decide +kernel
theorem tyJ7_ok : ∀ k, k < 0 → parseFieldDescriptor (TJ7 k).2.2.1 = some (tyJ7 k) := by decide +kernel
abbrev cJ7_copyOf_1904c : ByteArray := prog_35_method_119_code
def yJ7_copyOf_1904c : MethodName := ⟨RJ7, "copyOf", "([Ljava/lang/Object;I)[Ljava/lang/Object;"⟩
abbrev cJ7_copyOf_6403c : ByteArray := prog_35_method_120_code
def yJ7_copyOf_6403c : MethodName := ⟨RJ7, "copyOf", "([Ljava/lang/Object;ILjava/lang/Class;)[Ljava/lang/Object;"⟩
def RJx5ef63 : String := "java/util/Collection"
def TJx5ef63 : u_T := fun k => match k with
  | _ => ("", "", "", false)
def tyJx5ef63 : Nat → FieldType := fun k => match k with
  | _ => .int
theorem nmJx5ef63 : ∀ a, a < 0 → ∀ b, b < 0 → a ≠ b → (TJx5ef63 a).2.1 ≠ (TJx5ef63 b).2.1 := by decide +kernel
theorem tyJx5ef63_ok : ∀ k, k < 0 → parseFieldDescriptor (TJx5ef63 k).2.2.1 = some (tyJx5ef63 k) := by decide +kernel
def RJxbd725 : String := "java/util/List"
def TJxbd725 : u_T := fun k => match k with
  | _ => ("", "", "", false)
def tyJxbd725 : Nat → FieldType := fun k => match k with
  | _ => .int
theorem nmJxbd725 : ∀ a, a < 0 → ∀ b, b < 0 → a ≠ b → (TJxbd725 a).2.1 ≠ (TJxbd725 b).2.1 := by decide +kernel
theorem tyJxbd725_ok : ∀ k, k < 0 → parseFieldDescriptor (TJxbd725 k).2.2.1 = some (tyJxbd725 k) := by decide +kernel
def RJ15 : String := "java/util/Objects"
def TJ15 : u_T := fun k => match k with
  | _ => ("", "", "", false)
def tyJ15 : Nat → FieldType := fun k => match k with
  | _ => .int
theorem nmJ15 : ∀ a, a < 0 → ∀ b, b < 0 → a ≠ b → (TJ15 a).2.1 ≠ (TJ15 b).2.1 := by decide +kernel
theorem tyJ15_ok : ∀ k, k < 0 → parseFieldDescriptor (TJ15 k).2.2.1 = some (tyJ15 k) := by decide +kernel
abbrev cJ15_checkIndex_7cf53 : ByteArray := prog_39_method_17_code
def yJ15_checkIndex_7cf53 : MethodName := ⟨RJ15, "checkIndex", "(II)I"⟩
def RJxf0a74 : String := "java/util/RandomAccess"
def TJxf0a74 : u_T := fun k => match k with
  | _ => ("", "", "", false)
def tyJxf0a74 : Nat → FieldType := fun k => match k with
  | _ => .int
theorem nmJxf0a74 : ∀ a, a < 0 → ∀ b, b < 0 → a ≠ b → (TJxf0a74 a).2.1 ≠ (TJxf0a74 b).2.1 := by decide +kernel
theorem tyJxf0a74_ok : ∀ k, k < 0 → parseFieldDescriptor (TJxf0a74 k).2.2.1 = some (tyJxf0a74 k) := by decide +kernel
def RJxa66e6 : String := "java/util/SequencedCollection"
def TJxa66e6 : u_T := fun k => match k with
  | _ => ("", "", "", false)
def tyJxa66e6 : Nat → FieldType := fun k => match k with
  | _ => .int
theorem nmJxa66e6 : ∀ a, a < 0 → ∀ b, b < 0 → a ≠ b → (TJxa66e6 a).2.1 ≠ (TJxa66e6 b).2.1 := by decide +kernel
theorem tyJxa66e6_ok : ∀ k, k < 0 → parseFieldDescriptor (TJxa66e6 k).2.2.1 = some (tyJxa66e6 k) := by decide +kernel
def RJ8 : String := "jdk/internal/util/ArraysSupport"
def TJ8 : u_T := fun k => match k with
  | _ => ("", "", "", false)
def tyJ8 : Nat → FieldType := fun k => match k with
  | _ => .int
theorem nmJ8 : ∀ a, a < 0 → ∀ b, b < 0 → a ≠ b → (TJ8 a).2.1 ≠ (TJ8 b).2.1 := by decide +kernel
theorem tyJ8_ok : ∀ k, k < 0 → parseFieldDescriptor (TJ8 k).2.2.1 = some (tyJ8 k) := by decide +kernel
abbrev cJ8_newLength_cabcc : ByteArray := prog_42_method_27_code
def yJ8_newLength_cabcc : MethodName := ⟨RJ8, "newLength", "(III)I"⟩
abbrev cJ8_hugeLength_7cf53 : ByteArray := prog_42_method_28_code
def yJ8_hugeLength_7cf53 : MethodName := ⟨RJ8, "hugeLength", "(II)I"⟩
def RJ3 : String := "jdk/internal/util/Preconditions"
def TJ3 : u_T := fun k => match k with
  | _ => ("", "", "", false)
def tyJ3 : Nat → FieldType := fun k => match k with
  | _ => .int
theorem nmJ3 : ∀ a, a < 0 → ∀ b, b < 0 → a ≠ b → (TJ3 a).2.1 ≠ (TJ3 b).2.1 := by decide +kernel
theorem tyJ3_ok : ∀ k, k < 0 → parseFieldDescriptor (TJ3 k).2.2.1 = some (tyJ3 k) := by decide +kernel
abbrev cJ3_checkIndex_8e157 : ByteArray := prog_43_method_11_code
def yJ3_checkIndex_8e157 : MethodName := ⟨RJ3, "checkIndex", "(IILjava/util/function/BiFunction;)I"⟩
def RL : String := "ReorderiumLaw"
abbrev cL_add : ByteArray := method_3_code
def yL_add : MethodName := ⟨RL, "add", "(LReorderium;IIIII[J)I"⟩
abbrev cL_setRegister : ByteArray := method_4_code
def yL_setRegister : MethodName := ⟨RL, "setRegister", "(LReorderium;II[J)I"⟩
abbrev cL_setWord : ByteArray := method_5_code
def yL_setWord : MethodName := ⟨RL, "setWord", "(LReorderium;II[J)I"⟩
abbrev cL_setWidth : ByteArray := method_6_code
def yL_setWidth : MethodName := ⟨RL, "setWidth", "(LReorderium;I[J)I"⟩
abbrev cL_setBuffer : ByteArray := method_7_code
def yL_setBuffer : MethodName := ⟨RL, "setBuffer", "(LReorderium;I[J)I"⟩
abbrev cL_setQueue : ByteArray := method_8_code
def yL_setQueue : MethodName := ⟨RL, "setQueue", "(LReorderium;I[J)I"⟩
abbrev cL_setInner : ByteArray := method_9_code
def yL_setInner : MethodName := ⟨RL, "setInner", "(LReorderium;I[J)I"⟩
abbrev cL_setHandlers : ByteArray := method_10_code
def yL_setHandlers : MethodName := ⟨RL, "setHandlers", "(LReorderium;II[J)I"⟩
abbrev cL_setTime : ByteArray := method_11_code
def yL_setTime : MethodName := ⟨RL, "setTime", "(LReorderium;II[J)I"⟩
abbrev cL_run : ByteArray := method_12_code
def yL_run : MethodName := ⟨RL, "run", "(LReorderium;I[J)I"⟩
abbrev cL_kindAt : ByteArray := method_13_code
def yL_kindAt : MethodName := ⟨RL, "kindAt", "(LReorderium;I[J)I"⟩
abbrev cL_placeAt : ByteArray := method_14_code
def yL_placeAt : MethodName := ⟨RL, "placeAt", "(LReorderium;I[J)I"⟩
abbrev cL_kindByPlain : ByteArray := method_15_code
def yL_kindByPlain : MethodName := ⟨RL, "kindByPlain", "(LReorderium;I[J)I"⟩
abbrev cL_placeByPlain : ByteArray := method_16_code
def yL_placeByPlain : MethodName := ⟨RL, "placeByPlain", "(LReorderium;I[J)I"⟩
abbrev cL_register : ByteArray := method_17_code
def yL_register : MethodName := ⟨RL, "register", "(LReorderium;I[J)I"⟩
abbrev cL_registerByPlain : ByteArray := method_18_code
def yL_registerByPlain : MethodName := ⟨RL, "registerByPlain", "(LReorderium;I[J)I"⟩
abbrev cL_word : ByteArray := method_19_code
def yL_word : MethodName := ⟨RL, "word", "(LReorderium;I[J)I"⟩
abbrev cL_wordByPlain : ByteArray := method_20_code
def yL_wordByPlain : MethodName := ⟨RL, "wordByPlain", "(LReorderium;I[J)I"⟩
abbrev cL_kept : ByteArray := method_21_code
def yL_kept : MethodName := ⟨RL, "kept", "(LReorderium;[J)I"⟩
abbrev cL_life : ByteArray := method_22_code
def yL_life : MethodName := ⟨RL, "life", "(LReorderium;II[J)I"⟩
abbrev cL_inner : ByteArray := method_23_code
def yL_inner : MethodName := ⟨RL, "inner", "(LReorderium;I[J)I"⟩
abbrev cL_innerAnew : ByteArray := method_24_code
def yL_innerAnew : MethodName := ⟨RL, "innerAnew", "(LReorderium;I[J)I"⟩
abbrev cL_stateOf : ByteArray := method_25_code
def yL_stateOf : MethodName := ⟨RL, "stateOf", "(LReorderium;I[J)I"⟩
abbrev cL_isReady : ByteArray := method_26_code
def yL_isReady : MethodName := ⟨RL, "isReady", "(LReorderium;I[J)I"⟩
abbrev cL_freeAt : ByteArray := method_27_code
def yL_freeAt : MethodName := ⟨RL, "freeAt", "(LReorderium;I[J)I"⟩
abbrev cL_bufferAt : ByteArray := method_28_code
def yL_bufferAt : MethodName := ⟨RL, "bufferAt", "(LReorderium;I[J)I"⟩
abbrev cL_stageAt : ByteArray := method_29_code
def yL_stageAt : MethodName := ⟨RL, "stageAt", "(LReorderium;I[J)I"⟩
abbrev cL_fetching : ByteArray := method_30_code
def yL_fetching : MethodName := ⟨RL, "fetching", "(LReorderium;[J)I"⟩
abbrev cL_returnAt : ByteArray := method_31_code
def yL_returnAt : MethodName := ⟨RL, "returnAt", "(LReorderium;I[J)I"⟩
abbrev cL_counter : ByteArray := method_32_code
def yL_counter : MethodName := ⟨RL, "counter", "(LReorderium;I[J)I"⟩
abbrev cL_isMarked : ByteArray := method_33_code
def yL_isMarked : MethodName := ⟨RL, "isMarked", "(LReorderium;I[J)I"⟩
abbrev cL_lineAt : ByteArray := method_34_code
def yL_lineAt : MethodName := ⟨RL, "lineAt", "(LReorderium;I[J)I"⟩
abbrev cL_lost : ByteArray := method_35_code
def yL_lost : MethodName := ⟨RL, "lost", "(LReorderium;C[J)I"⟩
abbrev cL_share : ByteArray := method_36_code
def yL_share : MethodName := ⟨RL, "share", "(LReorderium;[D)I"⟩
abbrev cL_law : ByteArray := code
def yL_law : MethodName := ⟨RL, "law", "([I)Z"⟩
set_option maxRecDepth 20000 in
theorem wsL_law_in0 : ∀ w ∈ wsL_law0, w ∈ lw_tbl := fun w h => (goodIn_p wsL_law0 [113, 116, 121, 127, 130, 133, 153, 185, 191, 195, 239, 267, 272, 276, 312, 337, 1538, 1546, 576, 579, 582, 465, 666, 706, 710, 714, 718, 724, 721, 728, 731, 755, 761, 1738, 1741, 1734, 773, 1745, 1749, 780, 783, 1753, 790, 1757, 797, 1761, 804, 1765, 811, 1769, 819, 822, 1773, 829, 1777, 449, 1781, 836, 840, 844, 848, 851, 486, 489, 492, 496, 855, 859, 863, 868, 872, 876, 880, 884, 888, 892, 896, 900, 904, 909, 913, 917, 922, 926, 930, 934, 937, 941, 945, 949, 956, 962, 966, 971, 978, 985, 989, 1020, 1023, 1029, 1033, 1036, 1039, 1045, 1048, 1051, 1055, 1065, 1069, 1073, 1077, 1081, 1085, 1089, 547, 1098, 1102, 1106, 1110, 1114, 1118, 1122, 1126, 1130, 1140, 1144, 1148, 1153, 1157, 1161, 1165, 1169, 1173, 1177, 1181, 481, 1186, 1190, 1194, 1199, 1205, 1212, 1216, 1220, 1224, 1228, 1233, 1785, 1789, 1793, 1797, 1801, 1805, 1808, 1812, 1815, 1818, 1822, 1826, 1830, 1834, 1839, 1843, 1847, 1850, 1854, 1858, 1861, 1865, 1869, 1873, 1880, 1884, 1888, 1892, 1896, 1900, 1904, 1907, 1911, 1915, 1919, 1923, 1927, 453, 1931, 457, 1935, 461, 1939, 1322, 1326, 1943, 1947, 1350, 1951, 1357, 1955, 1959, 1963, 1967, 1971, 1364, 1975, 1371, 1979, 1379, 1983, 1386, 1987, 1393, 1991, 1401, 1995, 1423, 1999, 2003, 1430, 2007, 1437, 1441, 2011, 1448, 1452, 555, 563, 2016, 2020, 1460, 2024, 469, 2028, 1468, 2032, 473, 2036, 1475, 2040, 1483, 2044, 477, 2048, 501, 2052, 1490, 2056, 505, 2060, 1497, 2064, 1504, 2068, 1511, 2072, 1518, 2076, 509, 2080, 1525, 2084, 513, 2088, 517, 2092, 521, 2096, 525, 2100, 529, 2104, 1533, 2109, 534, 538, 543, 2113, 551, 559, 567, 2117] (by decide +kernel) (by decide +kernel) w h).1
theorem wsL_law_x0 : ∀ w ∈ (vx_at0 RX10 25 "java/lang/IllegalArgumentException" ["java/lang/RuntimeException", "java/lang/Exception"]).filter goodWord, w ∈ lw_tbl := by decide +kernel
theorem wsL_law_x1 : ∀ w ∈ (vx_at0 RX10 42 "java/lang/IllegalStateException" ["java/lang/RuntimeException", "java/lang/Exception"]).filter goodWord, w ∈ lw_tbl := by decide +kernel
theorem wsL_law_x2 : ∀ w ∈ (vx_at0 RX10 136 "java/lang/IndexOutOfBoundsException" ["java/lang/RuntimeException", "java/lang/Exception"]).filter goodWord, w ∈ lw_tbl := by decide +kernel
theorem wsL_law_x3 : ∀ w ∈ (vx_at0 RX10 167 "java/util/NoSuchElementException" ["java/lang/RuntimeException", "java/lang/Exception"]).filter goodWord, w ∈ lw_tbl := by decide +kernel
theorem wsL_law_in : ∀ w ∈ wsL_law, w ∈ lw_tbl := fun w h => (List.mem_append.mp h).elim (fun h => (List.mem_append.mp h).elim (fun h => (List.mem_append.mp h).elim (fun h => (List.mem_append.mp h).elim (fun h => wsL_law_in0 w h) (fun h => wsL_law_x0 w h)) (fun h => wsL_law_x1 w h)) (fun h => wsL_law_x2 w h)) (fun h => wsL_law_x3 w h)
theorem inlX0 : ∀ w ∈ wsX00, w ∈ wsL_law := fun _ h => List.mem_append_left _ (List.mem_append_left _ (List.mem_append_left _ (List.mem_append_left _ (List.mem_append_left _ (List.mem_append_left _ (List.mem_append_left _ (List.mem_append_left _ (List.mem_append_left _ (List.mem_append_left _ (List.mem_append_left _ (List.mem_append_left _ (List.mem_append_left _ (List.mem_append_left _ (List.mem_append_left _ (List.mem_append_right _ h)))))))))))))))
theorem inX0 : ∀ w ∈ wsX00, w ∈ lw_tbl := fun w h => wsL_law_in w (inlX0 w h)
theorem inlX1 : ∀ w ∈ wsX10, w ∈ wsL_law := fun _ h => List.mem_append_left _ (List.mem_append_left _ (List.mem_append_left _ (List.mem_append_left _ (List.mem_append_left _ (List.mem_append_left _ (List.mem_append_left _ (List.mem_append_left _ (List.mem_append_left _ (List.mem_append_left _ (List.mem_append_left _ (List.mem_append_left _ (List.mem_append_right _ h))))))))))))
theorem inX1 : ∀ w ∈ wsX10, w ∈ lw_tbl := fun w h => wsL_law_in w (inlX1 w h)
theorem inlX2 : ∀ w ∈ wsX20, w ∈ wsL_law := fun _ h => List.mem_append_left _ (List.mem_append_left _ (List.mem_append_left _ (List.mem_append_left _ (List.mem_append_left _ (List.mem_append_right _ h)))))
theorem inX2 : ∀ w ∈ wsX20, w ∈ lw_tbl := fun w h => wsL_law_in w (inlX2 w h)
theorem inlX3 : ∀ w ∈ wsX30, w ∈ wsL_law := fun _ h => List.mem_append_left _ (List.mem_append_left _ (List.mem_append_left _ (List.mem_append_left _ (List.mem_append_left _ (List.mem_append_left _ (List.mem_append_right _ h))))))
theorem inX3 : ∀ w ∈ wsX30, w ∈ lw_tbl := fun w h => wsL_law_in w (inlX3 w h)
theorem inlX4 : ∀ w ∈ wsX40, w ∈ wsL_law := fun _ h => List.mem_append_left _ (List.mem_append_left _ (List.mem_append_left _ (List.mem_append_left _ (List.mem_append_left _ (List.mem_append_left _ (List.mem_append_left _ (List.mem_append_left _ (List.mem_append_right _ h))))))))
theorem inX4 : ∀ w ∈ wsX40, w ∈ lw_tbl := fun w h => wsL_law_in w (inlX4 w h)
theorem inlX5 : ∀ w ∈ wsX50, w ∈ wsL_law := fun _ h => List.mem_append_left _ (List.mem_append_left _ (List.mem_append_left _ (List.mem_append_left _ (List.mem_append_left _ (List.mem_append_left _ (List.mem_append_left _ (List.mem_append_left _ (List.mem_append_left _ (List.mem_append_left _ (List.mem_append_right _ h))))))))))
theorem inX5 : ∀ w ∈ wsX50, w ∈ lw_tbl := fun w h => wsL_law_in w (inlX5 w h)
theorem inlX6 : ∀ w ∈ wsX60, w ∈ wsL_law := fun _ h => List.mem_append_left _ (List.mem_append_left _ (List.mem_append_left _ (List.mem_append_left _ (List.mem_append_left _ (List.mem_append_left _ (List.mem_append_left _ (List.mem_append_right _ h)))))))
theorem inX6 : ∀ w ∈ wsX60, w ∈ lw_tbl := fun w h => wsL_law_in w (inlX6 w h)
theorem inlX7 : ∀ w ∈ wsX70, w ∈ wsL_law := fun _ h => List.mem_append_left _ (List.mem_append_left _ (List.mem_append_left _ (List.mem_append_left _ (List.mem_append_left _ (List.mem_append_left _ (List.mem_append_left _ (List.mem_append_left _ (List.mem_append_left _ (List.mem_append_right _ h)))))))))
theorem inX7 : ∀ w ∈ wsX70, w ∈ lw_tbl := fun w h => wsL_law_in w (inlX7 w h)
theorem inlX8 : ∀ w ∈ wsX80, w ∈ wsL_law := fun _ h => List.mem_append_left _ (List.mem_append_left _ (List.mem_append_left _ (List.mem_append_left _ (List.mem_append_left _ (List.mem_append_left _ (List.mem_append_left _ (List.mem_append_left _ (List.mem_append_left _ (List.mem_append_left _ (List.mem_append_left _ (List.mem_append_right _ h)))))))))))
theorem inX8 : ∀ w ∈ wsX80, w ∈ lw_tbl := fun w h => wsL_law_in w (inlX8 w h)
theorem inlX9 : ∀ w ∈ wsX90, w ∈ wsL_law := fun _ h => List.mem_append_left _ (List.mem_append_left _ (List.mem_append_left _ (List.mem_append_left _ (List.mem_append_left _ (List.mem_append_left _ (List.mem_append_left _ (List.mem_append_left _ (List.mem_append_left _ (List.mem_append_left _ (List.mem_append_left _ (List.mem_append_left _ (List.mem_append_left _ (List.mem_append_right _ h)))))))))))))
theorem inX9 : ∀ w ∈ wsX90, w ∈ lw_tbl := fun w h => wsL_law_in w (inlX9 w h)
theorem inlX10 : ∀ w ∈ wsX100, w ∈ wsL_law := fun _ h => List.mem_append_left _ (List.mem_append_left _ (List.mem_append_left _ (List.mem_append_left _ (List.mem_append_left _ (List.mem_append_left _ (List.mem_append_left _ (List.mem_append_left _ (List.mem_append_left _ (List.mem_append_left _ (List.mem_append_left _ (List.mem_append_left _ (List.mem_append_left _ (List.mem_append_left _ (List.mem_append_left _ (List.mem_append_left _ (List.mem_append_left _ (List.mem_append_right _ h)))))))))))))))))
theorem inX10 : ∀ w ∈ wsX100, w ∈ lw_tbl := fun w h => wsL_law_in w (inlX10 w h)
theorem inlX11 : ∀ w ∈ wsX110, w ∈ wsL_law := fun _ h => List.mem_append_left _ (List.mem_append_left _ (List.mem_append_left _ (List.mem_append_left _ (List.mem_append_left _ (List.mem_append_left _ (List.mem_append_left _ (List.mem_append_left _ (List.mem_append_left _ (List.mem_append_left _ (List.mem_append_left _ (List.mem_append_left _ (List.mem_append_left _ (List.mem_append_left _ (List.mem_append_left _ (List.mem_append_left _ (List.mem_append_right _ h))))))))))))))))
theorem inX11 : ∀ w ∈ wsX110, w ∈ lw_tbl := fun w h => wsL_law_in w (inlX11 w h)
theorem inJx145de : ∀ w ∈ wsJx145de0, w ∈ lw_tbl := by decide +kernel
theorem inJx9f9b0 : ∀ w ∈ wsJx9f9b00, w ∈ lw_tbl := by decide +kernel
theorem inJx8e188 : ∀ w ∈ wsJx8e1880, w ∈ lw_tbl := by decide +kernel
theorem inJxb160c : ∀ w ∈ wsJxb160c0, w ∈ lw_tbl := by decide +kernel
theorem inJxab1ab : ∀ w ∈ wsJxab1ab0, w ∈ lw_tbl := by decide +kernel
theorem inJ9 : ∀ w ∈ wsJ90, w ∈ lw_tbl := by decide +kernel
theorem inJ0 : ∀ w ∈ wsJ00, w ∈ lw_tbl := by decide +kernel
theorem inJ1 : ∀ w ∈ wsJ10, w ∈ lw_tbl := by decide +kernel
theorem inJ2 : ∀ w ∈ wsJ20, w ∈ lw_tbl := by decide +kernel
theorem inJ10 : ∀ w ∈ wsJ100, w ∈ lw_tbl := by decide +kernel
theorem inJxfd54e : ∀ w ∈ wsJxfd54e0, w ∈ lw_tbl := by decide +kernel
theorem inJx3cf43 : ∀ w ∈ wsJx3cf430, w ∈ lw_tbl := by decide +kernel
theorem inJxa1e45 : ∀ w ∈ wsJxa1e450, w ∈ lw_tbl := by decide +kernel
theorem inJxc12de : ∀ w ∈ wsJxc12de0, w ∈ lw_tbl := by decide +kernel
theorem inlJx4a65c : ∀ w ∈ wsJx4a65c0, w ∈ wsL_law := fun _ h => List.mem_append_left _ (List.mem_append_left _ (List.mem_append_left _ (List.mem_append_left _ (List.mem_append_left _ (List.mem_append_left _ (List.mem_append_left _ (List.mem_append_left _ (List.mem_append_left _ (List.mem_append_left _ (List.mem_append_left _ (List.mem_append_left _ (List.mem_append_left _ (List.mem_append_left _ (List.mem_append_right _ h))))))))))))))
theorem inJx4a65c : ∀ w ∈ wsJx4a65c0, w ∈ lw_tbl := fun w h => wsL_law_in w (inlJx4a65c w h)
theorem inJ7 : ∀ w ∈ wsJ70, w ∈ lw_tbl := by decide +kernel
theorem inJx5ef63 : ∀ w ∈ wsJx5ef630, w ∈ lw_tbl := by decide +kernel
theorem inJxbd725 : ∀ w ∈ wsJxbd7250, w ∈ lw_tbl := by decide +kernel
theorem inJ15 : ∀ w ∈ wsJ150, w ∈ lw_tbl := by decide +kernel
theorem inJxf0a74 : ∀ w ∈ wsJxf0a740, w ∈ lw_tbl := by decide +kernel
theorem inJxa66e6 : ∀ w ∈ wsJxa66e60, w ∈ lw_tbl := by decide +kernel
theorem inJ8 : ∀ w ∈ wsJ80, w ∈ lw_tbl := by decide +kernel
theorem inJ3 : ∀ w ∈ wsJ30, w ∈ lw_tbl := by decide +kernel
set_option maxRecDepth 20000 in
set_option maxRecDepth 20000 in
set_option maxRecDepth 20000 in
set_option maxRecDepth 20000 in
set_option maxRecDepth 20000 in
set_option maxRecDepth 20000 in
set_option maxRecDepth 20000 in
set_option maxRecDepth 20000 in
set_option maxRecDepth 20000 in
set_option maxRecDepth 20000 in
set_option maxRecDepth 20000 in
set_option maxRecDepth 20000 in
set_option maxRecDepth 20000 in
set_option maxRecDepth 20000 in
set_option maxRecDepth 20000 in
set_option maxRecDepth 20000 in
set_option maxRecDepth 20000 in
set_option maxRecDepth 20000 in
set_option maxRecDepth 20000 in
set_option maxRecDepth 20000 in
set_option maxRecDepth 20000 in
set_option maxRecDepth 20000 in
set_option maxRecDepth 20000 in
set_option maxRecDepth 20000 in
set_option maxRecDepth 20000 in
set_option maxRecDepth 20000 in
set_option maxRecDepth 20000 in
set_option maxRecDepth 20000 in
set_option maxRecDepth 20000 in
set_option maxRecDepth 20000 in
set_option maxRecDepth 20000 in
set_option maxRecDepth 20000 in
set_option maxRecDepth 20000 in
set_option maxRecDepth 20000 in
set_option maxRecDepth 20000 in
set_option maxRecDepth 20000 in
set_option maxRecDepth 20000 in
set_option maxRecDepth 20000 in
set_option maxRecDepth 20000 in
set_option maxRecDepth 20000 in
set_option maxRecDepth 20000 in
set_option maxRecDepth 20000 in
set_option maxRecDepth 20000 in
set_option maxRecDepth 20000 in
set_option maxRecDepth 20000 in
set_option maxRecDepth 20000 in
set_option maxRecDepth 20000 in
set_option maxRecDepth 20000 in
set_option maxRecDepth 20000 in
set_option maxRecDepth 20000 in
set_option maxRecDepth 20000 in
set_option maxRecDepth 20000 in
set_option maxRecDepth 20000 in
set_option maxRecDepth 20000 in
set_option maxRecDepth 20000 in
set_option maxRecDepth 20000 in
set_option maxRecDepth 20000 in
set_option maxRecDepth 20000 in
set_option maxRecDepth 20000 in
set_option maxRecDepth 20000 in
set_option maxRecDepth 20000 in
set_option maxRecDepth 20000 in
set_option maxRecDepth 20000 in
set_option maxRecDepth 20000 in
set_option maxRecDepth 20000 in
set_option maxRecDepth 20000 in
set_option maxRecDepth 20000 in
set_option maxRecDepth 20000 in
set_option maxRecDepth 20000 in
set_option maxRecDepth 20000 in
set_option maxRecDepth 20000 in
set_option maxRecDepth 20000 in
set_option maxRecDepth 20000 in
set_option maxRecDepth 20000 in
set_option maxRecDepth 20000 in
set_option maxRecDepth 20000 in
set_option maxRecDepth 20000 in
set_option maxRecDepth 20000 in
set_option maxRecDepth 20000 in
set_option maxRecDepth 20000 in
set_option maxRecDepth 20000 in
set_option maxRecDepth 20000 in
set_option maxRecDepth 20000 in
set_option maxRecDepth 20000 in
set_option maxRecDepth 20000 in
set_option maxRecDepth 20000 in
set_option maxRecDepth 20000 in
set_option maxRecDepth 20000 in
set_option maxRecDepth 20000 in
set_option maxRecDepth 20000 in
set_option maxRecDepth 20000 in
set_option maxRecDepth 20000 in
set_option maxRecDepth 20000 in
set_option maxRecDepth 20000 in
set_option maxRecDepth 20000 in
set_option maxRecDepth 20000 in
set_option maxRecDepth 20000 in
set_option maxRecDepth 20000 in
set_option maxRecDepth 20000 in
set_option maxRecDepth 20000 in
set_option maxRecDepth 20000 in
set_option maxRecDepth 20000 in
set_option maxRecDepth 20000 in
set_option maxRecDepth 20000 in
set_option maxRecDepth 20000 in
set_option maxRecDepth 20000 in
set_option maxRecDepth 20000 in
set_option maxRecDepth 20000 in
set_option maxRecDepth 20000 in
set_option maxRecDepth 20000 in
set_option maxRecDepth 20000 in
set_option maxRecDepth 20000 in
set_option maxRecDepth 20000 in
set_option maxRecDepth 20000 in
set_option maxRecDepth 20000 in
set_option maxRecDepth 20000 in
set_option maxRecDepth 20000 in
set_option maxRecDepth 20000 in
set_option maxRecDepth 20000 in
set_option maxRecDepth 20000 in
set_option maxRecDepth 20000 in
set_option maxRecDepth 20000 in
set_option maxRecDepth 20000 in
set_option maxRecDepth 20000 in
set_option maxRecDepth 20000 in
set_option maxRecDepth 20000 in
set_option maxRecDepth 20000 in
set_option maxRecDepth 20000 in
set_option maxRecDepth 20000 in
set_option maxRecDepth 20000 in
set_option maxRecDepth 20000 in
set_option maxRecDepth 20000 in
set_option maxRecDepth 20000 in
set_option maxRecDepth 20000 in
set_option maxRecDepth 20000 in
set_option maxRecDepth 20000 in
set_option maxRecDepth 20000 in
set_option maxRecDepth 20000 in
set_option maxRecDepth 20000 in
set_option maxRecDepth 20000 in
set_option maxRecDepth 20000 in
set_option maxRecDepth 20000 in
set_option maxRecDepth 20000 in
set_option maxRecDepth 20000 in
set_option maxRecDepth 20000 in
set_option maxRecDepth 20000 in
set_option maxRecDepth 20000 in
set_option maxRecDepth 20000 in
set_option maxRecDepth 20000 in
set_option maxRecDepth 20000 in
set_option maxRecDepth 20000 in
set_option maxRecDepth 20000 in
set_option maxRecDepth 20000 in
set_option maxRecDepth 20000 in
set_option maxRecDepth 20000 in
set_option maxRecDepth 20000 in
set_option maxRecDepth 20000 in
set_option maxRecDepth 20000 in
set_option maxRecDepth 20000 in
set_option maxRecDepth 20000 in
set_option maxRecDepth 20000 in
set_option maxRecDepth 20000 in
set_option maxRecDepth 20000 in
set_option maxRecDepth 20000 in
set_option maxRecDepth 20000 in
set_option maxRecDepth 20000 in
set_option maxRecDepth 20000 in
set_option maxRecDepth 20000 in
set_option maxRecDepth 20000 in
set_option maxRecDepth 20000 in
set_option maxRecDepth 20000 in
set_option maxRecDepth 20000 in
set_option maxRecDepth 20000 in
set_option maxRecDepth 20000 in
set_option maxRecDepth 20000 in
set_option maxRecDepth 20000 in
set_option maxRecDepth 20000 in
set_option maxRecDepth 20000 in
set_option maxRecDepth 20000 in
set_option maxRecDepth 20000 in
set_option maxRecDepth 20000 in
set_option maxRecDepth 20000 in
set_option maxRecDepth 20000 in
set_option maxRecDepth 20000 in
set_option maxRecDepth 20000 in
set_option maxRecDepth 20000 in
set_option maxRecDepth 20000 in
set_option maxRecDepth 20000 in
set_option maxRecDepth 20000 in
set_option maxRecDepth 20000 in
set_option maxRecDepth 20000 in
set_option maxRecDepth 20000 in
set_option maxRecDepth 20000 in
set_option maxRecDepth 20000 in
set_option maxRecDepth 20000 in
set_option maxRecDepth 20000 in
set_option maxRecDepth 20000 in
set_option maxRecDepth 20000 in
set_option maxRecDepth 20000 in
set_option maxRecDepth 20000 in
set_option maxRecDepth 20000 in
set_option maxRecDepth 20000 in
set_option maxRecDepth 20000 in
set_option maxRecDepth 20000 in
set_option maxRecDepth 20000 in
set_option maxRecDepth 20000 in
set_option maxRecDepth 20000 in
set_option maxRecDepth 20000 in
set_option maxRecDepth 20000 in
set_option maxRecDepth 20000 in
set_option maxRecDepth 20000 in
set_option maxRecDepth 20000 in
set_option maxRecDepth 20000 in
set_option maxRecDepth 20000 in
set_option maxRecDepth 20000 in
set_option maxRecDepth 20000 in
set_option maxRecDepth 20000 in
set_option maxRecDepth 20000 in
set_option maxRecDepth 20000 in
set_option maxRecDepth 20000 in
set_option maxRecDepth 20000 in
set_option maxRecDepth 20000 in
set_option maxRecDepth 20000 in
set_option maxRecDepth 20000 in
set_option maxRecDepth 20000 in
set_option maxRecDepth 20000 in
set_option maxRecDepth 20000 in
set_option maxRecDepth 20000 in
set_option maxRecDepth 20000 in
set_option maxRecDepth 20000 in
set_option maxRecDepth 20000 in
set_option maxRecDepth 20000 in
set_option maxRecDepth 20000 in
set_option maxRecDepth 20000 in
set_option maxRecDepth 20000 in
set_option maxRecDepth 20000 in
set_option maxRecDepth 20000 in
set_option maxRecDepth 20000 in
set_option maxRecDepth 20000 in
set_option maxRecDepth 20000 in
set_option maxRecDepth 20000 in
set_option maxRecDepth 20000 in
set_option maxRecDepth 20000 in
set_option maxRecDepth 20000 in
set_option maxRecDepth 20000 in
set_option maxRecDepth 20000 in
set_option maxRecDepth 20000 in
set_option maxRecDepth 20000 in
set_option maxRecDepth 20000 in
set_option maxRecDepth 20000 in
set_option maxRecDepth 20000 in
set_option maxRecDepth 20000 in
set_option maxRecDepth 20000 in
set_option maxRecDepth 20000 in
set_option maxRecDepth 20000 in
set_option maxRecDepth 20000 in
set_option maxRecDepth 20000 in
set_option maxRecDepth 20000 in
set_option maxRecDepth 20000 in
set_option maxRecDepth 20000 in
set_option maxRecDepth 20000 in
set_option maxRecDepth 20000 in
set_option maxRecDepth 20000 in
set_option maxRecDepth 20000 in
set_option maxRecDepth 20000 in
set_option maxRecDepth 20000 in
set_option maxRecDepth 20000 in
set_option maxRecDepth 20000 in
set_option maxRecDepth 20000 in
set_option maxRecDepth 20000 in
set_option maxRecDepth 20000 in
set_option maxRecDepth 20000 in
set_option maxRecDepth 20000 in
set_option maxRecDepth 20000 in
set_option maxRecDepth 20000 in
set_option maxRecDepth 20000 in
set_option maxRecDepth 20000 in
set_option maxRecDepth 20000 in
set_option maxRecDepth 20000 in
set_option maxRecDepth 20000 in
set_option maxRecDepth 20000 in
set_option maxRecDepth 20000 in
set_option maxRecDepth 20000 in
set_option maxRecDepth 20000 in
set_option maxRecDepth 20000 in
set_option maxRecDepth 20000 in
set_option maxRecDepth 20000 in
set_option maxRecDepth 20000 in
set_option maxRecDepth 20000 in
set_option maxRecDepth 20000 in
set_option maxRecDepth 20000 in
set_option maxRecDepth 20000 in
set_option maxRecDepth 20000 in
set_option maxRecDepth 20000 in
set_option maxRecDepth 20000 in
set_option maxRecDepth 20000 in
set_option maxRecDepth 20000 in
set_option maxRecDepth 20000 in
set_option maxRecDepth 20000 in
set_option maxRecDepth 20000 in
set_option maxRecDepth 20000 in
set_option maxRecDepth 20000 in
set_option maxRecDepth 20000 in
set_option maxRecDepth 20000 in
set_option maxRecDepth 20000 in
set_option maxRecDepth 20000 in
set_option maxRecDepth 20000 in
set_option maxRecDepth 20000 in
set_option maxRecDepth 20000 in
set_option maxRecDepth 20000 in
set_option maxRecDepth 20000 in
set_option maxRecDepth 20000 in
set_option maxRecDepth 20000 in
set_option maxRecDepth 20000 in
set_option maxRecDepth 20000 in
set_option maxRecDepth 20000 in
set_option maxRecDepth 20000 in
set_option maxRecDepth 20000 in
set_option maxRecDepth 20000 in
set_option maxRecDepth 20000 in
set_option maxRecDepth 20000 in
set_option maxRecDepth 20000 in
set_option maxRecDepth 20000 in
set_option maxRecDepth 20000 in
set_option maxRecDepth 20000 in
set_option maxRecDepth 20000 in
set_option maxRecDepth 20000 in
set_option maxRecDepth 20000 in
set_option maxRecDepth 20000 in
set_option maxRecDepth 20000 in
set_option maxRecDepth 20000 in
set_option maxRecDepth 20000 in
set_option maxRecDepth 20000 in
set_option maxRecDepth 20000 in
set_option maxRecDepth 20000 in
set_option maxRecDepth 20000 in
set_option maxRecDepth 20000 in
set_option maxRecDepth 20000 in
set_option maxRecDepth 20000 in
set_option maxRecDepth 20000 in
set_option maxRecDepth 20000 in
set_option maxRecDepth 20000 in
set_option maxRecDepth 20000 in
set_option maxRecDepth 20000 in
set_option maxRecDepth 20000 in
set_option maxRecDepth 20000 in
set_option maxRecDepth 20000 in
set_option maxRecDepth 20000 in
set_option maxRecDepth 20000 in
set_option maxRecDepth 20000 in
set_option maxRecDepth 20000 in
set_option maxRecDepth 20000 in
set_option maxRecDepth 20000 in
set_option maxRecDepth 20000 in
set_option maxRecDepth 20000 in
set_option maxRecDepth 20000 in
set_option maxRecDepth 20000 in
set_option maxRecDepth 20000 in
set_option maxRecDepth 20000 in
set_option maxRecDepth 20000 in
set_option maxRecDepth 20000 in
set_option maxRecDepth 20000 in
set_option maxRecDepth 20000 in
set_option maxRecDepth 20000 in
set_option maxRecDepth 20000 in
set_option maxRecDepth 20000 in
set_option maxRecDepth 20000 in
set_option maxRecDepth 20000 in
set_option maxRecDepth 20000 in
set_option maxRecDepth 20000 in
set_option maxRecDepth 20000 in
set_option maxRecDepth 20000 in
set_option maxRecDepth 20000 in
set_option maxRecDepth 20000 in
set_option maxRecDepth 20000 in
set_option maxRecDepth 20000 in
set_option maxRecDepth 20000 in
set_option maxRecDepth 20000 in
set_option maxRecDepth 20000 in
set_option maxRecDepth 20000 in
set_option maxRecDepth 20000 in
set_option maxRecDepth 20000 in
set_option maxRecDepth 20000 in
set_option maxRecDepth 20000 in
set_option maxRecDepth 20000 in
set_option maxRecDepth 20000 in
set_option maxRecDepth 20000 in
set_option maxRecDepth 20000 in
set_option maxRecDepth 20000 in
set_option maxRecDepth 20000 in
set_option maxRecDepth 20000 in
set_option maxRecDepth 20000 in
set_option maxRecDepth 20000 in
set_option maxRecDepth 20000 in
set_option maxRecDepth 20000 in
set_option maxRecDepth 20000 in
set_option maxRecDepth 20000 in
set_option maxRecDepth 20000 in
set_option maxRecDepth 20000 in
set_option maxRecDepth 20000 in
set_option maxRecDepth 20000 in
set_option maxRecDepth 20000 in
set_option maxRecDepth 20000 in
set_option maxRecDepth 20000 in
set_option maxRecDepth 20000 in
set_option maxRecDepth 20000 in
set_option maxRecDepth 20000 in
set_option maxRecDepth 20000 in
set_option maxRecDepth 20000 in
set_option maxRecDepth 20000 in
set_option maxRecDepth 20000 in
set_option maxRecDepth 20000 in
set_option maxRecDepth 20000 in
set_option maxRecDepth 20000 in
set_option maxRecDepth 20000 in
set_option maxRecDepth 20000 in
set_option maxRecDepth 20000 in
set_option maxRecDepth 20000 in
set_option maxRecDepth 20000 in
set_option maxRecDepth 20000 in
set_option maxRecDepth 20000 in
set_option maxRecDepth 20000 in
set_option maxRecDepth 20000 in
set_option maxRecDepth 20000 in
set_option maxRecDepth 20000 in
set_option maxRecDepth 20000 in
set_option maxRecDepth 20000 in
set_option maxRecDepth 20000 in
set_option maxRecDepth 20000 in
set_option maxRecDepth 20000 in
set_option maxRecDepth 20000 in
set_option maxRecDepth 20000 in
set_option maxRecDepth 20000 in
set_option maxRecDepth 20000 in
set_option maxRecDepth 20000 in
set_option maxRecDepth 20000 in
set_option maxRecDepth 20000 in
set_option maxRecDepth 20000 in
set_option maxRecDepth 20000 in
set_option maxRecDepth 20000 in
set_option maxRecDepth 20000 in
set_option maxRecDepth 20000 in
set_option maxRecDepth 20000 in
set_option maxRecDepth 20000 in
set_option maxRecDepth 20000 in
set_option maxRecDepth 20000 in
set_option maxRecDepth 20000 in
set_option maxRecDepth 20000 in
set_option maxRecDepth 20000 in
set_option maxRecDepth 20000 in
set_option maxRecDepth 20000 in
set_option maxRecDepth 20000 in
set_option maxRecDepth 20000 in
set_option maxRecDepth 20000 in
set_option maxRecDepth 20000 in
set_option maxRecDepth 20000 in
set_option maxRecDepth 20000 in
set_option maxRecDepth 20000 in
set_option maxRecDepth 20000 in
set_option maxRecDepth 20000 in
set_option maxRecDepth 20000 in
set_option maxRecDepth 20000 in
set_option maxRecDepth 20000 in
set_option maxRecDepth 20000 in
set_option maxRecDepth 20000 in
set_option maxRecDepth 20000 in
set_option maxRecDepth 20000 in
set_option maxRecDepth 20000 in
set_option maxRecDepth 20000 in
set_option maxRecDepth 20000 in
set_option maxRecDepth 20000 in
set_option maxRecDepth 20000 in
set_option maxRecDepth 20000 in
set_option maxRecDepth 20000 in
set_option maxRecDepth 20000 in
set_option maxRecDepth 20000 in
set_option maxRecDepth 20000 in
set_option maxRecDepth 20000 in
set_option maxRecDepth 20000 in
set_option maxRecDepth 20000 in
set_option maxRecDepth 20000 in
set_option maxRecDepth 20000 in
set_option maxRecDepth 20000 in
set_option maxRecDepth 20000 in
set_option maxRecDepth 20000 in
set_option maxRecDepth 20000 in
set_option maxRecDepth 20000 in
set_option maxRecDepth 20000 in
set_option maxRecDepth 20000 in
set_option maxRecDepth 20000 in
set_option maxRecDepth 20000 in
set_option maxRecDepth 20000 in
set_option maxRecDepth 20000 in
set_option maxRecDepth 20000 in
set_option maxRecDepth 20000 in
set_option maxRecDepth 20000 in
set_option maxRecDepth 20000 in
set_option maxRecDepth 20000 in
set_option maxRecDepth 20000 in
set_option maxRecDepth 20000 in
set_option maxRecDepth 20000 in
set_option maxRecDepth 20000 in
set_option maxRecDepth 20000 in
set_option maxRecDepth 20000 in
set_option maxRecDepth 20000 in
set_option maxRecDepth 20000 in
set_option maxRecDepth 20000 in
set_option maxRecDepth 20000 in
set_option maxRecDepth 20000 in
set_option maxRecDepth 20000 in
set_option maxRecDepth 20000 in
set_option maxRecDepth 20000 in
set_option maxRecDepth 20000 in
set_option maxRecDepth 20000 in
set_option maxRecDepth 20000 in
set_option maxRecDepth 20000 in
set_option maxRecDepth 20000 in
set_option maxRecDepth 20000 in
set_option maxRecDepth 20000 in
set_option maxRecDepth 20000 in
set_option maxRecDepth 20000 in
set_option maxRecDepth 20000 in
set_option maxRecDepth 20000 in
set_option maxRecDepth 20000 in
set_option maxRecDepth 20000 in
set_option maxRecDepth 20000 in
set_option maxRecDepth 20000 in
set_option maxRecDepth 20000 in
set_option maxRecDepth 20000 in
set_option maxRecDepth 20000 in
set_option maxRecDepth 20000 in
set_option maxRecDepth 20000 in
set_option maxRecDepth 20000 in
set_option maxRecDepth 20000 in
set_option maxRecDepth 20000 in
set_option maxRecDepth 20000 in
set_option maxRecDepth 20000 in
set_option maxRecDepth 20000 in
set_option maxRecDepth 20000 in
set_option maxRecDepth 20000 in
set_option maxRecDepth 20000 in
set_option maxRecDepth 20000 in
set_option maxRecDepth 20000 in
set_option maxRecDepth 20000 in
set_option maxRecDepth 20000 in
set_option maxRecDepth 20000 in
set_option maxRecDepth 20000 in
set_option maxRecDepth 20000 in
set_option maxRecDepth 20000 in
set_option maxRecDepth 20000 in
set_option maxRecDepth 20000 in
set_option maxRecDepth 20000 in
set_option maxRecDepth 20000 in
set_option maxRecDepth 20000 in
set_option maxRecDepth 20000 in
set_option maxRecDepth 20000 in
set_option maxRecDepth 20000 in
set_option maxRecDepth 20000 in
set_option maxRecDepth 20000 in
set_option maxRecDepth 20000 in
set_option maxRecDepth 20000 in
set_option maxRecDepth 20000 in
set_option maxRecDepth 20000 in
set_option maxRecDepth 20000 in
set_option maxRecDepth 20000 in
set_option maxRecDepth 20000 in
set_option maxRecDepth 20000 in
set_option maxRecDepth 20000 in
set_option maxRecDepth 20000 in
set_option maxRecDepth 20000 in
set_option maxRecDepth 20000 in
set_option maxRecDepth 20000 in
set_option maxRecDepth 20000 in
set_option maxRecDepth 20000 in
set_option maxRecDepth 20000 in
set_option maxRecDepth 20000 in
set_option maxRecDepth 20000 in
set_option maxRecDepth 20000 in
set_option maxRecDepth 20000 in
set_option maxRecDepth 20000 in
set_option maxRecDepth 20000 in
set_option maxRecDepth 20000 in
set_option maxRecDepth 20000 in
set_option maxRecDepth 20000 in
set_option maxRecDepth 20000 in
set_option maxRecDepth 20000 in
set_option maxRecDepth 20000 in
set_option maxRecDepth 20000 in
set_option maxRecDepth 20000 in
set_option maxRecDepth 20000 in
set_option maxRecDepth 20000 in
set_option maxRecDepth 20000 in
set_option maxRecDepth 20000 in
set_option maxRecDepth 20000 in
set_option maxRecDepth 20000 in
set_option maxRecDepth 20000 in
set_option maxRecDepth 20000 in
set_option maxRecDepth 20000 in
set_option maxRecDepth 20000 in
set_option maxRecDepth 20000 in
set_option maxRecDepth 20000 in
set_option maxRecDepth 20000 in
set_option maxRecDepth 20000 in
set_option maxRecDepth 20000 in
set_option maxRecDepth 20000 in
set_option maxRecDepth 20000 in
set_option maxRecDepth 20000 in
set_option maxRecDepth 20000 in
set_option maxRecDepth 20000 in
set_option maxRecDepth 20000 in
set_option maxRecDepth 20000 in
set_option maxRecDepth 20000 in
set_option maxRecDepth 20000 in
set_option maxRecDepth 20000 in
set_option maxRecDepth 20000 in
set_option maxRecDepth 20000 in
set_option maxRecDepth 20000 in
set_option maxRecDepth 20000 in
set_option maxRecDepth 20000 in
set_option maxRecDepth 20000 in
set_option maxRecDepth 20000 in
set_option maxRecDepth 20000 in
set_option maxRecDepth 20000 in
set_option maxRecDepth 20000 in
set_option maxRecDepth 20000 in
set_option maxRecDepth 20000 in
set_option maxRecDepth 20000 in
set_option maxRecDepth 20000 in
set_option maxRecDepth 20000 in
set_option maxRecDepth 20000 in
set_option maxRecDepth 20000 in
set_option maxRecDepth 20000 in
set_option maxRecDepth 20000 in
set_option maxRecDepth 20000 in
set_option maxRecDepth 20000 in
set_option maxRecDepth 20000 in
set_option maxRecDepth 20000 in
set_option maxRecDepth 20000 in
set_option maxRecDepth 20000 in
set_option maxRecDepth 20000 in
set_option maxRecDepth 20000 in
set_option maxRecDepth 20000 in
set_option maxRecDepth 20000 in
set_option maxRecDepth 20000 in
set_option maxRecDepth 20000 in
set_option maxRecDepth 20000 in
set_option maxRecDepth 20000 in
set_option maxRecDepth 20000 in
set_option maxRecDepth 20000 in
set_option maxRecDepth 20000 in
set_option maxRecDepth 20000 in
set_option maxRecDepth 20000 in
set_option maxRecDepth 20000 in
set_option maxRecDepth 20000 in
set_option maxRecDepth 20000 in
set_option maxRecDepth 20000 in
set_option maxRecDepth 20000 in
set_option maxRecDepth 20000 in
set_option maxRecDepth 20000 in
set_option maxRecDepth 20000 in
set_option maxRecDepth 20000 in
set_option maxRecDepth 20000 in
set_option maxRecDepth 20000 in
set_option maxRecDepth 20000 in
set_option maxRecDepth 20000 in
set_option maxRecDepth 20000 in
set_option maxRecDepth 20000 in
set_option maxRecDepth 20000 in
set_option maxRecDepth 20000 in
set_option maxRecDepth 20000 in
set_option maxRecDepth 20000 in
set_option maxRecDepth 20000 in
set_option maxRecDepth 20000 in
set_option maxRecDepth 20000 in
set_option maxRecDepth 20000 in
set_option maxRecDepth 20000 in
set_option maxRecDepth 20000 in
set_option maxRecDepth 20000 in
set_option maxRecDepth 20000 in
set_option maxRecDepth 20000 in
set_option maxRecDepth 20000 in
set_option maxRecDepth 20000 in
set_option maxRecDepth 20000 in
set_option maxRecDepth 20000 in
set_option maxRecDepth 20000 in
set_option maxRecDepth 20000 in
set_option maxRecDepth 20000 in
set_option maxRecDepth 20000 in
set_option maxRecDepth 20000 in
set_option maxRecDepth 20000 in
set_option maxRecDepth 20000 in
set_option maxRecDepth 20000 in
set_option maxRecDepth 20000 in
set_option maxRecDepth 20000 in
set_option maxRecDepth 20000 in
set_option maxRecDepth 20000 in
set_option maxRecDepth 20000 in
set_option maxRecDepth 20000 in
set_option maxRecDepth 20000 in
set_option maxRecDepth 20000 in
set_option maxRecDepth 20000 in
set_option maxRecDepth 20000 in
set_option maxRecDepth 20000 in
set_option maxRecDepth 20000 in
set_option maxRecDepth 20000 in
set_option maxRecDepth 20000 in
set_option maxRecDepth 20000 in
set_option maxRecDepth 20000 in
set_option maxRecDepth 20000 in
set_option maxRecDepth 20000 in
set_option maxRecDepth 20000 in
set_option maxRecDepth 20000 in
set_option maxRecDepth 20000 in
set_option maxRecDepth 20000 in
set_option maxRecDepth 20000 in
set_option maxRecDepth 20000 in
set_option maxRecDepth 20000 in
set_option maxRecDepth 20000 in
set_option maxRecDepth 20000 in
set_option maxRecDepth 20000 in
set_option maxRecDepth 20000 in
set_option maxRecDepth 20000 in
set_option maxRecDepth 20000 in
set_option maxRecDepth 20000 in
set_option maxRecDepth 20000 in
set_option maxRecDepth 20000 in
set_option maxRecDepth 20000 in
set_option maxRecDepth 20000 in
set_option maxRecDepth 20000 in
set_option maxRecDepth 20000 in
set_option maxRecDepth 20000 in
set_option maxRecDepth 20000 in
set_option maxRecDepth 20000 in
set_option maxRecDepth 20000 in
set_option maxRecDepth 20000 in
set_option maxRecDepth 20000 in
set_option maxRecDepth 20000 in
set_option maxRecDepth 20000 in
set_option maxRecDepth 20000 in
set_option maxRecDepth 20000 in
set_option maxRecDepth 20000 in
set_option maxRecDepth 20000 in
set_option maxRecDepth 20000 in
set_option maxRecDepth 20000 in
set_option maxRecDepth 20000 in
set_option maxRecDepth 20000 in
set_option maxRecDepth 20000 in
set_option maxRecDepth 20000 in
set_option maxRecDepth 20000 in
set_option maxRecDepth 20000 in
set_option maxRecDepth 20000 in
set_option maxRecDepth 20000 in
set_option maxRecDepth 20000 in
set_option maxRecDepth 20000 in
set_option maxRecDepth 20000 in
set_option maxRecDepth 20000 in
set_option maxRecDepth 20000 in
set_option maxRecDepth 20000 in
set_option maxRecDepth 20000 in
set_option maxRecDepth 20000 in
set_option maxRecDepth 20000 in
set_option maxRecDepth 20000 in
set_option maxRecDepth 20000 in
set_option maxRecDepth 20000 in
set_option maxRecDepth 20000 in
set_option maxRecDepth 20000 in
set_option maxRecDepth 20000 in
set_option maxRecDepth 20000 in
set_option maxRecDepth 20000 in
set_option maxRecDepth 20000 in
set_option maxRecDepth 20000 in
set_option maxRecDepth 20000 in
set_option maxRecDepth 20000 in
set_option maxRecDepth 20000 in
set_option maxRecDepth 20000 in
set_option maxRecDepth 20000 in
set_option maxRecDepth 20000 in
set_option maxRecDepth 20000 in
set_option maxRecDepth 20000 in
set_option maxRecDepth 20000 in
set_option maxRecDepth 20000 in
set_option maxRecDepth 20000 in
set_option maxRecDepth 20000 in
set_option maxRecDepth 20000 in
set_option maxRecDepth 20000 in
set_option maxRecDepth 20000 in
set_option maxRecDepth 20000 in
set_option maxRecDepth 20000 in
set_option maxRecDepth 20000 in
set_option maxRecDepth 20000 in
set_option maxRecDepth 20000 in
set_option maxRecDepth 20000 in
set_option maxRecDepth 20000 in
set_option maxRecDepth 20000 in
set_option maxRecDepth 20000 in
set_option maxRecDepth 20000 in
set_option maxRecDepth 20000 in
set_option maxRecDepth 20000 in
set_option maxRecDepth 20000 in
set_option maxRecDepth 20000 in
set_option maxRecDepth 20000 in
set_option maxRecDepth 20000 in
set_option maxRecDepth 20000 in
set_option maxRecDepth 20000 in
set_option maxRecDepth 20000 in
set_option maxRecDepth 20000 in
set_option maxRecDepth 20000 in
set_option maxRecDepth 20000 in
set_option maxRecDepth 20000 in
set_option maxRecDepth 20000 in
set_option maxRecDepth 20000 in
set_option maxRecDepth 20000 in
set_option maxRecDepth 20000 in
set_option maxRecDepth 20000 in
set_option maxRecDepth 20000 in
set_option maxRecDepth 20000 in
set_option maxRecDepth 20000 in
set_option maxRecDepth 20000 in
set_option maxRecDepth 20000 in
set_option maxRecDepth 20000 in
set_option maxRecDepth 20000 in
set_option maxRecDepth 20000 in
set_option maxRecDepth 20000 in
set_option maxRecDepth 20000 in
set_option maxRecDepth 20000 in
set_option maxRecDepth 20000 in
set_option maxRecDepth 20000 in
set_option maxRecDepth 20000 in
set_option maxRecDepth 20000 in
set_option maxRecDepth 20000 in
set_option maxRecDepth 20000 in
set_option maxRecDepth 20000 in
set_option maxRecDepth 20000 in
set_option maxRecDepth 20000 in
set_option maxRecDepth 20000 in
set_option maxRecDepth 20000 in
set_option maxRecDepth 20000 in
set_option maxRecDepth 20000 in
set_option maxRecDepth 20000 in
set_option maxRecDepth 20000 in
set_option maxRecDepth 20000 in
set_option maxRecDepth 20000 in
set_option maxRecDepth 20000 in
set_option maxRecDepth 20000 in
set_option maxRecDepth 20000 in
set_option maxRecDepth 20000 in
set_option maxRecDepth 20000 in
set_option maxRecDepth 20000 in
set_option maxRecDepth 20000 in
set_option maxRecDepth 20000 in
set_option maxRecDepth 20000 in
set_option maxRecDepth 20000 in
set_option maxRecDepth 20000 in
set_option maxRecDepth 20000 in
set_option maxRecDepth 20000 in
set_option maxRecDepth 20000 in
set_option maxRecDepth 20000 in
set_option maxRecDepth 20000 in
set_option maxRecDepth 20000 in
set_option maxRecDepth 20000 in
set_option maxRecDepth 20000 in
set_option maxRecDepth 20000 in
set_option maxRecDepth 20000 in
set_option maxRecDepth 20000 in
set_option maxRecDepth 20000 in
set_option maxRecDepth 20000 in
set_option maxRecDepth 20000 in
set_option maxRecDepth 20000 in
set_option maxRecDepth 20000 in
set_option maxRecDepth 20000 in
set_option maxRecDepth 20000 in
set_option maxRecDepth 20000 in
set_option maxRecDepth 20000 in
set_option maxRecDepth 20000 in
set_option maxRecDepth 20000 in
set_option maxRecDepth 20000 in
set_option maxRecDepth 20000 in
set_option maxRecDepth 20000 in
set_option maxRecDepth 20000 in
set_option maxRecDepth 20000 in
set_option maxRecDepth 20000 in
set_option maxRecDepth 20000 in
set_option maxRecDepth 20000 in
set_option maxRecDepth 20000 in
set_option maxRecDepth 20000 in
set_option maxRecDepth 20000 in
set_option maxRecDepth 20000 in
set_option maxRecDepth 20000 in
set_option maxRecDepth 20000 in
set_option maxRecDepth 20000 in
set_option maxRecDepth 20000 in
set_option maxRecDepth 20000 in
set_option maxRecDepth 20000 in
set_option maxRecDepth 20000 in
set_option maxRecDepth 20000 in
set_option maxRecDepth 20000 in
set_option maxRecDepth 20000 in
set_option maxRecDepth 20000 in
set_option maxRecDepth 20000 in
set_option maxRecDepth 20000 in
set_option maxRecDepth 20000 in
set_option maxRecDepth 20000 in
set_option maxRecDepth 20000 in
set_option maxRecDepth 20000 in
set_option maxRecDepth 20000 in
set_option maxRecDepth 20000 in
set_option maxRecDepth 20000 in
set_option maxRecDepth 20000 in
set_option maxRecDepth 20000 in
set_option maxRecDepth 20000 in
set_option maxRecDepth 20000 in
set_option maxRecDepth 20000 in
set_option maxRecDepth 20000 in
set_option maxRecDepth 20000 in
set_option maxRecDepth 20000 in
set_option maxRecDepth 20000 in
set_option maxRecDepth 20000 in
set_option maxRecDepth 20000 in
set_option maxRecDepth 20000 in
set_option maxRecDepth 20000 in
set_option maxRecDepth 20000 in
set_option maxRecDepth 20000 in
set_option maxRecDepth 20000 in
set_option maxRecDepth 20000 in
set_option maxRecDepth 20000 in
set_option maxRecDepth 20000 in
set_option maxRecDepth 20000 in
set_option maxRecDepth 20000 in
set_option maxRecDepth 20000 in
set_option maxRecDepth 20000 in
set_option maxRecDepth 20000 in
set_option maxRecDepth 20000 in
set_option maxRecDepth 20000 in
set_option maxRecDepth 20000 in
set_option maxRecDepth 20000 in
set_option maxRecDepth 20000 in
set_option maxRecDepth 20000 in
set_option maxRecDepth 20000 in
set_option maxRecDepth 20000 in
set_option maxRecDepth 20000 in
set_option maxRecDepth 20000 in
set_option maxRecDepth 20000 in
set_option maxRecDepth 20000 in
set_option maxRecDepth 20000 in
set_option maxRecDepth 20000 in
set_option maxRecDepth 20000 in
set_option maxRecDepth 20000 in
set_option maxRecDepth 20000 in
set_option maxRecDepth 20000 in
set_option maxRecDepth 20000 in
set_option maxRecDepth 20000 in
set_option maxRecDepth 20000 in
set_option maxRecDepth 20000 in
set_option maxRecDepth 20000 in
set_option maxRecDepth 20000 in
set_option maxRecDepth 20000 in
set_option maxRecDepth 20000 in
set_option maxRecDepth 20000 in
set_option maxRecDepth 20000 in
set_option maxRecDepth 20000 in
set_option maxRecDepth 20000 in
set_option maxRecDepth 20000 in
set_option maxRecDepth 20000 in
set_option maxRecDepth 20000 in
set_option maxRecDepth 20000 in
set_option maxRecDepth 20000 in
set_option maxRecDepth 20000 in
set_option maxRecDepth 20000 in
set_option maxRecDepth 20000 in
set_option maxRecDepth 20000 in
set_option maxRecDepth 20000 in
set_option maxRecDepth 20000 in
set_option maxRecDepth 20000 in
set_option maxRecDepth 20000 in
set_option maxRecDepth 20000 in
set_option maxRecDepth 20000 in
set_option maxRecDepth 20000 in
set_option maxRecDepth 20000 in
set_option maxRecDepth 20000 in
set_option maxRecDepth 20000 in
set_option maxRecDepth 20000 in
set_option maxRecDepth 20000 in
set_option maxRecDepth 20000 in
set_option maxRecDepth 20000 in
set_option maxRecDepth 20000 in
set_option maxRecDepth 20000 in
set_option maxRecDepth 20000 in
set_option maxRecDepth 20000 in
set_option maxRecDepth 20000 in
set_option maxRecDepth 20000 in
set_option maxRecDepth 20000 in
set_option maxRecDepth 20000 in
set_option maxRecDepth 20000 in
set_option maxRecDepth 20000 in
set_option maxRecDepth 20000 in
set_option maxRecDepth 20000 in
set_option maxRecDepth 20000 in
set_option maxRecDepth 20000 in
set_option maxRecDepth 20000 in
set_option maxRecDepth 20000 in
set_option maxRecDepth 20000 in
set_option maxRecDepth 20000 in
set_option maxRecDepth 20000 in
set_option maxRecDepth 20000 in
set_option maxRecDepth 20000 in
set_option maxRecDepth 20000 in
set_option maxRecDepth 20000 in
set_option maxRecDepth 20000 in
set_option maxRecDepth 20000 in
set_option maxRecDepth 20000 in
set_option maxRecDepth 20000 in
set_option maxRecDepth 20000 in
set_option maxRecDepth 20000 in
set_option maxRecDepth 20000 in
set_option maxRecDepth 20000 in
set_option maxRecDepth 20000 in
set_option maxRecDepth 20000 in
set_option maxRecDepth 20000 in
set_option maxRecDepth 20000 in
set_option maxRecDepth 20000 in
set_option maxRecDepth 20000 in
set_option maxRecDepth 20000 in
set_option maxRecDepth 20000 in
set_option maxRecDepth 20000 in
set_option maxRecDepth 20000 in
set_option maxRecDepth 20000 in
set_option maxRecDepth 20000 in
set_option maxRecDepth 20000 in
set_option maxRecDepth 20000 in
set_option maxRecDepth 20000 in
set_option maxRecDepth 20000 in
set_option maxRecDepth 20000 in
set_option maxRecDepth 20000 in
set_option maxRecDepth 20000 in
set_option maxRecDepth 20000 in
set_option maxRecDepth 20000 in
set_option maxRecDepth 20000 in
set_option maxRecDepth 20000 in
set_option maxRecDepth 20000 in
set_option maxRecDepth 20000 in
set_option maxRecDepth 20000 in
set_option maxRecDepth 20000 in
set_option maxRecDepth 20000 in
set_option maxRecDepth 20000 in
set_option maxRecDepth 20000 in
set_option maxRecDepth 20000 in
set_option maxRecDepth 20000 in
set_option maxRecDepth 20000 in
set_option maxRecDepth 20000 in
set_option maxRecDepth 20000 in
set_option maxRecDepth 20000 in
set_option maxRecDepth 20000 in
set_option maxRecDepth 20000 in
set_option maxRecDepth 20000 in
set_option maxRecDepth 20000 in
set_option maxRecDepth 20000 in
set_option maxRecDepth 20000 in
set_option maxRecDepth 20000 in
abbrev vwCl : List vw_C := [(RJx4a65c, TJx4a65c, 3), (RX0, TX0, 18), (RX1, TX1, 7), (RX2, TX2, 5), (RX3, TX3, 17), (RX4, TX4, 7), (RX5, TX5, 7), (RX6, TX6, 6), (RX7, TX7, 5), (RX8, TX8, 5), (RX9, TX9, 5), (RX10, TX10, 1), (RX11, TX11, 61)]
