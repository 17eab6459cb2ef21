def RX0 : String := "GateMaze$History"
def TX0 : u_T := fun k => match k with
  | 0 => ("GateMaze$History", "saved", "[LGateMaze$State;", true)
  | _ => ("GateMaze$History", "size", "I", false)
def tyX0 : Nat → FieldType := fun k => match k with
  | 0 => .array (.object "GateMaze$State")
  | _ => .int
abbrev wsX00 : List Cond := u_ws RX0 TX0 2
theorem nmX0 : ∀ a, a < 2 → ∀ b, b < 2 → a ≠ b → (TX0 a).2.1 ≠ (TX0 b).2.1 := by decide +kernel
theorem tyX0_ok : ∀ k, k < 2 → parseFieldDescriptor (TX0 k).2.2.1 = some (tyX0 k) := by decide +kernel
abbrev cX0_init : ByteArray := prog_2_method_1_code
def yX0_init : MethodName := ⟨RX0, "<init>", "()V"⟩
abbrev cX0_keep : ByteArray := prog_2_method_2_code
def yX0_keep : MethodName := ⟨RX0, "keep", "(LGateMaze$State;)V"⟩
abbrev cX0_moveOldestToEnd : ByteArray := prog_2_method_3_code
def yX0_moveOldestToEnd : MethodName := ⟨RX0, "moveOldestToEnd", "()V"⟩
def RX1 : String := "GateMaze$Primes"
def TX1 : u_T := fun k => match k with
  | 0 => ("GateMaze$Primes", "bad", "[J", true)
  | 1 => ("GateMaze$Primes", "codes", "[I", true)
  | 2 => ("GateMaze$Primes", "rows", "[J", true)
  | _ => ("GateMaze$Primes", "size", "I", false)
def tyX1 : Nat → FieldType := fun k => match k with
  | 0 => .array .long
  | 1 => .array .int
  | 2 => .array .long
  | _ => .int
abbrev wsX10 : List Cond := u_ws RX1 TX1 4
theorem nmX1 : ∀ a, a < 4 → ∀ b, b < 4 → a ≠ b → (TX1 a).2.1 ≠ (TX1 b).2.1 := by decide +kernel
theorem tyX1_ok : ∀ k, k < 4 → parseFieldDescriptor (TX1 k).2.2.1 = some (tyX1 k) := by decide +kernel
abbrev cX1_init : ByteArray := prog_3_method_1_code
def yX1_init : MethodName := ⟨RX1, "<init>", "()V"⟩
abbrev cX1_find : ByteArray := prog_3_method_2_code
def yX1_find : MethodName := ⟨RX1, "find", "(IIJ)V"⟩
abbrev cX1_findBad : ByteArray := prog_3_method_3_code
def yX1_findBad : MethodName := ⟨RX1, "findBad", "(IJ)V"⟩
abbrev cX1_badWith : ByteArray := prog_3_method_4_code
def yX1_badWith : MethodName := ⟨RX1, "badWith", "(I)J"⟩
abbrev cX1_addWith : ByteArray := prog_3_method_5_code
def yX1_addWith : MethodName := ⟨RX1, "addWith", "(II)V"⟩
abbrev cX1_bestFor : ByteArray := prog_3_method_6_code
def yX1_bestFor : MethodName := ⟨RX1, "bestFor", "(J)I"⟩
def RX2 : String := "GateMaze$Rows"
abbrev cX2_inputSet : ByteArray := prog_4_method_2_code
def yX2_inputSet : MethodName := ⟨RX2, "inputSet", "(I)I"⟩
abbrev cX2_ofInputs : ByteArray := prog_4_method_3_code
def yX2_ofInputs : MethodName := ⟨RX2, "ofInputs", "(I)J"⟩
abbrev cX2_alikeTo : ByteArray := prog_4_method_4_code
def yX2_alikeTo : MethodName := ⟨RX2, "alikeTo", "(JI)J"⟩
abbrev cX2_inProduct : ByteArray := prog_4_method_5_code
def yX2_inProduct : MethodName := ⟨RX2, "inProduct", "(III)J"⟩
def RX3 : String := "GateMaze$State"
def TX3 : u_T := fun k => match k with
  | 0 => ("GateMaze$State", "inputs", "I", false)
  | 1 => ("GateMaze$State", "remembered", "I", false)
  | 2 => ("GateMaze$State", "asks", "I", false)
  | 3 => ("GateMaze$State", "hours", "I", false)
  | 4 => ("GateMaze$State", "zeros", "[J", true)
  | 5 => ("GateMaze$State", "ones", "[J", true)
  | 6 => ("GateMaze$State", "alarms", "[I", true)
  | _ => ("GateMaze$State", "faults", "[I", true)
def tyX3 : Nat → FieldType := fun k => match k with
  | 0 => .int
  | 1 => .int
  | 2 => .int
  | 3 => .int
  | 4 => .array .long
  | 5 => .array .long
  | 6 => .array .int
  | _ => .array .int
abbrev wsX30 : List Cond := u_ws RX3 TX3 8
theorem nmX3 : ∀ a, a < 8 → ∀ b, b < 8 → a ≠ b → (TX3 a).2.1 ≠ (TX3 b).2.1 := by decide +kernel
theorem tyX3_ok : ∀ k, k < 8 → parseFieldDescriptor (TX3 k).2.2.1 = some (tyX3 k) := by decide +kernel
abbrev cX3_init : ByteArray := prog_5_method_1_code
def yX3_init : MethodName := ⟨RX3, "<init>", "()V"⟩
abbrev cX3_restart : ByteArray := prog_5_method_2_code
def yX3_restart : MethodName := ⟨RX3, "restart", "(I)V"⟩
abbrev cX3_copyFrom : ByteArray := prog_5_method_3_code
def yX3_copyFrom : MethodName := ⟨RX3, "copyFrom", "(LGateMaze$State;)V"⟩
abbrev cX3_sum : ByteArray := prog_5_method_4_code
def yX3_sum : MethodName := ⟨RX3, "sum", "([I)I"⟩
abbrev cX3_rowCount : ByteArray := prog_5_method_5_code
def yX3_rowCount : MethodName := ⟨RX3, "rowCount", "()I"⟩
abbrev cX3_forgotten : ByteArray := prog_5_method_6_code
def yX3_forgotten : MethodName := ⟨RX3, "forgotten", "()I"⟩
abbrev cX3_remembers : ByteArray := prog_5_method_7_code
def yX3_remembers : MethodName := ⟨RX3, "remembers", "(I)Z"⟩
abbrev cX3_zerosOf : ByteArray := prog_5_method_8_code
def yX3_zerosOf : MethodName := ⟨RX3, "zerosOf", "(I)J"⟩
abbrev cX3_onesOf : ByteArray := prog_5_method_9_code
def yX3_onesOf : MethodName := ⟨RX3, "onesOf", "(I)J"⟩
abbrev cX3_alarmsOf : ByteArray := prog_5_method_10_code
def yX3_alarmsOf : MethodName := ⟨RX3, "alarmsOf", "(I)I"⟩
abbrev cX3_faultsOf : ByteArray := prog_5_method_11_code
def yX3_faultsOf : MethodName := ⟨RX3, "faultsOf", "(I)I"⟩
abbrev cX3_truthAt : ByteArray := prog_5_method_12_code
def yX3_truthAt : MethodName := ⟨RX3, "truthAt", "(II)I"⟩
abbrev cX3_give : ByteArray := prog_5_method_13_code
def yX3_give : MethodName := ⟨RX3, "give", "(IJI)V"⟩
abbrev cX3_turnAround : ByteArray := prog_5_method_14_code
def yX3_turnAround : MethodName := ⟨RX3, "turnAround", "(I)V"⟩
abbrev cX3_takeIn : ByteArray := prog_5_method_15_code
def yX3_takeIn : MethodName := ⟨RX3, "takeIn", "(II)V"⟩
abbrev cX3_undecidedPairs : ByteArray := prog_5_method_16_code
def yX3_undecidedPairs : MethodName := ⟨RX3, "undecidedPairs", "(I)I"⟩
abbrev cX3_leastMissed : ByteArray := prog_5_method_17_code
def yX3_leastMissed : MethodName := ⟨RX3, "leastMissed", "()I"⟩
def RX4 : String := "GateMaze$TableText"
def TX4 : u_T := fun k => match k with
  | 0 => ("GateMaze$TableText", "codes", "[I", true)
  | _ => ("GateMaze$TableText", "length", "I", false)
def tyX4 : Nat → FieldType := fun k => match k with
  | 0 => .array .int
  | _ => .int
abbrev wsX40 : List Cond := u_ws RX4 TX4 2
theorem nmX4 : ∀ a, a < 2 → ∀ b, b < 2 → a ≠ b → (TX4 a).2.1 ≠ (TX4 b).2.1 := by decide +kernel
theorem tyX4_ok : ∀ k, k < 2 → parseFieldDescriptor (TX4 k).2.2.1 = some (tyX4 k) := by decide +kernel
abbrev cX4_init : ByteArray := prog_6_method_1_code
def yX4_init : MethodName := ⟨RX4, "<init>", "()V"⟩
def RX5 : String := "GateMaze$View"
def TX5 : u_T := fun k => match k with
  | 0 => ("GateMaze$View", "inputs", "I", false)
  | 1 => ("GateMaze$View", "undecidedPairs", "I", false)
  | 2 => ("GateMaze$View", "parts", "I", false)
  | 3 => ("GateMaze$View", "sharedParts", "I", false)
  | 4 => ("GateMaze$View", "partCares", "I", false)
  | 5 => ("GateMaze$View", "zeros", "[J", true)
  | 6 => ("GateMaze$View", "ones", "[J", true)
  | 7 => ("GateMaze$View", "undecided", "[J", true)
  | 8 => ("GateMaze$View", "answers", "[J", true)
  | 9 => ("GateMaze$View", "primeCounts", "[I", true)
  | 10 => ("GateMaze$View", "sizes", "[I", true)
  | _ => ("GateMaze$View", "codes", "[I", true)
def tyX5 : Nat → FieldType := fun k => match k with
  | 0 => .int
  | 1 => .int
  | 2 => .int
  | 3 => .int
  | 4 => .int
  | 5 => .array .long
  | 6 => .array .long
  | 7 => .array .long
  | 8 => .array .long
  | 9 => .array .int
  | 10 => .array .int
  | _ => .array .int
abbrev wsX50 : List Cond := u_ws RX5 TX5 12
theorem nmX5 : ∀ a, a < 12 → ∀ b, b < 12 → a ≠ b → (TX5 a).2.1 ≠ (TX5 b).2.1 := by decide +kernel
theorem tyX5_ok : ∀ k, k < 12 → parseFieldDescriptor (TX5 k).2.2.1 = some (tyX5 k) := by decide +kernel
abbrev cX5_init : ByteArray := prog_7_method_1_code
def yX5_init : MethodName := ⟨RX5, "<init>", "()V"⟩
abbrev cX5_look : ByteArray := prog_7_method_2_code
def yX5_look : MethodName := ⟨RX5, "look", "(LGateMaze$State;ILGateMaze$Primes;)V"⟩
abbrev cX5_coverWith : ByteArray := prog_7_method_3_code
def yX5_coverWith : MethodName := ⟨RX5, "coverWith", "(LGateMaze$Primes;I)V"⟩
abbrev cX5_countParts : ByteArray := prog_7_method_4_code
def yX5_countParts : MethodName := ⟨RX5, "countParts", "()V"⟩
abbrev cX5_holdersOf : ByteArray := prog_7_method_5_code
def yX5_holdersOf : MethodName := ⟨RX5, "holdersOf", "(I)I"⟩
abbrev cX5_sizeOf : ByteArray := prog_7_method_6_code
def yX5_sizeOf : MethodName := ⟨RX5, "sizeOf", "(I)I"⟩
abbrev cX5_answersOf : ByteArray := prog_7_method_8_code
def yX5_answersOf : MethodName := ⟨RX5, "answersOf", "(I)J"⟩
abbrev cX5_codeAt : ByteArray := prog_7_method_9_code
def yX5_codeAt : MethodName := ⟨RX5, "codeAt", "(II)I"⟩
abbrev cX5_decidedAt : ByteArray := prog_7_method_10_code
def yX5_decidedAt : MethodName := ⟨RX5, "decidedAt", "(II)I"⟩
abbrev cX5_answerAt : ByteArray := prog_7_method_11_code
def yX5_answerAt : MethodName := ⟨RX5, "answerAt", "(II)I"⟩
abbrev cX5_outputNumber : ByteArray := prog_7_method_12_code
def yX5_outputNumber : MethodName := ⟨RX5, "outputNumber", "(II)I"⟩
abbrev cX5_caresCounted : ByteArray := prog_7_method_13_code
def yX5_caresCounted : MethodName := ⟨RX5, "caresCounted", "(I)I"⟩
abbrev cX5_caresOfAny : ByteArray := prog_7_method_14_code
def yX5_caresOfAny : MethodName := ⟨RX5, "caresOfAny", "(I)I"⟩
abbrev cX5_productNumber : ByteArray := prog_7_method_15_code
def yX5_productNumber : MethodName := ⟨RX5, "productNumber", "(III)I"⟩
def RX6 : String := "GateMaze"
def TX6 : u_T := fun k => match k with
  | 0 => ("GateMaze", "state", "LGateMaze$State;", true)
  | 1 => ("GateMaze", "history", "LGateMaze$History;", true)
  | 2 => ("GateMaze", "text", "LGateMaze$TableText;", true)
  | 3 => ("GateMaze", "primes", "LGateMaze$Primes;", true)
  | 4 => ("GateMaze", "present", "LGateMaze$View;", true)
  | 5 => ("GateMaze", "imagined", "LGateMaze$View;", true)
  | _ => ("GateMaze", "presentIsOld", "Z", false)
def tyX6 : Nat → FieldType := fun k => match k with
  | 0 => .object "GateMaze$State"
  | 1 => .object "GateMaze$History"
  | 2 => .object "GateMaze$TableText"
  | 3 => .object "GateMaze$Primes"
  | 4 => .object "GateMaze$View"
  | 5 => .object "GateMaze$View"
  | _ => .boolean
abbrev wsX60 : List Cond := u_ws RX6 TX6 7
theorem nmX6 : ∀ a, a < 7 → ∀ b, b < 7 → a ≠ b → (TX6 a).2.1 ≠ (TX6 b).2.1 := by decide +kernel
theorem tyX6_ok : ∀ k, k < 7 → parseFieldDescriptor (TX6 k).2.2.1 = some (tyX6 k) := by decide +kernel
abbrev cX6_init : ByteArray := prog_1_method_1_code
def yX6_init : MethodName := ⟨RX6, "<init>", "()V"⟩
abbrev cX6_begin : ByteArray := prog_1_method_2_code
def yX6_begin : MethodName := ⟨RX6, "begin", "(I)I"⟩
abbrev cX6_set : ByteArray := prog_1_method_3_code
def yX6_set : MethodName := ⟨RX6, "set", "(III)I"⟩
abbrev cX6_invert : ByteArray := prog_1_method_4_code
def yX6_invert : MethodName := ⟨RX6, "invert", "(I)I"⟩
abbrev cX6_join : ByteArray := prog_1_method_5_code
def yX6_join : MethodName := ⟨RX6, "join", "(II)I"⟩
abbrev cX6_forget : ByteArray := prog_1_method_6_code
def yX6_forget : MethodName := ⟨RX6, "forget", "(I)I"⟩
abbrev cX6_remember : ByteArray := prog_1_method_7_code
def yX6_remember : MethodName := ⟨RX6, "remember", "(I)I"⟩
abbrev cX6_pass : ByteArray := prog_1_method_8_code
def yX6_pass : MethodName := ⟨RX6, "pass", "(I)I"⟩
abbrev cX6_ask : ByteArray := prog_1_method_9_code
def yX6_ask : MethodName := ⟨RX6, "ask", "(I)I"⟩
abbrev cX6_at : ByteArray := prog_1_method_15_code
def yX6_at : MethodName := ⟨RX6, "at", "(III)I"⟩
abbrev cX6_output : ByteArray := prog_1_method_16_code
def yX6_output : MethodName := ⟨RX6, "output", "(II)I"⟩
abbrev cX6_product : ByteArray := prog_1_method_17_code
def yX6_product : MethodName := ⟨RX6, "product", "(III)I"⟩
abbrev cX6_count : ByteArray := prog_1_method_18_code
def yX6_count : MethodName := ⟨RX6, "count", "(I)I"⟩
abbrev cX6_isOutput : ByteArray := prog_1_method_26_code
def yX6_isOutput : MethodName := ⟨RX6, "isOutput", "(I)Z"⟩
abbrev cX6_checkOutput : ByteArray := prog_1_method_27_code
def yX6_checkOutput : MethodName := ⟨RX6, "checkOutput", "(I)V"⟩
abbrev cX6_checkRow : ByteArray := prog_1_method_28_code
def yX6_checkRow : MethodName := ⟨RX6, "checkRow", "(I)V"⟩
abbrev cX6_checkInput : ByteArray := prog_1_method_29_code
def yX6_checkInput : MethodName := ⟨RX6, "checkInput", "(I)V"⟩
abbrev cX6_checkRange : ByteArray := prog_1_method_30_code
def yX6_checkRange : MethodName := ⟨RX6, "checkRange", "(III)V"⟩
abbrev cX6_saveBeforeChange : ByteArray := prog_1_method_31_code
def yX6_saveBeforeChange : MethodName := ⟨RX6, "saveBeforeChange", "()V"⟩
abbrev cX6_viewOfPresent : ByteArray := prog_1_method_32_code
def yX6_viewOfPresent : MethodName := ⟨RX6, "viewOfPresent", "()LGateMaze$View;"⟩
abbrev cX6_rowNumber : ByteArray := prog_1_method_33_code
def yX6_rowNumber : MethodName := ⟨RX6, "rowNumber", "(LGateMaze$View;III)I"⟩
abbrev cX6_outputNumber : ByteArray := prog_1_method_34_code
def yX6_outputNumber : MethodName := ⟨RX6, "outputNumber", "(LGateMaze$View;II)I"⟩
abbrev cX6_mazeNumber : ByteArray := prog_1_method_35_code
def yX6_mazeNumber : MethodName := ⟨RX6, "mazeNumber", "(LGateMaze$View;I)I"⟩
def yX6_mixed : MethodName := ⟨RX6, "mixed", "(JJ)J"⟩
def RX7 : String := "GateMazeModel"
def TX7 : u_T := fun k => match k with
  | _ => ("", "", "", false)
def RJ6 : String := "java/lang/Integer"
abbrev cJ6_bitCount_0f7a4 : ByteArray := prog_14_method_49_code
def yJ6_bitCount_0f7a4 : MethodName := ⟨RJ6, "bitCount", "(I)I"⟩
def RJ13 : String := "java/lang/Long"
abbrev cJ13_bitCount_95d88 : ByteArray := prog_15_method_50_code
def yJ13_bitCount_95d88 : MethodName := ⟨RJ13, "bitCount", "(J)I"⟩
def wsX0_init : List Cond := .code yX0_init cX0_init 1 none :: ([.methodLink RX0 3 objectInit, .instanceMethod objectInit, .code objectInit ⟨#[0xb1]⟩ 1 none, .classLink RX0 9 RX3, .fieldLink RX0 11 "GateMaze$History" "saved" "[LGateMaze$State;"] ++ wsX00)
def wsX0_moveOldestToEnd : List Cond := .code yX0_moveOldestToEnd cX0_moveOldestToEnd 3 none :: ([.fieldLink RX0 11 "GateMaze$History" "saved" "[LGateMaze$State;"] ++ wsX00)
def wsX3_init : List Cond := .code yX3_init cX3_init 1 none :: ([.methodLink RX3 3 objectInit, .instanceMethod objectInit, .code objectInit ⟨#[0xb1]⟩ 1 none, .arrayClass .long, .fieldLink RX3 9 "GateMaze$State" "zeros" "[J", .fieldLink RX3 15 "GateMaze$State" "ones" "[J", .arrayClass .int, .fieldLink RX3 18 "GateMaze$State" "alarms" "[I", .fieldLink RX3 22 "GateMaze$State" "faults" "[I"] ++ wsX30)
def wsX3_copyFrom : List Cond := .code yX3_copyFrom cX3_copyFrom 3 none :: ([.fieldLink RX3 25 "GateMaze$State" "inputs" "I", .fieldLink RX3 35 "GateMaze$State" "remembered" "I", .fieldLink RX3 42 "GateMaze$State" "asks" "I", .fieldLink RX3 45 "GateMaze$State" "hours" "I", .fieldLink RX3 9 "GateMaze$State" "zeros" "[J", .fieldLink RX3 15 "GateMaze$State" "ones" "[J", .fieldLink RX3 18 "GateMaze$State" "alarms" "[I", .fieldLink RX3 22 "GateMaze$State" "faults" "[I"] ++ wsX30)
def wsX0_keep_r1 : List Cond := [Cond.fieldLink RX0 17 "GateMaze$History" "size" "I", Cond.fieldLink RX0 11 "GateMaze$History" "saved" "[LGateMaze$State;", Cond.classLink RX0 9 RX3, Cond.instantiable RX3 8, Cond.initialized RX3, Cond.methodLink RX0 21 yX0_moveOldestToEnd, Cond.instanceMethod yX0_moveOldestToEnd, Cond.selects RX0 yX0_moveOldestToEnd yX0_moveOldestToEnd, Cond.initialized RX0, Cond.code yX0_moveOldestToEnd cX0_moveOldestToEnd 3 none, Cond.instanceMethod yX3_init, Cond.code yX3_init cX3_init 1 none, Cond.methodLink RX3 3 objectInit, Cond.instanceMethod objectInit, Cond.code objectInit ⟨#[0xb1]⟩ 1 none, Cond.arrayClass .long, Cond.fieldLink RX3 9 "GateMaze$State" "zeros" "[J", Cond.fieldLink RX3 15 "GateMaze$State" "ones" "[J", Cond.arrayClass .int, Cond.fieldLink RX3 18 "GateMaze$State" "alarms" "[I", Cond.fieldLink RX3 22 "GateMaze$State" "faults" "[I", Cond.methodLink RX0 25 yX3_copyFrom, Cond.instanceMethod yX3_copyFrom, Cond.selects RX3 yX3_copyFrom yX3_copyFrom]
def wsX0_keep_r2 : List Cond := [Cond.code yX3_copyFrom cX3_copyFrom 3 none, Cond.fieldLink RX3 25 "GateMaze$State" "inputs" "I", Cond.fieldLink RX3 35 "GateMaze$State" "remembered" "I", Cond.fieldLink RX3 42 "GateMaze$State" "asks" "I", Cond.fieldLink RX3 45 "GateMaze$State" "hours" "I"]
def wsX0_keep : List Cond := .code yX0_keep cX0_keep 2 none :: ((wsX0_keep_r1 ++ wsX0_keep_r2) ++ wsX00 ++ wsX30)
def wsJ13_bitCount_95d88 : List Cond := .code yJ13_bitCount_95d88 cJ13_bitCount_95d88 2 (some .int) :: ([.constantLong RJ13 314 (6148914691236517205), .constantLong RJ13 316 (3689348814741910323), .constantLong RJ13 318 (1085102592571150095)])
def wsX1_init : List Cond := .code yX1_init cX1_init 1 none :: ([.methodLink RX1 3 objectInit, .instanceMethod objectInit, .code objectInit ⟨#[0xb1]⟩ 1 none, .arrayClass .long, .fieldLink RX1 9 "GateMaze$Primes" "bad" "[J", .arrayClass .int, .fieldLink RX1 15 "GateMaze$Primes" "codes" "[I", .fieldLink RX1 19 "GateMaze$Primes" "rows" "[J"] ++ wsX10)
def wsX1_badWith : List Cond := .code yX1_badWith cX1_badWith 2 (some .long) :: ([.fieldLink RX1 9 "GateMaze$Primes" "bad" "[J", .constantLong RX1 44 (-1)] ++ wsX10)
def wsX2_alikeTo : List Cond := .code yX2_alikeTo cX2_alikeTo 9 (some .long) :: ([.fieldLink RX2 11 "GateMaze$Rows" "WITH_INPUT" "[J", .constantLong RX2 9 (-1)])
def wsX1_findBad : List Cond := .code yX1_findBad cX1_findBad 7 none :: ([.fieldLink RX1 9 "GateMaze$Primes" "bad" "[J", .methodLink RX1 34 yX1_badWith, .instanceMethod yX1_badWith, .selects RX1 yX1_badWith yX1_badWith, .initialized RX1, .code yX1_badWith cX1_badWith 2 (some .long), .constantLong RX1 44 (-1), .methodLink RX1 38 yX2_alikeTo, .static yX2_alikeTo, .initialized RX2, .code yX2_alikeTo cX2_alikeTo 9 (some .long), .fieldLink RX2 11 "GateMaze$Rows" "WITH_INPUT" "[J", .constantLong RX2 9 (-1)] ++ wsX10)
def wsX2_inputSet : List Cond := .code yX2_inputSet cX2_inputSet 1 (some .int) :: ([])
def wsX2_inProduct : List Cond := .code yX2_inProduct cX2_inProduct 3 (some .long) :: ([.methodLink RX2 17 yX2_inputSet, .static yX2_inputSet, .initialized RX2, .code yX2_inputSet cX2_inputSet 1 (some .int), .methodLink RX2 21 yX2_alikeTo, .static yX2_alikeTo, .code yX2_alikeTo cX2_alikeTo 9 (some .long), .fieldLink RX2 11 "GateMaze$Rows" "WITH_INPUT" "[J", .constantLong RX2 9 (-1)])
def wsX1_addWith : List Cond := .code yX1_addWith cX1_addWith 7 none :: ([.constantLong RX1 44 (-1), .fieldLink RX1 22 "GateMaze$Primes" "size" "I", .fieldLink RX1 15 "GateMaze$Primes" "codes" "[I", .fieldLink RX1 19 "GateMaze$Primes" "rows" "[J", .methodLink RX1 34 yX1_badWith, .instanceMethod yX1_badWith, .selects RX1 yX1_badWith yX1_badWith, .initialized RX1, .code yX1_badWith cX1_badWith 2 (some .long), .fieldLink RX1 9 "GateMaze$Primes" "bad" "[J", .methodLink RX1 46 yX2_inProduct, .static yX2_inProduct, .initialized RX2, .code yX2_inProduct cX2_inProduct 3 (some .long), .methodLink RX2 17 yX2_inputSet, .static yX2_inputSet, .code yX2_inputSet cX2_inputSet 1 (some .int), .methodLink RX2 21 yX2_alikeTo, .static yX2_alikeTo, .code yX2_alikeTo cX2_alikeTo 9 (some .long), .fieldLink RX2 11 "GateMaze$Rows" "WITH_INPUT" "[J", .constantLong RX2 9 (-1)] ++ wsX10)
def wsX1_find_r1 : List Cond := [Cond.fieldLink RX1 22 "GateMaze$Primes" "size" "I", Cond.methodLink RX1 26 yX1_findBad, Cond.instanceMethod yX1_findBad, Cond.selects RX1 yX1_findBad yX1_findBad, Cond.initialized RX1, Cond.code yX1_findBad cX1_findBad 7 none, Cond.fieldLink RX1 9 "GateMaze$Primes" "bad" "[J", Cond.methodLink RX1 34 yX1_badWith, Cond.instanceMethod yX1_badWith, Cond.selects RX1 yX1_badWith yX1_badWith, Cond.code yX1_badWith cX1_badWith 2 (some .long), Cond.constantLong RX1 44 (-1), Cond.methodLink RX1 38 yX2_alikeTo, Cond.static yX2_alikeTo, Cond.initialized RX2, Cond.code yX2_alikeTo cX2_alikeTo 9 (some .long), Cond.fieldLink RX2 11 "GateMaze$Rows" "WITH_INPUT" "[J", Cond.constantLong RX2 9 (-1), Cond.methodLink RX1 30 yX1_addWith, Cond.instanceMethod yX1_addWith, Cond.selects RX1 yX1_addWith yX1_addWith, Cond.code yX1_addWith cX1_addWith 7 none, Cond.fieldLink RX1 15 "GateMaze$Primes" "codes" "[I", Cond.fieldLink RX1 19 "GateMaze$Primes" "rows" "[J"]
def wsX1_find_r2 : List Cond := [Cond.methodLink RX1 46 yX2_inProduct, Cond.static yX2_inProduct, Cond.code yX2_inProduct cX2_inProduct 3 (some .long), Cond.methodLink RX2 17 yX2_inputSet, Cond.static yX2_inputSet, Cond.code yX2_inputSet cX2_inputSet 1 (some .int), Cond.methodLink RX2 21 yX2_alikeTo]
def wsX1_find : List Cond := .code yX1_find cX1_find 6 none :: ((wsX1_find_r1 ++ wsX1_find_r2) ++ wsX10)
def wsJ6_bitCount_0f7a4 : List Cond := .code yJ6_bitCount_0f7a4 cJ6_bitCount_0f7a4 1 (some .int) :: ([.constant RJ6 265 (1431655765), .constant RJ6 266 (858993459), .constant RJ6 267 (252645135)])
def wsX1_bestFor : List Cond := .code yX1_bestFor cX1_bestFor 9 (some .int) :: ([.fieldLink RX1 22 "GateMaze$Primes" "size" "I", .fieldLink RX1 19 "GateMaze$Primes" "rows" "[J", .fieldLink RX1 15 "GateMaze$Primes" "codes" "[I", .methodLink RX1 50 yJ13_bitCount_95d88, .static yJ13_bitCount_95d88, .initialized RJ13, .code yJ13_bitCount_95d88 cJ13_bitCount_95d88 2 (some .int), .constantLong RJ13 314 (6148914691236517205), .constantLong RJ13 316 (3689348814741910323), .constantLong RJ13 318 (1085102592571150095), .methodLink RX1 56 yJ6_bitCount_0f7a4, .static yJ6_bitCount_0f7a4, .initialized RJ6, .code yJ6_bitCount_0f7a4 cJ6_bitCount_0f7a4 1 (some .int), .constant RJ6 265 (1431655765), .constant RJ6 266 (858993459), .constant RJ6 267 (252645135)] ++ wsX10)
def wsX2_ofInputs : List Cond := .code yX2_ofInputs cX2_ofInputs 1 (some .long) :: ([.constantLong RX2 9 (-1)])
def wsX3_restart : List Cond := .code yX3_restart cX3_restart 3 none :: ([.fieldLink RX3 25 "GateMaze$State" "inputs" "I", .fieldLink RX3 35 "GateMaze$State" "remembered" "I", .fieldLink RX3 9 "GateMaze$State" "zeros" "[J", .fieldLink RX3 15 "GateMaze$State" "ones" "[J", .methodLink RX3 29 yX2_inputSet, .static yX2_inputSet, .initialized RX2, .code yX2_inputSet cX2_inputSet 1 (some .int), .methodLink RX3 38 yX2_ofInputs, .static yX2_ofInputs, .code yX2_ofInputs cX2_ofInputs 1 (some .long), .constantLong RX2 9 (-1)] ++ wsX30)
def wsX3_sum : List Cond := .code yX3_sum cX3_sum 6 (some .int) :: ([])
def wsX3_rowCount : List Cond := .code yX3_rowCount cX3_rowCount 1 (some .int) :: ([.fieldLink RX3 25 "GateMaze$State" "inputs" "I"] ++ wsX30)
def wsX3_forgotten : List Cond := .code yX3_forgotten cX3_forgotten 1 (some .int) :: ([.fieldLink RX3 25 "GateMaze$State" "inputs" "I", .fieldLink RX3 35 "GateMaze$State" "remembered" "I", .methodLink RX3 29 yX2_inputSet, .static yX2_inputSet, .initialized RX2, .code yX2_inputSet cX2_inputSet 1 (some .int)] ++ wsX30)
def wsX3_remembers : List Cond := .code yX3_remembers cX3_remembers 2 (some .boolean) :: ([.fieldLink RX3 35 "GateMaze$State" "remembered" "I"] ++ wsX30)
def wsX6_isOutput : List Cond := .code yX6_isOutput cX6_isOutput 1 (some .boolean) :: ([])
def wsX3_zerosOf : List Cond := .code yX3_zerosOf cX3_zerosOf 2 (some .long) :: ([.fieldLink RX3 9 "GateMaze$State" "zeros" "[J", .static yX6_isOutput, .initialized RX6, .code yX6_isOutput cX6_isOutput 1 (some .boolean)] ++ wsX30)
def wsX3_onesOf : List Cond := .code yX3_onesOf cX3_onesOf 2 (some .long) :: ([.fieldLink RX3 15 "GateMaze$State" "ones" "[J", .static yX6_isOutput, .initialized RX6, .code yX6_isOutput cX6_isOutput 1 (some .boolean)] ++ wsX30)
def wsX3_alarmsOf : List Cond := .code yX3_alarmsOf cX3_alarmsOf 2 (some .int) :: ([.fieldLink RX3 18 "GateMaze$State" "alarms" "[I", .static yX6_isOutput, .initialized RX6, .code yX6_isOutput cX6_isOutput 1 (some .boolean)] ++ wsX30)
def wsX3_faultsOf : List Cond := .code yX3_faultsOf cX3_faultsOf 2 (some .int) :: ([.fieldLink RX3 22 "GateMaze$State" "faults" "[I", .static yX6_isOutput, .initialized RX6, .code yX6_isOutput cX6_isOutput 1 (some .boolean)] ++ wsX30)
def wsX3_truthAt : List Cond := .code yX3_truthAt cX3_truthAt 3 (some .int) :: ([.methodLink RX3 52 yX3_onesOf, .instanceMethod yX3_onesOf, .selects RX3 yX3_onesOf yX3_onesOf, .initialized RX3, .code yX3_onesOf cX3_onesOf 2 (some .long), .fieldLink RX3 15 "GateMaze$State" "ones" "[J", .static yX6_isOutput, .initialized RX6, .code yX6_isOutput cX6_isOutput 1 (some .boolean), .methodLink RX3 55 yX3_zerosOf, .instanceMethod yX3_zerosOf, .selects RX3 yX3_zerosOf yX3_zerosOf, .code yX3_zerosOf cX3_zerosOf 2 (some .long), .fieldLink RX3 9 "GateMaze$State" "zeros" "[J"] ++ wsX30)
def wsX3_give : List Cond := .code yX3_give cX3_give 5 none :: ([.fieldLink RX3 9 "GateMaze$State" "zeros" "[J", .constantLong RX3 58 (-1), .fieldLink RX3 15 "GateMaze$State" "ones" "[J", .static yX6_isOutput, .initialized RX6, .code yX6_isOutput cX6_isOutput 1 (some .boolean)] ++ wsX30)
def wsX3_turnAround : List Cond := .code yX3_turnAround cX3_turnAround 4 none :: ([.fieldLink RX3 15 "GateMaze$State" "ones" "[J", .fieldLink RX3 9 "GateMaze$State" "zeros" "[J", .static yX6_isOutput, .initialized RX6, .code yX6_isOutput cX6_isOutput 1 (some .boolean)] ++ wsX30)
def wsX3_takeIn : List Cond := .code yX3_takeIn cX3_takeIn 3 none :: ([.fieldLink RX3 15 "GateMaze$State" "ones" "[J", .fieldLink RX3 9 "GateMaze$State" "zeros" "[J", .static yX6_isOutput, .initialized RX6, .code yX6_isOutput cX6_isOutput 1 (some .boolean), .methodLink RX3 52 yX3_onesOf, .instanceMethod yX3_onesOf, .selects RX3 yX3_onesOf yX3_onesOf, .initialized RX3, .code yX3_onesOf cX3_onesOf 2 (some .long), .methodLink RX3 55 yX3_zerosOf, .instanceMethod yX3_zerosOf, .selects RX3 yX3_zerosOf yX3_zerosOf, .code yX3_zerosOf cX3_zerosOf 2 (some .long)] ++ wsX30)
def wsX3_undecidedPairs : List Cond := .code yX3_undecidedPairs cX3_undecidedPairs 6 (some .int) :: ([.fieldLink RX3 15 "GateMaze$State" "ones" "[J", .fieldLink RX3 9 "GateMaze$State" "zeros" "[J", .methodLink RX3 60 yX2_alikeTo, .static yX2_alikeTo, .initialized RX2, .code yX2_alikeTo cX2_alikeTo 9 (some .long), .fieldLink RX2 11 "GateMaze$Rows" "WITH_INPUT" "[J", .constantLong RX2 9 (-1), .methodLink RX3 64 yJ13_bitCount_95d88, .static yJ13_bitCount_95d88, .initialized RJ13, .code yJ13_bitCount_95d88 cJ13_bitCount_95d88 2 (some .int), .constantLong RJ13 314 (6148914691236517205), .constantLong RJ13 316 (3689348814741910323), .constantLong RJ13 318 (1085102592571150095)] ++ wsX30)
def wsX3_leastMissed_r1 : List Cond := [Cond.fieldLink RX3 25 "GateMaze$State" "inputs" "I", Cond.methodLink RX3 70 yX3_remembers, Cond.instanceMethod yX3_remembers, Cond.selects RX3 yX3_remembers yX3_remembers, Cond.initialized RX3, Cond.code yX3_remembers cX3_remembers 2 (some .boolean), Cond.fieldLink RX3 35 "GateMaze$State" "remembered" "I", Cond.methodLink RX3 73 yX3_forgotten, Cond.instanceMethod yX3_forgotten, Cond.selects RX3 yX3_forgotten yX3_forgotten, Cond.code yX3_forgotten cX3_forgotten 1 (some .int), Cond.methodLink RX3 29 yX2_inputSet, Cond.static yX2_inputSet, Cond.initialized RX2, Cond.code yX2_inputSet cX2_inputSet 1 (some .int), Cond.methodLink RX3 77 yX3_undecidedPairs, Cond.instanceMethod yX3_undecidedPairs, Cond.selects RX3 yX3_undecidedPairs yX3_undecidedPairs, Cond.code yX3_undecidedPairs cX3_undecidedPairs 6 (some .int), Cond.fieldLink RX3 15 "GateMaze$State" "ones" "[J", Cond.fieldLink RX3 9 "GateMaze$State" "zeros" "[J", Cond.methodLink RX3 60 yX2_alikeTo, Cond.static yX2_alikeTo, Cond.code yX2_alikeTo cX2_alikeTo 9 (some .long)]
def wsX3_leastMissed_r2 : List Cond := [Cond.fieldLink RX2 11 "GateMaze$Rows" "WITH_INPUT" "[J", Cond.constantLong RX2 9 (-1), Cond.methodLink RX3 64 yJ13_bitCount_95d88, Cond.static yJ13_bitCount_95d88, Cond.initialized RJ13, Cond.code yJ13_bitCount_95d88 cJ13_bitCount_95d88 2 (some .int), Cond.constantLong RJ13 314 (6148914691236517205), Cond.constantLong RJ13 316 (3689348814741910323), Cond.constantLong RJ13 318 (1085102592571150095)]
def wsX3_leastMissed : List Cond := .code yX3_leastMissed cX3_leastMissed 5 (some .int) :: ((wsX3_leastMissed_r1 ++ wsX3_leastMissed_r2) ++ wsX30)
def wsX4_init : List Cond := .code yX4_init cX4_init 1 none :: ([.methodLink RX4 3 objectInit, .instanceMethod objectInit, .code objectInit ⟨#[0xb1]⟩ 1 none, .arrayClass .int, .fieldLink RX4 9 "GateMaze$TableText" "codes" "[I"] ++ wsX40)
def wsX5_init : List Cond := .code yX5_init cX5_init 1 none :: ([.methodLink RX5 3 objectInit, .instanceMethod objectInit, .code objectInit ⟨#[0xb1]⟩ 1 none, .arrayClass .long, .fieldLink RX5 9 "GateMaze$View" "zeros" "[J", .fieldLink RX5 15 "GateMaze$View" "ones" "[J", .fieldLink RX5 18 "GateMaze$View" "undecided" "[J", .fieldLink RX5 21 "GateMaze$View" "answers" "[J", .arrayClass .int, .fieldLink RX5 24 "GateMaze$View" "primeCounts" "[I", .fieldLink RX5 28 "GateMaze$View" "sizes" "[I", .fieldLink RX5 31 "GateMaze$View" "codes" "[I"] ++ wsX50)
def wsX5_coverWith_r1 : List Cond := [Cond.fieldLink RX5 15 "GateMaze$View" "ones" "[J", Cond.fieldLink RX5 31 "GateMaze$View" "codes" "[I", Cond.constantLong RX5 61 (-1), Cond.fieldLink RX5 21 "GateMaze$View" "answers" "[J", Cond.fieldLink RX5 28 "GateMaze$View" "sizes" "[I", Cond.static yX6_isOutput, Cond.initialized RX6, Cond.code yX6_isOutput cX6_isOutput 1 (some .boolean), Cond.methodLink RX5 89 yX1_bestFor, Cond.instanceMethod yX1_bestFor, Cond.selects RX1 yX1_bestFor yX1_bestFor, Cond.initialized RX1, Cond.code yX1_bestFor cX1_bestFor 9 (some .int), Cond.fieldLink RX1 22 "GateMaze$Primes" "size" "I", Cond.fieldLink RX1 19 "GateMaze$Primes" "rows" "[J", Cond.fieldLink RX1 15 "GateMaze$Primes" "codes" "[I", Cond.methodLink RX1 50 yJ13_bitCount_95d88, Cond.static yJ13_bitCount_95d88, Cond.initialized RJ13, Cond.code yJ13_bitCount_95d88 cJ13_bitCount_95d88 2 (some .int), Cond.constantLong RJ13 314 (6148914691236517205), Cond.constantLong RJ13 316 (3689348814741910323), Cond.constantLong RJ13 318 (1085102592571150095), Cond.methodLink RX1 56 yJ6_bitCount_0f7a4]
def wsX5_coverWith_r2 : List Cond := [Cond.static yJ6_bitCount_0f7a4, Cond.initialized RJ6, Cond.code yJ6_bitCount_0f7a4 cJ6_bitCount_0f7a4 1 (some .int), Cond.constant RJ6 265 (1431655765), Cond.constant RJ6 266 (858993459), Cond.constant RJ6 267 (252645135)]
def wsX5_coverWith : List Cond := .code yX5_coverWith cX5_coverWith 10 none :: ((wsX5_coverWith_r1 ++ wsX5_coverWith_r2) ++ wsX50 ++ wsX10)
def wsX5_holdersOf : List Cond := .code yX5_holdersOf cX5_holdersOf 5 (some .int) :: ([.fieldLink RX5 28 "GateMaze$View" "sizes" "[I", .fieldLink RX5 31 "GateMaze$View" "codes" "[I"] ++ wsX50)
def wsX5_countParts : List Cond := .code yX5_countParts cX5_countParts 6 none :: ([.fieldLink RX5 96 "GateMaze$View" "parts" "I", .fieldLink RX5 99 "GateMaze$View" "sharedParts" "I", .fieldLink RX5 102 "GateMaze$View" "partCares" "I", .fieldLink RX5 28 "GateMaze$View" "sizes" "[I", .fieldLink RX5 31 "GateMaze$View" "codes" "[I", .methodLink RX5 105 yX5_holdersOf, .instanceMethod yX5_holdersOf, .selects RX5 yX5_holdersOf yX5_holdersOf, .initialized RX5, .code yX5_holdersOf cX5_holdersOf 5 (some .int), .methodLink RX5 108 yJ6_bitCount_0f7a4, .static yJ6_bitCount_0f7a4, .initialized RJ6, .code yJ6_bitCount_0f7a4 cJ6_bitCount_0f7a4 1 (some .int), .constant RJ6 265 (1431655765), .constant RJ6 266 (858993459), .constant RJ6 267 (252645135)] ++ wsX50)
def wsX5_look_r1 : List Cond := [Cond.fieldLink RX5 40 "GateMaze$View" "inputs" "I", Cond.fieldLink RX5 41 "GateMaze$View" "undecidedPairs" "I", Cond.fieldLink RX5 9 "GateMaze$View" "zeros" "[J", Cond.constantLong RX5 61 (-1), Cond.fieldLink RX5 15 "GateMaze$View" "ones" "[J", Cond.fieldLink RX5 18 "GateMaze$View" "undecided" "[J", Cond.fieldLink RX5 24 "GateMaze$View" "primeCounts" "[I", Cond.methodLink RX5 44 yX2_inputSet, Cond.static yX2_inputSet, Cond.initialized RX2, Cond.code yX2_inputSet cX2_inputSet 1 (some .int), Cond.methodLink RX5 50 yX3_zerosOf, Cond.instanceMethod yX3_zerosOf, Cond.selects RX3 yX3_zerosOf yX3_zerosOf, Cond.initialized RX3, Cond.code yX3_zerosOf cX3_zerosOf 2 (some .long), Cond.fieldLink RX3 9 "GateMaze$State" "zeros" "[J", Cond.static yX6_isOutput, Cond.initialized RX6, Cond.code yX6_isOutput cX6_isOutput 1 (some .boolean), Cond.methodLink RX5 54 yX2_alikeTo, Cond.static yX2_alikeTo, Cond.code yX2_alikeTo cX2_alikeTo 9 (some .long), Cond.fieldLink RX2 11 "GateMaze$Rows" "WITH_INPUT" "[J"]
def wsX5_look_r2 : List Cond := [Cond.constantLong RX2 9 (-1), Cond.methodLink RX5 58 yX3_onesOf, Cond.instanceMethod yX3_onesOf, Cond.selects RX3 yX3_onesOf yX3_onesOf, Cond.code yX3_onesOf cX3_onesOf 2 (some .long), Cond.fieldLink RX3 15 "GateMaze$State" "ones" "[J", Cond.methodLink RX5 63 yJ13_bitCount_95d88, Cond.static yJ13_bitCount_95d88, Cond.initialized RJ13, Cond.code yJ13_bitCount_95d88 cJ13_bitCount_95d88 2 (some .int), Cond.constantLong RJ13 314 (6148914691236517205), Cond.constantLong RJ13 316 (3689348814741910323), Cond.constantLong RJ13 318 (1085102592571150095), Cond.methodLink RX5 69 yX1_find, Cond.instanceMethod yX1_find, Cond.selects RX1 yX1_find yX1_find, Cond.initialized RX1, Cond.code yX1_find cX1_find 6 none, Cond.fieldLink RX1 22 "GateMaze$Primes" "size" "I", Cond.methodLink RX1 26 yX1_findBad, Cond.instanceMethod yX1_findBad, Cond.selects RX1 yX1_findBad yX1_findBad, Cond.code yX1_findBad cX1_findBad 7 none, Cond.fieldLink RX1 9 "GateMaze$Primes" "bad" "[J"]
def wsX5_look_r3 : List Cond := [Cond.methodLink RX1 34 yX1_badWith, Cond.instanceMethod yX1_badWith, Cond.selects RX1 yX1_badWith yX1_badWith, Cond.code yX1_badWith cX1_badWith 2 (some .long), Cond.constantLong RX1 44 (-1), Cond.methodLink RX1 38 yX2_alikeTo, Cond.methodLink RX1 30 yX1_addWith, Cond.instanceMethod yX1_addWith, Cond.selects RX1 yX1_addWith yX1_addWith, Cond.code yX1_addWith cX1_addWith 7 none, Cond.fieldLink RX1 15 "GateMaze$Primes" "codes" "[I", Cond.fieldLink RX1 19 "GateMaze$Primes" "rows" "[J", Cond.methodLink RX1 46 yX2_inProduct, Cond.static yX2_inProduct, Cond.code yX2_inProduct cX2_inProduct 3 (some .long), Cond.methodLink RX2 17 yX2_inputSet, Cond.methodLink RX2 21 yX2_alikeTo, Cond.methodLink RX5 78 yX5_coverWith, Cond.instanceMethod yX5_coverWith, Cond.selects RX5 yX5_coverWith yX5_coverWith, Cond.initialized RX5, Cond.code yX5_coverWith cX5_coverWith 10 none, Cond.fieldLink RX5 31 "GateMaze$View" "codes" "[I", Cond.fieldLink RX5 21 "GateMaze$View" "answers" "[J"]
def wsX5_look_r4 : List Cond := [Cond.fieldLink RX5 28 "GateMaze$View" "sizes" "[I", Cond.methodLink RX5 89 yX1_bestFor, Cond.instanceMethod yX1_bestFor, Cond.selects RX1 yX1_bestFor yX1_bestFor, Cond.code yX1_bestFor cX1_bestFor 9 (some .int), Cond.methodLink RX1 50 yJ13_bitCount_95d88, Cond.methodLink RX1 56 yJ6_bitCount_0f7a4, Cond.static yJ6_bitCount_0f7a4, Cond.initialized RJ6, Cond.code yJ6_bitCount_0f7a4 cJ6_bitCount_0f7a4 1 (some .int), Cond.constant RJ6 265 (1431655765), Cond.constant RJ6 266 (858993459), Cond.constant RJ6 267 (252645135), Cond.methodLink RX5 82 yX5_countParts, Cond.instanceMethod yX5_countParts, Cond.selects RX5 yX5_countParts yX5_countParts, Cond.code yX5_countParts cX5_countParts 6 none, Cond.fieldLink RX5 96 "GateMaze$View" "parts" "I", Cond.fieldLink RX5 99 "GateMaze$View" "sharedParts" "I", Cond.fieldLink RX5 102 "GateMaze$View" "partCares" "I", Cond.methodLink RX5 105 yX5_holdersOf, Cond.instanceMethod yX5_holdersOf, Cond.selects RX5 yX5_holdersOf yX5_holdersOf, Cond.code yX5_holdersOf cX5_holdersOf 5 (some .int)]
def wsX5_look_r5 : List Cond := [Cond.methodLink RX5 108 yJ6_bitCount_0f7a4]
def wsX5_look : List Cond := .code yX5_look cX5_look 10 none :: ((wsX5_look_r1 ++ (wsX5_look_r2 ++ (wsX5_look_r3 ++ (wsX5_look_r4 ++ wsX5_look_r5)))) ++ wsX30 ++ wsX50 ++ wsX10)
def wsX5_sizeOf : List Cond := .code yX5_sizeOf cX5_sizeOf 2 (some .int) :: ([.fieldLink RX5 28 "GateMaze$View" "sizes" "[I", .static yX6_isOutput, .initialized RX6, .code yX6_isOutput cX6_isOutput 1 (some .boolean)] ++ wsX50)
def wsX5_answersOf : List Cond := .code yX5_answersOf cX5_answersOf 2 (some .long) :: ([.fieldLink RX5 21 "GateMaze$View" "answers" "[J", .static yX6_isOutput, .initialized RX6, .code yX6_isOutput cX6_isOutput 1 (some .boolean)] ++ wsX50)
def wsX5_codeAt : List Cond := .code yX5_codeAt cX5_codeAt 3 (some .int) :: ([.fieldLink RX5 28 "GateMaze$View" "sizes" "[I", .fieldLink RX5 31 "GateMaze$View" "codes" "[I", .static yX6_isOutput, .initialized RX6, .code yX6_isOutput cX6_isOutput 1 (some .boolean)] ++ wsX50)
def wsX5_decidedAt : List Cond := .code yX5_decidedAt cX5_decidedAt 3 (some .int) :: ([.fieldLink RX5 18 "GateMaze$View" "undecided" "[J", .fieldLink RX5 15 "GateMaze$View" "ones" "[J", .fieldLink RX5 9 "GateMaze$View" "zeros" "[J", .static yX6_isOutput, .initialized RX6, .code yX6_isOutput cX6_isOutput 1 (some .boolean)] ++ wsX50)
def wsX5_answerAt : List Cond := .code yX5_answerAt cX5_answerAt 3 (some .int) :: ([.methodLink RX5 112 yX5_answersOf, .instanceMethod yX5_answersOf, .selects RX5 yX5_answersOf yX5_answersOf, .initialized RX5, .code yX5_answersOf cX5_answersOf 2 (some .long), .fieldLink RX5 21 "GateMaze$View" "answers" "[J", .static yX6_isOutput, .initialized RX6, .code yX6_isOutput cX6_isOutput 1 (some .boolean)] ++ wsX50)
def wsX5_caresCounted : List Cond := .code yX5_caresCounted cX5_caresCounted 5 (some .int) :: ([.methodLink RX5 121 yX5_sizeOf, .instanceMethod yX5_sizeOf, .selects RX5 yX5_sizeOf yX5_sizeOf, .initialized RX5, .code yX5_sizeOf cX5_sizeOf 2 (some .int), .fieldLink RX5 28 "GateMaze$View" "sizes" "[I", .static yX6_isOutput, .initialized RX6, .code yX6_isOutput cX6_isOutput 1 (some .boolean), .methodLink RX5 124 yX5_codeAt, .instanceMethod yX5_codeAt, .selects RX5 yX5_codeAt yX5_codeAt, .code yX5_codeAt cX5_codeAt 3 (some .int), .fieldLink RX5 31 "GateMaze$View" "codes" "[I", .methodLink RX5 108 yJ6_bitCount_0f7a4, .static yJ6_bitCount_0f7a4, .initialized RJ6, .code yJ6_bitCount_0f7a4 cJ6_bitCount_0f7a4 1 (some .int), .constant RJ6 265 (1431655765), .constant RJ6 266 (858993459), .constant RJ6 267 (252645135)] ++ wsX50)
def wsX5_caresOfAny : List Cond := .code yX5_caresOfAny cX5_caresOfAny 5 (some .int) :: ([.methodLink RX5 121 yX5_sizeOf, .instanceMethod yX5_sizeOf, .selects RX5 yX5_sizeOf yX5_sizeOf, .initialized RX5, .code yX5_sizeOf cX5_sizeOf 2 (some .int), .fieldLink RX5 28 "GateMaze$View" "sizes" "[I", .static yX6_isOutput, .initialized RX6, .code yX6_isOutput cX6_isOutput 1 (some .boolean), .methodLink RX5 124 yX5_codeAt, .instanceMethod yX5_codeAt, .selects RX5 yX5_codeAt yX5_codeAt, .code yX5_codeAt cX5_codeAt 3 (some .int), .fieldLink RX5 31 "GateMaze$View" "codes" "[I"] ++ wsX50)
def wsX5_outputNumber_r1 : List Cond := [Cond.fieldLink RX5 15 "GateMaze$View" "ones" "[J", Cond.fieldLink RX5 40 "GateMaze$View" "inputs" "I", Cond.fieldLink RX5 9 "GateMaze$View" "zeros" "[J", Cond.fieldLink RX5 18 "GateMaze$View" "undecided" "[J", Cond.fieldLink RX5 24 "GateMaze$View" "primeCounts" "[I", Cond.fieldLink RX5 28 "GateMaze$View" "sizes" "[I", Cond.static yX6_isOutput, Cond.initialized RX6, Cond.code yX6_isOutput cX6_isOutput 1 (some .boolean), Cond.methodLink RX5 63 yJ13_bitCount_95d88, Cond.static yJ13_bitCount_95d88, Cond.initialized RJ13, Cond.code yJ13_bitCount_95d88 cJ13_bitCount_95d88 2 (some .int), Cond.constantLong RJ13 314 (6148914691236517205), Cond.constantLong RJ13 316 (3689348814741910323), Cond.constantLong RJ13 318 (1085102592571150095), Cond.methodLink RX5 115 yX5_caresCounted, Cond.instanceMethod yX5_caresCounted, Cond.selects RX5 yX5_caresCounted yX5_caresCounted, Cond.initialized RX5, Cond.code yX5_caresCounted cX5_caresCounted 5 (some .int), Cond.methodLink RX5 121 yX5_sizeOf, Cond.instanceMethod yX5_sizeOf, Cond.selects RX5 yX5_sizeOf yX5_sizeOf]
def wsX5_outputNumber_r2 : List Cond := [Cond.code yX5_sizeOf cX5_sizeOf 2 (some .int), Cond.methodLink RX5 124 yX5_codeAt, Cond.instanceMethod yX5_codeAt, Cond.selects RX5 yX5_codeAt yX5_codeAt, Cond.code yX5_codeAt cX5_codeAt 3 (some .int), Cond.fieldLink RX5 31 "GateMaze$View" "codes" "[I", Cond.methodLink RX5 108 yJ6_bitCount_0f7a4, Cond.static yJ6_bitCount_0f7a4, Cond.initialized RJ6, Cond.code yJ6_bitCount_0f7a4 cJ6_bitCount_0f7a4 1 (some .int), Cond.constant RJ6 265 (1431655765), Cond.constant RJ6 266 (858993459), Cond.constant RJ6 267 (252645135), Cond.methodLink RX5 118 yX5_caresOfAny, Cond.instanceMethod yX5_caresOfAny, Cond.selects RX5 yX5_caresOfAny yX5_caresOfAny, Cond.code yX5_caresOfAny cX5_caresOfAny 5 (some .int)]
def wsX5_outputNumber : List Cond := .code yX5_outputNumber cX5_outputNumber 3 (some .int) :: ((wsX5_outputNumber_r1 ++ wsX5_outputNumber_r2) ++ wsX50)
def wsX5_productNumber_r1 : List Cond := [Cond.fieldLink RX5 40 "GateMaze$View" "inputs" "I", Cond.methodLink RX5 124 yX5_codeAt, Cond.instanceMethod yX5_codeAt, Cond.selects RX5 yX5_codeAt yX5_codeAt, Cond.initialized RX5, Cond.code yX5_codeAt cX5_codeAt 3 (some .int), Cond.fieldLink RX5 28 "GateMaze$View" "sizes" "[I", Cond.fieldLink RX5 31 "GateMaze$View" "codes" "[I", Cond.static yX6_isOutput, Cond.initialized RX6, Cond.code yX6_isOutput cX6_isOutput 1 (some .boolean), Cond.methodLink RX5 128 yX2_inProduct, Cond.static yX2_inProduct, Cond.initialized RX2, Cond.code yX2_inProduct cX2_inProduct 3 (some .long), Cond.methodLink RX2 17 yX2_inputSet, Cond.static yX2_inputSet, Cond.code yX2_inputSet cX2_inputSet 1 (some .int), Cond.methodLink RX2 21 yX2_alikeTo, Cond.static yX2_alikeTo, Cond.code yX2_alikeTo cX2_alikeTo 9 (some .long), Cond.fieldLink RX2 11 "GateMaze$Rows" "WITH_INPUT" "[J", Cond.constantLong RX2 9 (-1), Cond.methodLink RX5 63 yJ13_bitCount_95d88]
def wsX5_productNumber_r2 : List Cond := [Cond.static yJ13_bitCount_95d88, Cond.initialized RJ13, Cond.code yJ13_bitCount_95d88 cJ13_bitCount_95d88 2 (some .int), Cond.constantLong RJ13 314 (6148914691236517205), Cond.constantLong RJ13 316 (3689348814741910323), Cond.constantLong RJ13 318 (1085102592571150095), Cond.methodLink RX5 105 yX5_holdersOf, Cond.instanceMethod yX5_holdersOf, Cond.selects RX5 yX5_holdersOf yX5_holdersOf, Cond.code yX5_holdersOf cX5_holdersOf 5 (some .int), Cond.methodLink RX5 108 yJ6_bitCount_0f7a4, Cond.static yJ6_bitCount_0f7a4, Cond.initialized RJ6, Cond.code yJ6_bitCount_0f7a4 cJ6_bitCount_0f7a4 1 (some .int), Cond.constant RJ6 265 (1431655765), Cond.constant RJ6 266 (858993459), Cond.constant RJ6 267 (252645135)]
def wsX5_productNumber : List Cond := .code yX5_productNumber cX5_productNumber 7 (some .int) :: ((wsX5_productNumber_r1 ++ wsX5_productNumber_r2) ++ wsX50)
def wsX6_init_r1 : List Cond := [Cond.methodLink RX6 1 objectInit, Cond.instanceMethod objectInit, Cond.code objectInit ⟨#[0xb1]⟩ 1 none, Cond.classLink RX6 7 RX3, Cond.instantiable RX3 8, Cond.initialized RX3, Cond.fieldLink RX6 10 "GateMaze" "state" "LGateMaze$State;", Cond.classLink RX6 16 RX0, Cond.instantiable RX0 2, Cond.initialized RX0, Cond.fieldLink RX6 19 "GateMaze" "history" "LGateMaze$History;", Cond.classLink RX6 23 RX4, Cond.instantiable RX4 2, Cond.initialized RX4, Cond.fieldLink RX6 26 "GateMaze" "text" "LGateMaze$TableText;", Cond.classLink RX6 30 RX1, Cond.instantiable RX1 4, Cond.initialized RX1, Cond.fieldLink RX6 33 "GateMaze" "primes" "LGateMaze$Primes;", Cond.classLink RX6 37 RX5, Cond.instantiable RX5 12, Cond.initialized RX5, Cond.fieldLink RX6 40 "GateMaze" "present" "LGateMaze$View;", Cond.fieldLink RX6 44 "GateMaze" "imagined" "LGateMaze$View;"]
def wsX6_init_r2 : List Cond := [Cond.fieldLink RX6 47 "GateMaze" "presentIsOld" "Z", Cond.instanceMethod yX3_init, Cond.code yX3_init cX3_init 1 none, Cond.methodLink RX3 3 objectInit, Cond.arrayClass .long, Cond.fieldLink RX3 9 "GateMaze$State" "zeros" "[J", Cond.fieldLink RX3 15 "GateMaze$State" "ones" "[J", Cond.arrayClass .int, Cond.fieldLink RX3 18 "GateMaze$State" "alarms" "[I", Cond.fieldLink RX3 22 "GateMaze$State" "faults" "[I", Cond.instanceMethod yX0_init, Cond.code yX0_init cX0_init 1 none, Cond.methodLink RX0 3 objectInit, Cond.classLink RX0 9 RX3, Cond.fieldLink RX0 11 "GateMaze$History" "saved" "[LGateMaze$State;", Cond.instanceMethod yX4_init, Cond.code yX4_init cX4_init 1 none, Cond.methodLink RX4 3 objectInit, Cond.fieldLink RX4 9 "GateMaze$TableText" "codes" "[I", Cond.instanceMethod yX1_init, Cond.code yX1_init cX1_init 1 none, Cond.methodLink RX1 3 objectInit, Cond.fieldLink RX1 9 "GateMaze$Primes" "bad" "[J", Cond.fieldLink RX1 15 "GateMaze$Primes" "codes" "[I"]
def wsX6_init_r3 : List Cond := [Cond.fieldLink RX1 19 "GateMaze$Primes" "rows" "[J", Cond.instanceMethod yX5_init, Cond.code yX5_init cX5_init 1 none, Cond.methodLink RX5 3 objectInit, Cond.fieldLink RX5 9 "GateMaze$View" "zeros" "[J", Cond.fieldLink RX5 15 "GateMaze$View" "ones" "[J", Cond.fieldLink RX5 18 "GateMaze$View" "undecided" "[J", Cond.fieldLink RX5 21 "GateMaze$View" "answers" "[J", Cond.fieldLink RX5 24 "GateMaze$View" "primeCounts" "[I", Cond.fieldLink RX5 28 "GateMaze$View" "sizes" "[I", Cond.fieldLink RX5 31 "GateMaze$View" "codes" "[I", Cond.methodLink RX6 51 yX3_restart, Cond.instanceMethod yX3_restart, Cond.selects RX3 yX3_restart yX3_restart, Cond.code yX3_restart cX3_restart 3 none, Cond.fieldLink RX3 25 "GateMaze$State" "inputs" "I", Cond.fieldLink RX3 35 "GateMaze$State" "remembered" "I", Cond.methodLink RX3 29 yX2_inputSet, Cond.static yX2_inputSet, Cond.initialized RX2, Cond.code yX2_inputSet cX2_inputSet 1 (some .int), Cond.methodLink RX3 38 yX2_ofInputs, Cond.static yX2_ofInputs, Cond.code yX2_ofInputs cX2_ofInputs 1 (some .long)]
def wsX6_init_r4 : List Cond := [Cond.constantLong RX2 9 (-1)]
def wsX6_init : List Cond := .code yX6_init cX6_init 1 none :: ((wsX6_init_r1 ++ (wsX6_init_r2 ++ (wsX6_init_r3 ++ wsX6_init_r4))) ++ wsX30 ++ wsX60 ++ wsX00 ++ wsX40 ++ wsX10 ++ wsX50)
def wsX6_checkRange : List Cond := .code yX6_checkRange cX6_checkRange 3 none :: ([.classLink RX6 93 "java/lang/IllegalArgumentException", .initialized "java/lang/IllegalArgumentException"] ++ (vx_atS RX6 97 "java/lang/IllegalArgumentException" ["java/lang/RuntimeException", "java/lang/Exception"]).filter goodWord)
def wsX6_saveBeforeChange_r1 : List Cond := [Cond.fieldLink RX6 19 "GateMaze" "history" "LGateMaze$History;", Cond.fieldLink RX6 10 "GateMaze" "state" "LGateMaze$State;", Cond.fieldLink RX6 47 "GateMaze" "presentIsOld" "Z", Cond.methodLink RX6 143 yX0_keep, Cond.instanceMethod yX0_keep, Cond.selects RX0 yX0_keep yX0_keep, Cond.initialized RX0, Cond.code yX0_keep cX0_keep 2 none, Cond.fieldLink RX0 17 "GateMaze$History" "size" "I", Cond.fieldLink RX0 11 "GateMaze$History" "saved" "[LGateMaze$State;", Cond.classLink RX0 9 RX3, Cond.instantiable RX3 8, Cond.initialized RX3, Cond.methodLink RX0 21 yX0_moveOldestToEnd, Cond.instanceMethod yX0_moveOldestToEnd, Cond.selects RX0 yX0_moveOldestToEnd yX0_moveOldestToEnd, Cond.code yX0_moveOldestToEnd cX0_moveOldestToEnd 3 none, Cond.instanceMethod yX3_init, Cond.code yX3_init cX3_init 1 none, Cond.methodLink RX3 3 objectInit, Cond.instanceMethod objectInit, Cond.code objectInit ⟨#[0xb1]⟩ 1 none, Cond.arrayClass .long, Cond.fieldLink RX3 9 "GateMaze$State" "zeros" "[J"]
def wsX6_saveBeforeChange_r2 : List Cond := [Cond.fieldLink RX3 15 "GateMaze$State" "ones" "[J", Cond.arrayClass .int, Cond.fieldLink RX3 18 "GateMaze$State" "alarms" "[I", Cond.fieldLink RX3 22 "GateMaze$State" "faults" "[I", Cond.methodLink RX0 25 yX3_copyFrom, Cond.instanceMethod yX3_copyFrom, Cond.selects RX3 yX3_copyFrom yX3_copyFrom, Cond.code yX3_copyFrom cX3_copyFrom 3 none, Cond.fieldLink RX3 25 "GateMaze$State" "inputs" "I", Cond.fieldLink RX3 35 "GateMaze$State" "remembered" "I", Cond.fieldLink RX3 42 "GateMaze$State" "asks" "I", Cond.fieldLink RX3 45 "GateMaze$State" "hours" "I"]
def wsX6_saveBeforeChange : List Cond := .code yX6_saveBeforeChange cX6_saveBeforeChange 1 none :: ((wsX6_saveBeforeChange_r1 ++ wsX6_saveBeforeChange_r2) ++ wsX60 ++ wsX00 ++ wsX30)
def wsX6_begin_r1 : List Cond := [Cond.fieldLink RX6 10 "GateMaze" "state" "LGateMaze$State;", Cond.methodLink RX6 55 yX6_checkRange, Cond.static yX6_checkRange, Cond.initialized RX6, Cond.code yX6_checkRange cX6_checkRange 3 none, Cond.classLink RX6 93 "java/lang/IllegalArgumentException", Cond.initialized "java/lang/IllegalArgumentException", Cond.methodLink RX6 63 yX6_saveBeforeChange, Cond.instanceMethod yX6_saveBeforeChange, Cond.selects RX6 yX6_saveBeforeChange yX6_saveBeforeChange, Cond.code yX6_saveBeforeChange cX6_saveBeforeChange 1 none, Cond.fieldLink RX6 19 "GateMaze" "history" "LGateMaze$History;", Cond.fieldLink RX6 47 "GateMaze" "presentIsOld" "Z", Cond.methodLink RX6 143 yX0_keep, Cond.instanceMethod yX0_keep, Cond.selects RX0 yX0_keep yX0_keep, Cond.initialized RX0, Cond.code yX0_keep cX0_keep 2 none, Cond.fieldLink RX0 17 "GateMaze$History" "size" "I", Cond.fieldLink RX0 11 "GateMaze$History" "saved" "[LGateMaze$State;", Cond.classLink RX0 9 RX3, Cond.instantiable RX3 8, Cond.initialized RX3, Cond.methodLink RX0 21 yX0_moveOldestToEnd]
def wsX6_begin_r2 : List Cond := [Cond.instanceMethod yX0_moveOldestToEnd, Cond.selects RX0 yX0_moveOldestToEnd yX0_moveOldestToEnd, Cond.code yX0_moveOldestToEnd cX0_moveOldestToEnd 3 none, Cond.instanceMethod yX3_init, Cond.code yX3_init cX3_init 1 none, Cond.methodLink RX3 3 objectInit, Cond.instanceMethod objectInit, Cond.code objectInit ⟨#[0xb1]⟩ 1 none, Cond.arrayClass .long, Cond.fieldLink RX3 9 "GateMaze$State" "zeros" "[J", Cond.fieldLink RX3 15 "GateMaze$State" "ones" "[J", Cond.arrayClass .int, Cond.fieldLink RX3 18 "GateMaze$State" "alarms" "[I", Cond.fieldLink RX3 22 "GateMaze$State" "faults" "[I", Cond.methodLink RX0 25 yX3_copyFrom, Cond.instanceMethod yX3_copyFrom, Cond.selects RX3 yX3_copyFrom yX3_copyFrom, Cond.code yX3_copyFrom cX3_copyFrom 3 none, Cond.fieldLink RX3 25 "GateMaze$State" "inputs" "I", Cond.fieldLink RX3 35 "GateMaze$State" "remembered" "I", Cond.fieldLink RX3 42 "GateMaze$State" "asks" "I", Cond.fieldLink RX3 45 "GateMaze$State" "hours" "I", Cond.methodLink RX6 51 yX3_restart, Cond.instanceMethod yX3_restart]
def wsX6_begin_r3 : List Cond := [Cond.selects RX3 yX3_restart yX3_restart, Cond.code yX3_restart cX3_restart 3 none, Cond.methodLink RX3 29 yX2_inputSet, Cond.static yX2_inputSet, Cond.initialized RX2, Cond.code yX2_inputSet cX2_inputSet 1 (some .int), Cond.methodLink RX3 38 yX2_ofInputs, Cond.static yX2_ofInputs, Cond.code yX2_ofInputs cX2_ofInputs 1 (some .long), Cond.constantLong RX2 9 (-1)]
def wsX6_begin : List Cond := .code yX6_begin cX6_begin 3 (some .int) :: ((wsX6_begin_r1 ++ (wsX6_begin_r2 ++ wsX6_begin_r3)) ++ wsX60 ++ wsX30 ++ wsX00 ++ (vx_atS RX6 97 "java/lang/IllegalArgumentException" ["java/lang/RuntimeException", "java/lang/Exception"]).filter goodWord)
def wsX6_checkOutput : List Cond := .code yX6_checkOutput cX6_checkOutput 1 none :: ([.classLink RX6 254 "java/lang/IndexOutOfBoundsException", .initialized "java/lang/IndexOutOfBoundsException", .methodLink RX6 251 yX6_isOutput, .static yX6_isOutput, .initialized RX6, .code yX6_isOutput cX6_isOutput 1 (some .boolean)] ++ (vx_atS RX6 258 "java/lang/IndexOutOfBoundsException" ["java/lang/RuntimeException", "java/lang/Exception"]).filter goodWord)
def wsX6_checkRow : List Cond := .code yX6_checkRow cX6_checkRow 2 none :: ([.classLink RX6 254 "java/lang/IndexOutOfBoundsException", .initialized "java/lang/IndexOutOfBoundsException", .fieldLink RX6 10 "GateMaze" "state" "LGateMaze$State;", .methodLink RX6 259 yX3_rowCount, .instanceMethod yX3_rowCount, .selects RX3 yX3_rowCount yX3_rowCount, .initialized RX3, .code yX3_rowCount cX3_rowCount 1 (some .int), .fieldLink RX3 25 "GateMaze$State" "inputs" "I"] ++ wsX60 ++ wsX30 ++ (vx_atS RX6 258 "java/lang/IndexOutOfBoundsException" ["java/lang/RuntimeException", "java/lang/Exception"]).filter goodWord)
def wsX6_set_r1 : List Cond := [Cond.fieldLink RX6 10 "GateMaze" "state" "LGateMaze$State;", Cond.methodLink RX6 66 yX6_checkOutput, Cond.static yX6_checkOutput, Cond.initialized RX6, Cond.code yX6_checkOutput cX6_checkOutput 1 none, Cond.classLink RX6 254 "java/lang/IndexOutOfBoundsException", Cond.initialized "java/lang/IndexOutOfBoundsException", Cond.methodLink RX6 251 yX6_isOutput, Cond.static yX6_isOutput, Cond.code yX6_isOutput cX6_isOutput 1 (some .boolean), Cond.methodLink RX6 69 yX6_checkRow, Cond.instanceMethod yX6_checkRow, Cond.selects RX6 yX6_checkRow yX6_checkRow, Cond.code yX6_checkRow cX6_checkRow 2 none, Cond.methodLink RX6 259 yX3_rowCount, Cond.instanceMethod yX3_rowCount, Cond.selects RX3 yX3_rowCount yX3_rowCount, Cond.initialized RX3, Cond.code yX3_rowCount cX3_rowCount 1 (some .int), Cond.fieldLink RX3 25 "GateMaze$State" "inputs" "I", Cond.methodLink RX6 55 yX6_checkRange, Cond.static yX6_checkRange, Cond.code yX6_checkRange cX6_checkRange 3 none, Cond.classLink RX6 93 "java/lang/IllegalArgumentException"]
def wsX6_set_r2 : List Cond := [Cond.initialized "java/lang/IllegalArgumentException", Cond.methodLink RX6 72 yX3_truthAt, Cond.instanceMethod yX3_truthAt, Cond.selects RX3 yX3_truthAt yX3_truthAt, Cond.code yX3_truthAt cX3_truthAt 3 (some .int), Cond.methodLink RX3 52 yX3_onesOf, Cond.instanceMethod yX3_onesOf, Cond.selects RX3 yX3_onesOf yX3_onesOf, Cond.code yX3_onesOf cX3_onesOf 2 (some .long), Cond.fieldLink RX3 15 "GateMaze$State" "ones" "[J", Cond.methodLink RX3 55 yX3_zerosOf, Cond.instanceMethod yX3_zerosOf, Cond.selects RX3 yX3_zerosOf yX3_zerosOf, Cond.code yX3_zerosOf cX3_zerosOf 2 (some .long), Cond.fieldLink RX3 9 "GateMaze$State" "zeros" "[J", Cond.methodLink RX6 63 yX6_saveBeforeChange, Cond.instanceMethod yX6_saveBeforeChange, Cond.selects RX6 yX6_saveBeforeChange yX6_saveBeforeChange, Cond.code yX6_saveBeforeChange cX6_saveBeforeChange 1 none, Cond.fieldLink RX6 19 "GateMaze" "history" "LGateMaze$History;", Cond.fieldLink RX6 47 "GateMaze" "presentIsOld" "Z", Cond.methodLink RX6 143 yX0_keep, Cond.instanceMethod yX0_keep, Cond.selects RX0 yX0_keep yX0_keep]
def wsX6_set_r3 : List Cond := [Cond.initialized RX0, Cond.code yX0_keep cX0_keep 2 none, Cond.fieldLink RX0 17 "GateMaze$History" "size" "I", Cond.fieldLink RX0 11 "GateMaze$History" "saved" "[LGateMaze$State;", Cond.classLink RX0 9 RX3, Cond.instantiable RX3 8, Cond.methodLink RX0 21 yX0_moveOldestToEnd, Cond.instanceMethod yX0_moveOldestToEnd, Cond.selects RX0 yX0_moveOldestToEnd yX0_moveOldestToEnd, Cond.code yX0_moveOldestToEnd cX0_moveOldestToEnd 3 none, Cond.instanceMethod yX3_init, Cond.code yX3_init cX3_init 1 none, Cond.methodLink RX3 3 objectInit, Cond.instanceMethod objectInit, Cond.code objectInit ⟨#[0xb1]⟩ 1 none, Cond.arrayClass .long, Cond.arrayClass .int, Cond.fieldLink RX3 18 "GateMaze$State" "alarms" "[I", Cond.fieldLink RX3 22 "GateMaze$State" "faults" "[I", Cond.methodLink RX0 25 yX3_copyFrom, Cond.instanceMethod yX3_copyFrom, Cond.selects RX3 yX3_copyFrom yX3_copyFrom, Cond.code yX3_copyFrom cX3_copyFrom 3 none, Cond.fieldLink RX3 35 "GateMaze$State" "remembered" "I"]
def wsX6_set_r4 : List Cond := [Cond.fieldLink RX3 42 "GateMaze$State" "asks" "I", Cond.fieldLink RX3 45 "GateMaze$State" "hours" "I", Cond.methodLink RX6 76 yX3_give, Cond.instanceMethod yX3_give, Cond.selects RX3 yX3_give yX3_give, Cond.code yX3_give cX3_give 5 none, Cond.constantLong RX3 58 (-1)]
def wsX6_set : List Cond := .code yX6_set cX6_set 5 (some .int) :: ((wsX6_set_r1 ++ (wsX6_set_r2 ++ (wsX6_set_r3 ++ wsX6_set_r4))) ++ wsX60 ++ wsX30 ++ wsX00 ++ (vx_atS RX6 258 "java/lang/IndexOutOfBoundsException" ["java/lang/RuntimeException", "java/lang/Exception"]).filter goodWord ++ (vx_atS RX6 97 "java/lang/IllegalArgumentException" ["java/lang/RuntimeException", "java/lang/Exception"]).filter goodWord)
def wsX6_invert_r1 : List Cond := [Cond.fieldLink RX6 10 "GateMaze" "state" "LGateMaze$State;", Cond.methodLink RX6 66 yX6_checkOutput, Cond.static yX6_checkOutput, Cond.initialized RX6, Cond.code yX6_checkOutput cX6_checkOutput 1 none, Cond.classLink RX6 254 "java/lang/IndexOutOfBoundsException", Cond.initialized "java/lang/IndexOutOfBoundsException", Cond.methodLink RX6 251 yX6_isOutput, Cond.static yX6_isOutput, Cond.code yX6_isOutput cX6_isOutput 1 (some .boolean), Cond.methodLink RX6 63 yX6_saveBeforeChange, Cond.instanceMethod yX6_saveBeforeChange, Cond.selects RX6 yX6_saveBeforeChange yX6_saveBeforeChange, Cond.code yX6_saveBeforeChange cX6_saveBeforeChange 1 none, Cond.fieldLink RX6 19 "GateMaze" "history" "LGateMaze$History;", Cond.fieldLink RX6 47 "GateMaze" "presentIsOld" "Z", Cond.methodLink RX6 143 yX0_keep, Cond.instanceMethod yX0_keep, Cond.selects RX0 yX0_keep yX0_keep, Cond.initialized RX0, Cond.code yX0_keep cX0_keep 2 none, Cond.fieldLink RX0 17 "GateMaze$History" "size" "I", Cond.fieldLink RX0 11 "GateMaze$History" "saved" "[LGateMaze$State;", Cond.classLink RX0 9 RX3]
def wsX6_invert_r2 : List Cond := [Cond.instantiable RX3 8, Cond.initialized RX3, Cond.methodLink RX0 21 yX0_moveOldestToEnd, Cond.instanceMethod yX0_moveOldestToEnd, Cond.selects RX0 yX0_moveOldestToEnd yX0_moveOldestToEnd, Cond.code yX0_moveOldestToEnd cX0_moveOldestToEnd 3 none, Cond.instanceMethod yX3_init, Cond.code yX3_init cX3_init 1 none, Cond.methodLink RX3 3 objectInit, Cond.instanceMethod objectInit, Cond.code objectInit ⟨#[0xb1]⟩ 1 none, Cond.arrayClass .long, Cond.fieldLink RX3 9 "GateMaze$State" "zeros" "[J", Cond.fieldLink RX3 15 "GateMaze$State" "ones" "[J", Cond.arrayClass .int, Cond.fieldLink RX3 18 "GateMaze$State" "alarms" "[I", Cond.fieldLink RX3 22 "GateMaze$State" "faults" "[I", Cond.methodLink RX0 25 yX3_copyFrom, Cond.instanceMethod yX3_copyFrom, Cond.selects RX3 yX3_copyFrom yX3_copyFrom, Cond.code yX3_copyFrom cX3_copyFrom 3 none, Cond.fieldLink RX3 25 "GateMaze$State" "inputs" "I", Cond.fieldLink RX3 35 "GateMaze$State" "remembered" "I", Cond.fieldLink RX3 42 "GateMaze$State" "asks" "I"]
def wsX6_invert_r3 : List Cond := [Cond.fieldLink RX3 45 "GateMaze$State" "hours" "I", Cond.methodLink RX6 80 yX3_turnAround, Cond.instanceMethod yX3_turnAround, Cond.selects RX3 yX3_turnAround yX3_turnAround, Cond.code yX3_turnAround cX3_turnAround 4 none, Cond.methodLink RX6 83 yX3_onesOf, Cond.instanceMethod yX3_onesOf, Cond.selects RX3 yX3_onesOf yX3_onesOf, Cond.code yX3_onesOf cX3_onesOf 2 (some .long), Cond.methodLink RX6 87 yJ13_bitCount_95d88, Cond.static yJ13_bitCount_95d88, Cond.initialized RJ13, Cond.code yJ13_bitCount_95d88 cJ13_bitCount_95d88 2 (some .int), Cond.constantLong RJ13 314 (6148914691236517205), Cond.constantLong RJ13 316 (3689348814741910323), Cond.constantLong RJ13 318 (1085102592571150095)]
def wsX6_invert : List Cond := .code yX6_invert cX6_invert 2 (some .int) :: ((wsX6_invert_r1 ++ (wsX6_invert_r2 ++ wsX6_invert_r3)) ++ wsX60 ++ wsX00 ++ wsX30 ++ (vx_atS RX6 258 "java/lang/IndexOutOfBoundsException" ["java/lang/RuntimeException", "java/lang/Exception"]).filter goodWord)
def wsX6_join_r1 : List Cond := [Cond.classLink RX6 93 "java/lang/IllegalArgumentException", Cond.initialized "java/lang/IllegalArgumentException", Cond.fieldLink RX6 10 "GateMaze" "state" "LGateMaze$State;", Cond.methodLink RX6 66 yX6_checkOutput, Cond.static yX6_checkOutput, Cond.initialized RX6, Cond.code yX6_checkOutput cX6_checkOutput 1 none, Cond.classLink RX6 254 "java/lang/IndexOutOfBoundsException", Cond.initialized "java/lang/IndexOutOfBoundsException", Cond.methodLink RX6 251 yX6_isOutput, Cond.static yX6_isOutput, Cond.code yX6_isOutput cX6_isOutput 1 (some .boolean), Cond.methodLink RX6 63 yX6_saveBeforeChange, Cond.instanceMethod yX6_saveBeforeChange, Cond.selects RX6 yX6_saveBeforeChange yX6_saveBeforeChange, Cond.code yX6_saveBeforeChange cX6_saveBeforeChange 1 none, Cond.fieldLink RX6 19 "GateMaze" "history" "LGateMaze$History;", Cond.fieldLink RX6 47 "GateMaze" "presentIsOld" "Z", Cond.methodLink RX6 143 yX0_keep, Cond.instanceMethod yX0_keep, Cond.selects RX0 yX0_keep yX0_keep, Cond.initialized RX0, Cond.code yX0_keep cX0_keep 2 none, Cond.fieldLink RX0 17 "GateMaze$History" "size" "I"]
def wsX6_join_r2 : List Cond := [Cond.fieldLink RX0 11 "GateMaze$History" "saved" "[LGateMaze$State;", Cond.classLink RX0 9 RX3, Cond.instantiable RX3 8, Cond.initialized RX3, Cond.methodLink RX0 21 yX0_moveOldestToEnd, Cond.instanceMethod yX0_moveOldestToEnd, Cond.selects RX0 yX0_moveOldestToEnd yX0_moveOldestToEnd, Cond.code yX0_moveOldestToEnd cX0_moveOldestToEnd 3 none, Cond.instanceMethod yX3_init, Cond.code yX3_init cX3_init 1 none, Cond.methodLink RX3 3 objectInit, Cond.instanceMethod objectInit, Cond.code objectInit ⟨#[0xb1]⟩ 1 none, Cond.arrayClass .long, Cond.fieldLink RX3 9 "GateMaze$State" "zeros" "[J", Cond.fieldLink RX3 15 "GateMaze$State" "ones" "[J", Cond.arrayClass .int, Cond.fieldLink RX3 18 "GateMaze$State" "alarms" "[I", Cond.fieldLink RX3 22 "GateMaze$State" "faults" "[I", Cond.methodLink RX0 25 yX3_copyFrom, Cond.instanceMethod yX3_copyFrom, Cond.selects RX3 yX3_copyFrom yX3_copyFrom, Cond.code yX3_copyFrom cX3_copyFrom 3 none, Cond.fieldLink RX3 25 "GateMaze$State" "inputs" "I"]
def wsX6_join_r3 : List Cond := [Cond.fieldLink RX3 35 "GateMaze$State" "remembered" "I", Cond.fieldLink RX3 42 "GateMaze$State" "asks" "I", Cond.fieldLink RX3 45 "GateMaze$State" "hours" "I", Cond.methodLink RX6 100 yX3_takeIn, Cond.instanceMethod yX3_takeIn, Cond.selects RX3 yX3_takeIn yX3_takeIn, Cond.code yX3_takeIn cX3_takeIn 3 none, Cond.methodLink RX3 52 yX3_onesOf, Cond.instanceMethod yX3_onesOf, Cond.selects RX3 yX3_onesOf yX3_onesOf, Cond.code yX3_onesOf cX3_onesOf 2 (some .long), Cond.methodLink RX3 55 yX3_zerosOf, Cond.instanceMethod yX3_zerosOf, Cond.selects RX3 yX3_zerosOf yX3_zerosOf, Cond.code yX3_zerosOf cX3_zerosOf 2 (some .long), Cond.methodLink RX6 83 yX3_onesOf, Cond.methodLink RX6 87 yJ13_bitCount_95d88, Cond.static yJ13_bitCount_95d88, Cond.initialized RJ13, Cond.code yJ13_bitCount_95d88 cJ13_bitCount_95d88 2 (some .int), Cond.constantLong RJ13 314 (6148914691236517205), Cond.constantLong RJ13 316 (3689348814741910323), Cond.constantLong RJ13 318 (1085102592571150095)]
def wsX6_join : List Cond := .code yX6_join cX6_join 3 (some .int) :: ((wsX6_join_r1 ++ (wsX6_join_r2 ++ wsX6_join_r3)) ++ wsX60 ++ wsX00 ++ wsX30 ++ (vx_atS RX6 97 "java/lang/IllegalArgumentException" ["java/lang/RuntimeException", "java/lang/Exception"]).filter goodWord ++ (vx_atS RX6 258 "java/lang/IndexOutOfBoundsException" ["java/lang/RuntimeException", "java/lang/Exception"]).filter goodWord)
def wsX6_checkInput : List Cond := .code yX6_checkInput cX6_checkInput 2 none :: ([.classLink RX6 254 "java/lang/IndexOutOfBoundsException", .initialized "java/lang/IndexOutOfBoundsException", .fieldLink RX6 10 "GateMaze" "state" "LGateMaze$State;"] ++ wsX60 ++ wsX30 ++ (vx_atS RX6 258 "java/lang/IndexOutOfBoundsException" ["java/lang/RuntimeException", "java/lang/Exception"]).filter goodWord)
def wsX6_forget_r1 : List Cond := [Cond.classLink RX6 111 "java/lang/IllegalStateException", Cond.initialized "java/lang/IllegalStateException", Cond.fieldLink RX6 10 "GateMaze" "state" "LGateMaze$State;", Cond.methodLink RX6 104 yX6_checkInput, Cond.instanceMethod yX6_checkInput, Cond.selects RX6 yX6_checkInput yX6_checkInput, Cond.initialized RX6, Cond.code yX6_checkInput cX6_checkInput 2 none, Cond.classLink RX6 254 "java/lang/IndexOutOfBoundsException", Cond.initialized "java/lang/IndexOutOfBoundsException", Cond.methodLink RX6 107 yX3_remembers, Cond.instanceMethod yX3_remembers, Cond.selects RX3 yX3_remembers yX3_remembers, Cond.initialized RX3, Cond.code yX3_remembers cX3_remembers 2 (some .boolean), Cond.fieldLink RX3 35 "GateMaze$State" "remembered" "I", Cond.methodLink RX6 63 yX6_saveBeforeChange, Cond.instanceMethod yX6_saveBeforeChange, Cond.selects RX6 yX6_saveBeforeChange yX6_saveBeforeChange, Cond.code yX6_saveBeforeChange cX6_saveBeforeChange 1 none, Cond.fieldLink RX6 19 "GateMaze" "history" "LGateMaze$History;", Cond.fieldLink RX6 47 "GateMaze" "presentIsOld" "Z", Cond.methodLink RX6 143 yX0_keep, Cond.instanceMethod yX0_keep]
def wsX6_forget_r2 : List Cond := [Cond.selects RX0 yX0_keep yX0_keep, Cond.initialized RX0, Cond.code yX0_keep cX0_keep 2 none, Cond.fieldLink RX0 17 "GateMaze$History" "size" "I", Cond.fieldLink RX0 11 "GateMaze$History" "saved" "[LGateMaze$State;", Cond.classLink RX0 9 RX3, Cond.instantiable RX3 8, Cond.methodLink RX0 21 yX0_moveOldestToEnd, Cond.instanceMethod yX0_moveOldestToEnd, Cond.selects RX0 yX0_moveOldestToEnd yX0_moveOldestToEnd, Cond.code yX0_moveOldestToEnd cX0_moveOldestToEnd 3 none, Cond.instanceMethod yX3_init, Cond.code yX3_init cX3_init 1 none, Cond.methodLink RX3 3 objectInit, Cond.instanceMethod objectInit, Cond.code objectInit ⟨#[0xb1]⟩ 1 none, Cond.arrayClass .long, Cond.fieldLink RX3 9 "GateMaze$State" "zeros" "[J", Cond.fieldLink RX3 15 "GateMaze$State" "ones" "[J", Cond.arrayClass .int, Cond.fieldLink RX3 18 "GateMaze$State" "alarms" "[I", Cond.fieldLink RX3 22 "GateMaze$State" "faults" "[I", Cond.methodLink RX0 25 yX3_copyFrom, Cond.instanceMethod yX3_copyFrom]
def wsX6_forget_r3 : List Cond := [Cond.selects RX3 yX3_copyFrom yX3_copyFrom, Cond.code yX3_copyFrom cX3_copyFrom 3 none, Cond.fieldLink RX3 25 "GateMaze$State" "inputs" "I", Cond.fieldLink RX3 42 "GateMaze$State" "asks" "I", Cond.fieldLink RX3 45 "GateMaze$State" "hours" "I", Cond.methodLink RX6 119 yX3_forgotten, Cond.instanceMethod yX3_forgotten, Cond.selects RX3 yX3_forgotten yX3_forgotten, Cond.code yX3_forgotten cX3_forgotten 1 (some .int), Cond.methodLink RX3 29 yX2_inputSet, Cond.static yX2_inputSet, Cond.initialized RX2, Cond.code yX2_inputSet cX2_inputSet 1 (some .int), Cond.methodLink RX6 123 yX3_undecidedPairs, Cond.instanceMethod yX3_undecidedPairs, Cond.selects RX3 yX3_undecidedPairs yX3_undecidedPairs, Cond.code yX3_undecidedPairs cX3_undecidedPairs 6 (some .int), Cond.methodLink RX3 60 yX2_alikeTo, Cond.static yX2_alikeTo, Cond.code yX2_alikeTo cX2_alikeTo 9 (some .long), Cond.fieldLink RX2 11 "GateMaze$Rows" "WITH_INPUT" "[J", Cond.constantLong RX2 9 (-1), Cond.methodLink RX3 64 yJ13_bitCount_95d88, Cond.static yJ13_bitCount_95d88]
def wsX6_forget_r4 : List Cond := [Cond.initialized RJ13, Cond.code yJ13_bitCount_95d88 cJ13_bitCount_95d88 2 (some .int), Cond.constantLong RJ13 314 (6148914691236517205), Cond.constantLong RJ13 316 (3689348814741910323), Cond.constantLong RJ13 318 (1085102592571150095)]
def wsX6_forget : List Cond := .code yX6_forget cX6_forget 2 (some .int) :: ((wsX6_forget_r1 ++ (wsX6_forget_r2 ++ (wsX6_forget_r3 ++ wsX6_forget_r4))) ++ wsX60 ++ wsX30 ++ wsX00 ++ (vx_atS RX6 115 "java/lang/IllegalStateException" ["java/lang/RuntimeException", "java/lang/Exception"]).filter goodWord ++ (vx_atS RX6 258 "java/lang/IndexOutOfBoundsException" ["java/lang/RuntimeException", "java/lang/Exception"]).filter goodWord)
def wsX6_remember_r1 : List Cond := [Cond.classLink RX6 111 "java/lang/IllegalStateException", Cond.initialized "java/lang/IllegalStateException", Cond.fieldLink RX6 10 "GateMaze" "state" "LGateMaze$State;", Cond.methodLink RX6 104 yX6_checkInput, Cond.instanceMethod yX6_checkInput, Cond.selects RX6 yX6_checkInput yX6_checkInput, Cond.initialized RX6, Cond.code yX6_checkInput cX6_checkInput 2 none, Cond.classLink RX6 254 "java/lang/IndexOutOfBoundsException", Cond.initialized "java/lang/IndexOutOfBoundsException", Cond.methodLink RX6 107 yX3_remembers, Cond.instanceMethod yX3_remembers, Cond.selects RX3 yX3_remembers yX3_remembers, Cond.initialized RX3, Cond.code yX3_remembers cX3_remembers 2 (some .boolean), Cond.fieldLink RX3 35 "GateMaze$State" "remembered" "I", Cond.methodLink RX6 63 yX6_saveBeforeChange, Cond.instanceMethod yX6_saveBeforeChange, Cond.selects RX6 yX6_saveBeforeChange yX6_saveBeforeChange, Cond.code yX6_saveBeforeChange cX6_saveBeforeChange 1 none, Cond.fieldLink RX6 19 "GateMaze" "history" "LGateMaze$History;", Cond.fieldLink RX6 47 "GateMaze" "presentIsOld" "Z", Cond.methodLink RX6 143 yX0_keep, Cond.instanceMethod yX0_keep]
def wsX6_remember_r2 : List Cond := [Cond.selects RX0 yX0_keep yX0_keep, Cond.initialized RX0, Cond.code yX0_keep cX0_keep 2 none, Cond.fieldLink RX0 17 "GateMaze$History" "size" "I", Cond.fieldLink RX0 11 "GateMaze$History" "saved" "[LGateMaze$State;", Cond.classLink RX0 9 RX3, Cond.instantiable RX3 8, Cond.methodLink RX0 21 yX0_moveOldestToEnd, Cond.instanceMethod yX0_moveOldestToEnd, Cond.selects RX0 yX0_moveOldestToEnd yX0_moveOldestToEnd, Cond.code yX0_moveOldestToEnd cX0_moveOldestToEnd 3 none, Cond.instanceMethod yX3_init, Cond.code yX3_init cX3_init 1 none, Cond.methodLink RX3 3 objectInit, Cond.instanceMethod objectInit, Cond.code objectInit ⟨#[0xb1]⟩ 1 none, Cond.arrayClass .long, Cond.fieldLink RX3 9 "GateMaze$State" "zeros" "[J", Cond.fieldLink RX3 15 "GateMaze$State" "ones" "[J", Cond.arrayClass .int, Cond.fieldLink RX3 18 "GateMaze$State" "alarms" "[I", Cond.fieldLink RX3 22 "GateMaze$State" "faults" "[I", Cond.methodLink RX0 25 yX3_copyFrom, Cond.instanceMethod yX3_copyFrom]
def wsX6_remember_r3 : List Cond := [Cond.selects RX3 yX3_copyFrom yX3_copyFrom, Cond.code yX3_copyFrom cX3_copyFrom 3 none, Cond.fieldLink RX3 25 "GateMaze$State" "inputs" "I", Cond.fieldLink RX3 42 "GateMaze$State" "asks" "I", Cond.fieldLink RX3 45 "GateMaze$State" "hours" "I", Cond.methodLink RX6 119 yX3_forgotten, Cond.instanceMethod yX3_forgotten, Cond.selects RX3 yX3_forgotten yX3_forgotten, Cond.code yX3_forgotten cX3_forgotten 1 (some .int), Cond.methodLink RX3 29 yX2_inputSet, Cond.static yX2_inputSet, Cond.initialized RX2, Cond.code yX2_inputSet cX2_inputSet 1 (some .int), Cond.methodLink RX6 123 yX3_undecidedPairs, Cond.instanceMethod yX3_undecidedPairs, Cond.selects RX3 yX3_undecidedPairs yX3_undecidedPairs, Cond.code yX3_undecidedPairs cX3_undecidedPairs 6 (some .int), Cond.methodLink RX3 60 yX2_alikeTo, Cond.static yX2_alikeTo, Cond.code yX2_alikeTo cX2_alikeTo 9 (some .long), Cond.fieldLink RX2 11 "GateMaze$Rows" "WITH_INPUT" "[J", Cond.constantLong RX2 9 (-1), Cond.methodLink RX3 64 yJ13_bitCount_95d88, Cond.static yJ13_bitCount_95d88]
def wsX6_remember_r4 : List Cond := [Cond.initialized RJ13, Cond.code yJ13_bitCount_95d88 cJ13_bitCount_95d88 2 (some .int), Cond.constantLong RJ13 314 (6148914691236517205), Cond.constantLong RJ13 316 (3689348814741910323), Cond.constantLong RJ13 318 (1085102592571150095)]
def wsX6_remember : List Cond := .code yX6_remember cX6_remember 2 (some .int) :: ((wsX6_remember_r1 ++ (wsX6_remember_r2 ++ (wsX6_remember_r3 ++ wsX6_remember_r4))) ++ wsX60 ++ wsX30 ++ wsX00 ++ (vx_atS RX6 115 "java/lang/IllegalStateException" ["java/lang/RuntimeException", "java/lang/Exception"]).filter goodWord ++ (vx_atS RX6 258 "java/lang/IndexOutOfBoundsException" ["java/lang/RuntimeException", "java/lang/Exception"]).filter goodWord)
def wsX6_pass_r1 : List Cond := [Cond.fieldLink RX6 10 "GateMaze" "state" "LGateMaze$State;", Cond.methodLink RX6 55 yX6_checkRange, Cond.static yX6_checkRange, Cond.initialized RX6, Cond.code yX6_checkRange cX6_checkRange 3 none, Cond.classLink RX6 93 "java/lang/IllegalArgumentException", Cond.initialized "java/lang/IllegalArgumentException", Cond.methodLink RX6 63 yX6_saveBeforeChange, Cond.instanceMethod yX6_saveBeforeChange, Cond.selects RX6 yX6_saveBeforeChange yX6_saveBeforeChange, Cond.code yX6_saveBeforeChange cX6_saveBeforeChange 1 none, Cond.fieldLink RX6 19 "GateMaze" "history" "LGateMaze$History;", Cond.fieldLink RX6 47 "GateMaze" "presentIsOld" "Z", Cond.methodLink RX6 143 yX0_keep, Cond.instanceMethod yX0_keep, Cond.selects RX0 yX0_keep yX0_keep, Cond.initialized RX0, Cond.code yX0_keep cX0_keep 2 none, Cond.fieldLink RX0 17 "GateMaze$History" "size" "I", Cond.fieldLink RX0 11 "GateMaze$History" "saved" "[LGateMaze$State;", Cond.classLink RX0 9 RX3, Cond.instantiable RX3 8, Cond.initialized RX3, Cond.methodLink RX0 21 yX0_moveOldestToEnd]
def wsX6_pass_r2 : List Cond := [Cond.instanceMethod yX0_moveOldestToEnd, Cond.selects RX0 yX0_moveOldestToEnd yX0_moveOldestToEnd, Cond.code yX0_moveOldestToEnd cX0_moveOldestToEnd 3 none, Cond.instanceMethod yX3_init, Cond.code yX3_init cX3_init 1 none, Cond.methodLink RX3 3 objectInit, Cond.instanceMethod objectInit, Cond.code objectInit ⟨#[0xb1]⟩ 1 none, Cond.arrayClass .long, Cond.fieldLink RX3 9 "GateMaze$State" "zeros" "[J", Cond.fieldLink RX3 15 "GateMaze$State" "ones" "[J", Cond.arrayClass .int, Cond.fieldLink RX3 18 "GateMaze$State" "alarms" "[I", Cond.fieldLink RX3 22 "GateMaze$State" "faults" "[I", Cond.methodLink RX0 25 yX3_copyFrom, Cond.instanceMethod yX3_copyFrom, Cond.selects RX3 yX3_copyFrom yX3_copyFrom, Cond.code yX3_copyFrom cX3_copyFrom 3 none, Cond.fieldLink RX3 25 "GateMaze$State" "inputs" "I", Cond.fieldLink RX3 35 "GateMaze$State" "remembered" "I", Cond.fieldLink RX3 42 "GateMaze$State" "asks" "I", Cond.fieldLink RX3 45 "GateMaze$State" "hours" "I", Cond.methodLink RX6 129 yX3_leastMissed, Cond.instanceMethod yX3_leastMissed]
def wsX6_pass_r3 : List Cond := [Cond.selects RX3 yX3_leastMissed yX3_leastMissed, Cond.code yX3_leastMissed cX3_leastMissed 5 (some .int), Cond.methodLink RX3 70 yX3_remembers, Cond.instanceMethod yX3_remembers, Cond.selects RX3 yX3_remembers yX3_remembers, Cond.code yX3_remembers cX3_remembers 2 (some .boolean), Cond.methodLink RX3 73 yX3_forgotten, Cond.instanceMethod yX3_forgotten, Cond.selects RX3 yX3_forgotten yX3_forgotten, Cond.code yX3_forgotten cX3_forgotten 1 (some .int), Cond.methodLink RX3 29 yX2_inputSet, Cond.static yX2_inputSet, Cond.initialized RX2, Cond.code yX2_inputSet cX2_inputSet 1 (some .int), Cond.methodLink RX3 77 yX3_undecidedPairs, Cond.instanceMethod yX3_undecidedPairs, Cond.selects RX3 yX3_undecidedPairs yX3_undecidedPairs, Cond.code yX3_undecidedPairs cX3_undecidedPairs 6 (some .int), Cond.methodLink RX3 60 yX2_alikeTo, Cond.static yX2_alikeTo, Cond.code yX2_alikeTo cX2_alikeTo 9 (some .long), Cond.fieldLink RX2 11 "GateMaze$Rows" "WITH_INPUT" "[J", Cond.constantLong RX2 9 (-1), Cond.methodLink RX3 64 yJ13_bitCount_95d88]
def wsX6_pass_r4 : List Cond := [Cond.static yJ13_bitCount_95d88, Cond.initialized RJ13, Cond.code yJ13_bitCount_95d88 cJ13_bitCount_95d88 2 (some .int), Cond.constantLong RJ13 314 (6148914691236517205), Cond.constantLong RJ13 316 (3689348814741910323), Cond.constantLong RJ13 318 (1085102592571150095), Cond.methodLink RX6 135 yJ6_bitCount_0f7a4, Cond.static yJ6_bitCount_0f7a4, Cond.initialized RJ6, Cond.code yJ6_bitCount_0f7a4 cJ6_bitCount_0f7a4 1 (some .int), Cond.constant RJ6 265 (1431655765), Cond.constant RJ6 266 (858993459), Cond.constant RJ6 267 (252645135)]
def wsX6_pass : List Cond := .code yX6_pass cX6_pass 3 (some .int) :: ((wsX6_pass_r1 ++ (wsX6_pass_r2 ++ (wsX6_pass_r3 ++ wsX6_pass_r4))) ++ wsX60 ++ wsX30 ++ wsX00 ++ (vx_atS RX6 97 "java/lang/IllegalArgumentException" ["java/lang/RuntimeException", "java/lang/Exception"]).filter goodWord)
def wsX6_viewOfPresent_r1 : List Cond := [Cond.fieldLink RX6 47 "GateMaze" "presentIsOld" "Z", Cond.fieldLink RX6 40 "GateMaze" "present" "LGateMaze$View;", Cond.fieldLink RX6 10 "GateMaze" "state" "LGateMaze$State;", Cond.fieldLink RX6 33 "GateMaze" "primes" "LGateMaze$Primes;", Cond.methodLink RX6 268 yX5_look, Cond.instanceMethod yX5_look, Cond.selects RX5 yX5_look yX5_look, Cond.initialized RX5, Cond.code yX5_look cX5_look 10 none, Cond.fieldLink RX5 40 "GateMaze$View" "inputs" "I", Cond.fieldLink RX5 41 "GateMaze$View" "undecidedPairs" "I", Cond.fieldLink RX5 9 "GateMaze$View" "zeros" "[J", Cond.constantLong RX5 61 (-1), Cond.fieldLink RX5 15 "GateMaze$View" "ones" "[J", Cond.fieldLink RX5 18 "GateMaze$View" "undecided" "[J", Cond.fieldLink RX5 24 "GateMaze$View" "primeCounts" "[I", Cond.methodLink RX5 44 yX2_inputSet, Cond.static yX2_inputSet, Cond.initialized RX2, Cond.code yX2_inputSet cX2_inputSet 1 (some .int), Cond.methodLink RX5 50 yX3_zerosOf, Cond.instanceMethod yX3_zerosOf, Cond.selects RX3 yX3_zerosOf yX3_zerosOf, Cond.initialized RX3]
def wsX6_viewOfPresent_r2 : List Cond := [Cond.code yX3_zerosOf cX3_zerosOf 2 (some .long), Cond.fieldLink RX3 9 "GateMaze$State" "zeros" "[J", Cond.static yX6_isOutput, Cond.initialized RX6, Cond.code yX6_isOutput cX6_isOutput 1 (some .boolean), Cond.methodLink RX5 54 yX2_alikeTo, Cond.static yX2_alikeTo, Cond.code yX2_alikeTo cX2_alikeTo 9 (some .long), Cond.fieldLink RX2 11 "GateMaze$Rows" "WITH_INPUT" "[J", Cond.constantLong RX2 9 (-1), Cond.methodLink RX5 58 yX3_onesOf, Cond.instanceMethod yX3_onesOf, Cond.selects RX3 yX3_onesOf yX3_onesOf, Cond.code yX3_onesOf cX3_onesOf 2 (some .long), Cond.fieldLink RX3 15 "GateMaze$State" "ones" "[J", Cond.methodLink RX5 63 yJ13_bitCount_95d88, Cond.static yJ13_bitCount_95d88, Cond.initialized RJ13, Cond.code yJ13_bitCount_95d88 cJ13_bitCount_95d88 2 (some .int), Cond.constantLong RJ13 314 (6148914691236517205), Cond.constantLong RJ13 316 (3689348814741910323), Cond.constantLong RJ13 318 (1085102592571150095), Cond.methodLink RX5 69 yX1_find, Cond.instanceMethod yX1_find]
def wsX6_viewOfPresent_r3 : List Cond := [Cond.selects RX1 yX1_find yX1_find, Cond.initialized RX1, Cond.code yX1_find cX1_find 6 none, Cond.fieldLink RX1 22 "GateMaze$Primes" "size" "I", Cond.methodLink RX1 26 yX1_findBad, Cond.instanceMethod yX1_findBad, Cond.selects RX1 yX1_findBad yX1_findBad, Cond.code yX1_findBad cX1_findBad 7 none, Cond.fieldLink RX1 9 "GateMaze$Primes" "bad" "[J", Cond.methodLink RX1 34 yX1_badWith, Cond.instanceMethod yX1_badWith, Cond.selects RX1 yX1_badWith yX1_badWith, Cond.code yX1_badWith cX1_badWith 2 (some .long), Cond.constantLong RX1 44 (-1), Cond.methodLink RX1 38 yX2_alikeTo, Cond.methodLink RX1 30 yX1_addWith, Cond.instanceMethod yX1_addWith, Cond.selects RX1 yX1_addWith yX1_addWith, Cond.code yX1_addWith cX1_addWith 7 none, Cond.fieldLink RX1 15 "GateMaze$Primes" "codes" "[I", Cond.fieldLink RX1 19 "GateMaze$Primes" "rows" "[J", Cond.methodLink RX1 46 yX2_inProduct, Cond.static yX2_inProduct, Cond.code yX2_inProduct cX2_inProduct 3 (some .long)]
def wsX6_viewOfPresent_r4 : List Cond := [Cond.methodLink RX2 17 yX2_inputSet, Cond.methodLink RX2 21 yX2_alikeTo, Cond.methodLink RX5 78 yX5_coverWith, Cond.instanceMethod yX5_coverWith, Cond.selects RX5 yX5_coverWith yX5_coverWith, Cond.code yX5_coverWith cX5_coverWith 10 none, Cond.fieldLink RX5 31 "GateMaze$View" "codes" "[I", Cond.fieldLink RX5 21 "GateMaze$View" "answers" "[J", Cond.fieldLink RX5 28 "GateMaze$View" "sizes" "[I", Cond.methodLink RX5 89 yX1_bestFor, Cond.instanceMethod yX1_bestFor, Cond.selects RX1 yX1_bestFor yX1_bestFor, Cond.code yX1_bestFor cX1_bestFor 9 (some .int), Cond.methodLink RX1 50 yJ13_bitCount_95d88, Cond.methodLink RX1 56 yJ6_bitCount_0f7a4, Cond.static yJ6_bitCount_0f7a4, Cond.initialized RJ6, Cond.code yJ6_bitCount_0f7a4 cJ6_bitCount_0f7a4 1 (some .int), Cond.constant RJ6 265 (1431655765), Cond.constant RJ6 266 (858993459), Cond.constant RJ6 267 (252645135), Cond.methodLink RX5 82 yX5_countParts, Cond.instanceMethod yX5_countParts, Cond.selects RX5 yX5_countParts yX5_countParts]
def wsX6_viewOfPresent_r5 : List Cond := [Cond.code yX5_countParts cX5_countParts 6 none, Cond.fieldLink RX5 96 "GateMaze$View" "parts" "I", Cond.fieldLink RX5 99 "GateMaze$View" "sharedParts" "I", Cond.fieldLink RX5 102 "GateMaze$View" "partCares" "I", Cond.methodLink RX5 105 yX5_holdersOf, Cond.instanceMethod yX5_holdersOf, Cond.selects RX5 yX5_holdersOf yX5_holdersOf, Cond.code yX5_holdersOf cX5_holdersOf 5 (some .int), Cond.methodLink RX5 108 yJ6_bitCount_0f7a4]
def wsX6_viewOfPresent : List Cond := .code yX6_viewOfPresent cX6_viewOfPresent 1 (some (.object "GateMaze$View")) :: ((wsX6_viewOfPresent_r1 ++ (wsX6_viewOfPresent_r2 ++ (wsX6_viewOfPresent_r3 ++ (wsX6_viewOfPresent_r4 ++ wsX6_viewOfPresent_r5)))) ++ wsX60 ++ wsX30 ++ wsX50 ++ wsX10)
def wsX6_ask_r1 : List Cond := [Cond.fieldLink RX6 19 "GateMaze" "history" "LGateMaze$History;", Cond.fieldLink RX6 10 "GateMaze" "state" "LGateMaze$State;", Cond.methodLink RX6 69 yX6_checkRow, Cond.instanceMethod yX6_checkRow, Cond.selects RX6 yX6_checkRow yX6_checkRow, Cond.initialized RX6, Cond.code yX6_checkRow cX6_checkRow 2 none, Cond.classLink RX6 254 "java/lang/IndexOutOfBoundsException", Cond.initialized "java/lang/IndexOutOfBoundsException", Cond.methodLink RX6 259 yX3_rowCount, Cond.instanceMethod yX3_rowCount, Cond.selects RX3 yX3_rowCount yX3_rowCount, Cond.initialized RX3, Cond.code yX3_rowCount cX3_rowCount 1 (some .int), Cond.fieldLink RX3 25 "GateMaze$State" "inputs" "I", Cond.methodLink RX6 139 yX6_viewOfPresent, Cond.instanceMethod yX6_viewOfPresent, Cond.selects RX6 yX6_viewOfPresent yX6_viewOfPresent, Cond.code yX6_viewOfPresent cX6_viewOfPresent 1 (some (.object "GateMaze$View")), Cond.fieldLink RX6 47 "GateMaze" "presentIsOld" "Z", Cond.fieldLink RX6 40 "GateMaze" "present" "LGateMaze$View;", Cond.fieldLink RX6 33 "GateMaze" "primes" "LGateMaze$Primes;", Cond.methodLink RX6 268 yX5_look, Cond.instanceMethod yX5_look]
def wsX6_ask_r2 : List Cond := [Cond.selects RX5 yX5_look yX5_look, Cond.initialized RX5, Cond.code yX5_look cX5_look 10 none, Cond.fieldLink RX5 40 "GateMaze$View" "inputs" "I", Cond.fieldLink RX5 41 "GateMaze$View" "undecidedPairs" "I", Cond.fieldLink RX5 9 "GateMaze$View" "zeros" "[J", Cond.constantLong RX5 61 (-1), Cond.fieldLink RX5 15 "GateMaze$View" "ones" "[J", Cond.fieldLink RX5 18 "GateMaze$View" "undecided" "[J", Cond.fieldLink RX5 24 "GateMaze$View" "primeCounts" "[I", Cond.methodLink RX5 44 yX2_inputSet, Cond.static yX2_inputSet, Cond.initialized RX2, Cond.code yX2_inputSet cX2_inputSet 1 (some .int), Cond.methodLink RX5 50 yX3_zerosOf, Cond.instanceMethod yX3_zerosOf, Cond.selects RX3 yX3_zerosOf yX3_zerosOf, Cond.code yX3_zerosOf cX3_zerosOf 2 (some .long), Cond.fieldLink RX3 9 "GateMaze$State" "zeros" "[J", Cond.static yX6_isOutput, Cond.code yX6_isOutput cX6_isOutput 1 (some .boolean), Cond.methodLink RX5 54 yX2_alikeTo, Cond.static yX2_alikeTo, Cond.code yX2_alikeTo cX2_alikeTo 9 (some .long)]
def wsX6_ask_r3 : List Cond := [Cond.fieldLink RX2 11 "GateMaze$Rows" "WITH_INPUT" "[J", Cond.constantLong RX2 9 (-1), Cond.methodLink RX5 58 yX3_onesOf, Cond.instanceMethod yX3_onesOf, Cond.selects RX3 yX3_onesOf yX3_onesOf, Cond.code yX3_onesOf cX3_onesOf 2 (some .long), Cond.fieldLink RX3 15 "GateMaze$State" "ones" "[J", Cond.methodLink RX5 63 yJ13_bitCount_95d88, Cond.static yJ13_bitCount_95d88, Cond.initialized RJ13, Cond.code yJ13_bitCount_95d88 cJ13_bitCount_95d88 2 (some .int), Cond.constantLong RJ13 314 (6148914691236517205), Cond.constantLong RJ13 316 (3689348814741910323), Cond.constantLong RJ13 318 (1085102592571150095), Cond.methodLink RX5 69 yX1_find, Cond.instanceMethod yX1_find, Cond.selects RX1 yX1_find yX1_find, Cond.initialized RX1, Cond.code yX1_find cX1_find 6 none, Cond.fieldLink RX1 22 "GateMaze$Primes" "size" "I", Cond.methodLink RX1 26 yX1_findBad, Cond.instanceMethod yX1_findBad, Cond.selects RX1 yX1_findBad yX1_findBad, Cond.code yX1_findBad cX1_findBad 7 none]
def wsX6_ask_r4 : List Cond := [Cond.fieldLink RX1 9 "GateMaze$Primes" "bad" "[J", Cond.methodLink RX1 34 yX1_badWith, Cond.instanceMethod yX1_badWith, Cond.selects RX1 yX1_badWith yX1_badWith, Cond.code yX1_badWith cX1_badWith 2 (some .long), Cond.constantLong RX1 44 (-1), Cond.methodLink RX1 38 yX2_alikeTo, Cond.methodLink RX1 30 yX1_addWith, Cond.instanceMethod yX1_addWith, Cond.selects RX1 yX1_addWith yX1_addWith, Cond.code yX1_addWith cX1_addWith 7 none, Cond.fieldLink RX1 15 "GateMaze$Primes" "codes" "[I", Cond.fieldLink RX1 19 "GateMaze$Primes" "rows" "[J", Cond.methodLink RX1 46 yX2_inProduct, Cond.static yX2_inProduct, Cond.code yX2_inProduct cX2_inProduct 3 (some .long), Cond.methodLink RX2 17 yX2_inputSet, Cond.methodLink RX2 21 yX2_alikeTo, Cond.methodLink RX5 78 yX5_coverWith, Cond.instanceMethod yX5_coverWith, Cond.selects RX5 yX5_coverWith yX5_coverWith, Cond.code yX5_coverWith cX5_coverWith 10 none, Cond.fieldLink RX5 31 "GateMaze$View" "codes" "[I", Cond.fieldLink RX5 21 "GateMaze$View" "answers" "[J"]
def wsX6_ask_r5 : List Cond := [Cond.fieldLink RX5 28 "GateMaze$View" "sizes" "[I", Cond.methodLink RX5 89 yX1_bestFor, Cond.instanceMethod yX1_bestFor, Cond.selects RX1 yX1_bestFor yX1_bestFor, Cond.code yX1_bestFor cX1_bestFor 9 (some .int), Cond.methodLink RX1 50 yJ13_bitCount_95d88, Cond.methodLink RX1 56 yJ6_bitCount_0f7a4, Cond.static yJ6_bitCount_0f7a4, Cond.initialized RJ6, Cond.code yJ6_bitCount_0f7a4 cJ6_bitCount_0f7a4 1 (some .int), Cond.constant RJ6 265 (1431655765), Cond.constant RJ6 266 (858993459), Cond.constant RJ6 267 (252645135), Cond.methodLink RX5 82 yX5_countParts, Cond.instanceMethod yX5_countParts, Cond.selects RX5 yX5_countParts yX5_countParts, Cond.code yX5_countParts cX5_countParts 6 none, Cond.fieldLink RX5 96 "GateMaze$View" "parts" "I", Cond.fieldLink RX5 99 "GateMaze$View" "sharedParts" "I", Cond.fieldLink RX5 102 "GateMaze$View" "partCares" "I", Cond.methodLink RX5 105 yX5_holdersOf, Cond.instanceMethod yX5_holdersOf, Cond.selects RX5 yX5_holdersOf yX5_holdersOf, Cond.code yX5_holdersOf cX5_holdersOf 5 (some .int)]
def wsX6_ask_r6 : List Cond := [Cond.methodLink RX5 108 yJ6_bitCount_0f7a4, Cond.methodLink RX6 143 yX0_keep, Cond.instanceMethod yX0_keep, Cond.selects RX0 yX0_keep yX0_keep, Cond.initialized RX0, Cond.code yX0_keep cX0_keep 2 none, Cond.fieldLink RX0 17 "GateMaze$History" "size" "I", Cond.fieldLink RX0 11 "GateMaze$History" "saved" "[LGateMaze$State;", Cond.classLink RX0 9 RX3, Cond.instantiable RX3 8, Cond.methodLink RX0 21 yX0_moveOldestToEnd, Cond.instanceMethod yX0_moveOldestToEnd, Cond.selects RX0 yX0_moveOldestToEnd yX0_moveOldestToEnd, Cond.code yX0_moveOldestToEnd cX0_moveOldestToEnd 3 none, Cond.instanceMethod yX3_init, Cond.code yX3_init cX3_init 1 none, Cond.methodLink RX3 3 objectInit, Cond.instanceMethod objectInit, Cond.code objectInit ⟨#[0xb1]⟩ 1 none, Cond.arrayClass .long, Cond.arrayClass .int, Cond.fieldLink RX3 18 "GateMaze$State" "alarms" "[I", Cond.fieldLink RX3 22 "GateMaze$State" "faults" "[I", Cond.methodLink RX0 25 yX3_copyFrom]
def wsX6_ask_r7 : List Cond := [Cond.instanceMethod yX3_copyFrom, Cond.selects RX3 yX3_copyFrom yX3_copyFrom, Cond.code yX3_copyFrom cX3_copyFrom 3 none, Cond.fieldLink RX3 35 "GateMaze$State" "remembered" "I", Cond.fieldLink RX3 42 "GateMaze$State" "asks" "I", Cond.fieldLink RX3 45 "GateMaze$State" "hours" "I", Cond.methodLink RX6 150 yX5_answerAt, Cond.instanceMethod yX5_answerAt, Cond.selects RX5 yX5_answerAt yX5_answerAt, Cond.code yX5_answerAt cX5_answerAt 3 (some .int), Cond.methodLink RX5 112 yX5_answersOf, Cond.instanceMethod yX5_answersOf, Cond.selects RX5 yX5_answersOf yX5_answersOf, Cond.code yX5_answersOf cX5_answersOf 2 (some .long), Cond.methodLink RX6 72 yX3_truthAt, Cond.instanceMethod yX3_truthAt, Cond.selects RX3 yX3_truthAt yX3_truthAt, Cond.code yX3_truthAt cX3_truthAt 3 (some .int), Cond.methodLink RX3 52 yX3_onesOf, Cond.methodLink RX3 55 yX3_zerosOf, Cond.methodLink RX6 153 yX5_decidedAt, Cond.instanceMethod yX5_decidedAt, Cond.selects RX5 yX5_decidedAt yX5_decidedAt, Cond.code yX5_decidedAt cX5_decidedAt 3 (some .int)]
def wsX6_ask : List Cond := .code yX6_ask cX6_ask 7 (some .int) :: ((wsX6_ask_r1 ++ (wsX6_ask_r2 ++ (wsX6_ask_r3 ++ (wsX6_ask_r4 ++ (wsX6_ask_r5 ++ (wsX6_ask_r6 ++ wsX6_ask_r7)))))) ++ wsX60 ++ wsX30 ++ wsX50 ++ wsX10 ++ wsX00 ++ (vx_atS RX6 258 "java/lang/IndexOutOfBoundsException" ["java/lang/RuntimeException", "java/lang/Exception"]).filter goodWord)
def wsX6_rowNumber_r1 : List Cond := [Cond.fieldLink RX6 10 "GateMaze" "state" "LGateMaze$State;", Cond.methodLink RX6 72 yX3_truthAt, Cond.instanceMethod yX3_truthAt, Cond.selects RX3 yX3_truthAt yX3_truthAt, Cond.initialized RX3, Cond.code yX3_truthAt cX3_truthAt 3 (some .int), Cond.methodLink RX3 52 yX3_onesOf, Cond.instanceMethod yX3_onesOf, Cond.selects RX3 yX3_onesOf yX3_onesOf, Cond.code yX3_onesOf cX3_onesOf 2 (some .long), Cond.fieldLink RX3 15 "GateMaze$State" "ones" "[J", Cond.static yX6_isOutput, Cond.initialized RX6, Cond.code yX6_isOutput cX6_isOutput 1 (some .boolean), Cond.methodLink RX3 55 yX3_zerosOf, Cond.instanceMethod yX3_zerosOf, Cond.selects RX3 yX3_zerosOf yX3_zerosOf, Cond.code yX3_zerosOf cX3_zerosOf 2 (some .long), Cond.fieldLink RX3 9 "GateMaze$State" "zeros" "[J", Cond.methodLink RX6 153 yX5_decidedAt, Cond.instanceMethod yX5_decidedAt, Cond.selects RX5 yX5_decidedAt yX5_decidedAt, Cond.initialized RX5, Cond.code yX5_decidedAt cX5_decidedAt 3 (some .int)]
def wsX6_rowNumber_r2 : List Cond := [Cond.fieldLink RX5 18 "GateMaze$View" "undecided" "[J", Cond.fieldLink RX5 15 "GateMaze$View" "ones" "[J", Cond.fieldLink RX5 9 "GateMaze$View" "zeros" "[J", Cond.methodLink RX6 150 yX5_answerAt, Cond.instanceMethod yX5_answerAt, Cond.selects RX5 yX5_answerAt yX5_answerAt, Cond.code yX5_answerAt cX5_answerAt 3 (some .int), Cond.methodLink RX5 112 yX5_answersOf, Cond.instanceMethod yX5_answersOf, Cond.selects RX5 yX5_answersOf yX5_answersOf, Cond.code yX5_answersOf cX5_answersOf 2 (some .long), Cond.fieldLink RX5 21 "GateMaze$View" "answers" "[J"]
def wsX6_rowNumber : List Cond := .code yX6_rowNumber cX6_rowNumber 5 (some .int) :: ((wsX6_rowNumber_r1 ++ wsX6_rowNumber_r2) ++ wsX60 ++ wsX30 ++ wsX50)
def wsX6_at_r1 : List Cond := [Cond.methodLink RX6 66 yX6_checkOutput, Cond.static yX6_checkOutput, Cond.initialized RX6, Cond.code yX6_checkOutput cX6_checkOutput 1 none, Cond.classLink RX6 254 "java/lang/IndexOutOfBoundsException", Cond.initialized "java/lang/IndexOutOfBoundsException", Cond.methodLink RX6 251 yX6_isOutput, Cond.static yX6_isOutput, Cond.code yX6_isOutput cX6_isOutput 1 (some .boolean), Cond.methodLink RX6 69 yX6_checkRow, Cond.instanceMethod yX6_checkRow, Cond.selects RX6 yX6_checkRow yX6_checkRow, Cond.code yX6_checkRow cX6_checkRow 2 none, Cond.fieldLink RX6 10 "GateMaze" "state" "LGateMaze$State;", Cond.methodLink RX6 259 yX3_rowCount, Cond.instanceMethod yX3_rowCount, Cond.selects RX3 yX3_rowCount yX3_rowCount, Cond.initialized RX3, Cond.code yX3_rowCount cX3_rowCount 1 (some .int), Cond.fieldLink RX3 25 "GateMaze$State" "inputs" "I", Cond.methodLink RX6 55 yX6_checkRange, Cond.static yX6_checkRange, Cond.code yX6_checkRange cX6_checkRange 3 none, Cond.classLink RX6 93 "java/lang/IllegalArgumentException"]
def wsX6_at_r2 : List Cond := [Cond.initialized "java/lang/IllegalArgumentException", Cond.methodLink RX6 139 yX6_viewOfPresent, Cond.instanceMethod yX6_viewOfPresent, Cond.selects RX6 yX6_viewOfPresent yX6_viewOfPresent, Cond.code yX6_viewOfPresent cX6_viewOfPresent 1 (some (.object "GateMaze$View")), Cond.fieldLink RX6 47 "GateMaze" "presentIsOld" "Z", Cond.fieldLink RX6 40 "GateMaze" "present" "LGateMaze$View;", Cond.fieldLink RX6 33 "GateMaze" "primes" "LGateMaze$Primes;", Cond.methodLink RX6 268 yX5_look, Cond.instanceMethod yX5_look, Cond.selects RX5 yX5_look yX5_look, Cond.initialized RX5, Cond.code yX5_look cX5_look 10 none, Cond.fieldLink RX5 40 "GateMaze$View" "inputs" "I", Cond.fieldLink RX5 41 "GateMaze$View" "undecidedPairs" "I", Cond.fieldLink RX5 9 "GateMaze$View" "zeros" "[J", Cond.constantLong RX5 61 (-1), Cond.fieldLink RX5 15 "GateMaze$View" "ones" "[J", Cond.fieldLink RX5 18 "GateMaze$View" "undecided" "[J", Cond.fieldLink RX5 24 "GateMaze$View" "primeCounts" "[I", Cond.methodLink RX5 44 yX2_inputSet, Cond.static yX2_inputSet, Cond.initialized RX2, Cond.code yX2_inputSet cX2_inputSet 1 (some .int)]
def wsX6_at_r3 : List Cond := [Cond.methodLink RX5 50 yX3_zerosOf, Cond.instanceMethod yX3_zerosOf, Cond.selects RX3 yX3_zerosOf yX3_zerosOf, Cond.code yX3_zerosOf cX3_zerosOf 2 (some .long), Cond.fieldLink RX3 9 "GateMaze$State" "zeros" "[J", Cond.methodLink RX5 54 yX2_alikeTo, Cond.static yX2_alikeTo, Cond.code yX2_alikeTo cX2_alikeTo 9 (some .long), Cond.fieldLink RX2 11 "GateMaze$Rows" "WITH_INPUT" "[J", Cond.constantLong RX2 9 (-1), Cond.methodLink RX5 58 yX3_onesOf, Cond.instanceMethod yX3_onesOf, Cond.selects RX3 yX3_onesOf yX3_onesOf, Cond.code yX3_onesOf cX3_onesOf 2 (some .long), Cond.fieldLink RX3 15 "GateMaze$State" "ones" "[J", Cond.methodLink RX5 63 yJ13_bitCount_95d88, Cond.static yJ13_bitCount_95d88, Cond.initialized RJ13, Cond.code yJ13_bitCount_95d88 cJ13_bitCount_95d88 2 (some .int), Cond.constantLong RJ13 314 (6148914691236517205), Cond.constantLong RJ13 316 (3689348814741910323), Cond.constantLong RJ13 318 (1085102592571150095), Cond.methodLink RX5 69 yX1_find, Cond.instanceMethod yX1_find]
def wsX6_at_r4 : List Cond := [Cond.selects RX1 yX1_find yX1_find, Cond.initialized RX1, Cond.code yX1_find cX1_find 6 none, Cond.fieldLink RX1 22 "GateMaze$Primes" "size" "I", Cond.methodLink RX1 26 yX1_findBad, Cond.instanceMethod yX1_findBad, Cond.selects RX1 yX1_findBad yX1_findBad, Cond.code yX1_findBad cX1_findBad 7 none, Cond.fieldLink RX1 9 "GateMaze$Primes" "bad" "[J", Cond.methodLink RX1 34 yX1_badWith, Cond.instanceMethod yX1_badWith, Cond.selects RX1 yX1_badWith yX1_badWith, Cond.code yX1_badWith cX1_badWith 2 (some .long), Cond.constantLong RX1 44 (-1), Cond.methodLink RX1 38 yX2_alikeTo, Cond.methodLink RX1 30 yX1_addWith, Cond.instanceMethod yX1_addWith, Cond.selects RX1 yX1_addWith yX1_addWith, Cond.code yX1_addWith cX1_addWith 7 none, Cond.fieldLink RX1 15 "GateMaze$Primes" "codes" "[I", Cond.fieldLink RX1 19 "GateMaze$Primes" "rows" "[J", Cond.methodLink RX1 46 yX2_inProduct, Cond.static yX2_inProduct, Cond.code yX2_inProduct cX2_inProduct 3 (some .long)]
def wsX6_at_r5 : List Cond := [Cond.methodLink RX2 17 yX2_inputSet, Cond.methodLink RX2 21 yX2_alikeTo, Cond.methodLink RX5 78 yX5_coverWith, Cond.instanceMethod yX5_coverWith, Cond.selects RX5 yX5_coverWith yX5_coverWith, Cond.code yX5_coverWith cX5_coverWith 10 none, Cond.fieldLink RX5 31 "GateMaze$View" "codes" "[I", Cond.fieldLink RX5 21 "GateMaze$View" "answers" "[J", Cond.fieldLink RX5 28 "GateMaze$View" "sizes" "[I", Cond.methodLink RX5 89 yX1_bestFor, Cond.instanceMethod yX1_bestFor, Cond.selects RX1 yX1_bestFor yX1_bestFor, Cond.code yX1_bestFor cX1_bestFor 9 (some .int), Cond.methodLink RX1 50 yJ13_bitCount_95d88, Cond.methodLink RX1 56 yJ6_bitCount_0f7a4, Cond.static yJ6_bitCount_0f7a4, Cond.initialized RJ6, Cond.code yJ6_bitCount_0f7a4 cJ6_bitCount_0f7a4 1 (some .int), Cond.constant RJ6 265 (1431655765), Cond.constant RJ6 266 (858993459), Cond.constant RJ6 267 (252645135), Cond.methodLink RX5 82 yX5_countParts, Cond.instanceMethod yX5_countParts, Cond.selects RX5 yX5_countParts yX5_countParts]
def wsX6_at_r6 : List Cond := [Cond.code yX5_countParts cX5_countParts 6 none, Cond.fieldLink RX5 96 "GateMaze$View" "parts" "I", Cond.fieldLink RX5 99 "GateMaze$View" "sharedParts" "I", Cond.fieldLink RX5 102 "GateMaze$View" "partCares" "I", Cond.methodLink RX5 105 yX5_holdersOf, Cond.instanceMethod yX5_holdersOf, Cond.selects RX5 yX5_holdersOf yX5_holdersOf, Cond.code yX5_holdersOf cX5_holdersOf 5 (some .int), Cond.methodLink RX5 108 yJ6_bitCount_0f7a4, Cond.methodLink RX6 195 yX6_rowNumber, Cond.instanceMethod yX6_rowNumber, Cond.selects RX6 yX6_rowNumber yX6_rowNumber, Cond.code yX6_rowNumber cX6_rowNumber 5 (some .int), Cond.methodLink RX6 72 yX3_truthAt, Cond.instanceMethod yX3_truthAt, Cond.selects RX3 yX3_truthAt yX3_truthAt, Cond.code yX3_truthAt cX3_truthAt 3 (some .int), Cond.methodLink RX3 52 yX3_onesOf, Cond.methodLink RX3 55 yX3_zerosOf, Cond.methodLink RX6 153 yX5_decidedAt, Cond.instanceMethod yX5_decidedAt, Cond.selects RX5 yX5_decidedAt yX5_decidedAt, Cond.code yX5_decidedAt cX5_decidedAt 3 (some .int), Cond.methodLink RX6 150 yX5_answerAt]
def wsX6_at_r7 : List Cond := [Cond.instanceMethod yX5_answerAt, Cond.selects RX5 yX5_answerAt yX5_answerAt, Cond.code yX5_answerAt cX5_answerAt 3 (some .int), Cond.methodLink RX5 112 yX5_answersOf, Cond.instanceMethod yX5_answersOf, Cond.selects RX5 yX5_answersOf yX5_answersOf, Cond.code yX5_answersOf cX5_answersOf 2 (some .long)]
def wsX6_at : List Cond := .code yX6_at cX6_at 4 (some .int) :: ((wsX6_at_r1 ++ (wsX6_at_r2 ++ (wsX6_at_r3 ++ (wsX6_at_r4 ++ (wsX6_at_r5 ++ (wsX6_at_r6 ++ wsX6_at_r7)))))) ++ wsX60 ++ wsX30 ++ wsX50 ++ wsX10 ++ (vx_atS RX6 258 "java/lang/IndexOutOfBoundsException" ["java/lang/RuntimeException", "java/lang/Exception"]).filter goodWord ++ (vx_atS RX6 97 "java/lang/IllegalArgumentException" ["java/lang/RuntimeException", "java/lang/Exception"]).filter goodWord)
def wsX6_outputNumber_r1 : List Cond := [Cond.fieldLink RX6 10 "GateMaze" "state" "LGateMaze$State;", Cond.methodLink RX6 83 yX3_onesOf, Cond.instanceMethod yX3_onesOf, Cond.selects RX3 yX3_onesOf yX3_onesOf, Cond.initialized RX3, Cond.code yX3_onesOf cX3_onesOf 2 (some .long), Cond.fieldLink RX3 15 "GateMaze$State" "ones" "[J", Cond.static yX6_isOutput, Cond.initialized RX6, Cond.code yX6_isOutput cX6_isOutput 1 (some .boolean), Cond.methodLink RX6 87 yJ13_bitCount_95d88, Cond.static yJ13_bitCount_95d88, Cond.initialized RJ13, Cond.code yJ13_bitCount_95d88 cJ13_bitCount_95d88 2 (some .int), Cond.constantLong RJ13 314 (6148914691236517205), Cond.constantLong RJ13 316 (3689348814741910323), Cond.constantLong RJ13 318 (1085102592571150095), Cond.methodLink RX6 259 yX3_rowCount, Cond.instanceMethod yX3_rowCount, Cond.selects RX3 yX3_rowCount yX3_rowCount, Cond.code yX3_rowCount cX3_rowCount 1 (some .int), Cond.fieldLink RX3 25 "GateMaze$State" "inputs" "I", Cond.methodLink RX6 272 yX3_zerosOf, Cond.instanceMethod yX3_zerosOf]
def wsX6_outputNumber_r2 : List Cond := [Cond.selects RX3 yX3_zerosOf yX3_zerosOf, Cond.code yX3_zerosOf cX3_zerosOf 2 (some .long), Cond.fieldLink RX3 9 "GateMaze$State" "zeros" "[J", Cond.methodLink RX6 275 yX3_alarmsOf, Cond.instanceMethod yX3_alarmsOf, Cond.selects RX3 yX3_alarmsOf yX3_alarmsOf, Cond.code yX3_alarmsOf cX3_alarmsOf 2 (some .int), Cond.fieldLink RX3 18 "GateMaze$State" "alarms" "[I", Cond.methodLink RX6 278 yX3_faultsOf, Cond.instanceMethod yX3_faultsOf, Cond.selects RX3 yX3_faultsOf yX3_faultsOf, Cond.code yX3_faultsOf cX3_faultsOf 2 (some .int), Cond.fieldLink RX3 22 "GateMaze$State" "faults" "[I", Cond.methodLink RX6 281 yX5_outputNumber, Cond.instanceMethod yX5_outputNumber, Cond.selects RX5 yX5_outputNumber yX5_outputNumber, Cond.initialized RX5, Cond.code yX5_outputNumber cX5_outputNumber 3 (some .int), Cond.fieldLink RX5 15 "GateMaze$View" "ones" "[J", Cond.fieldLink RX5 40 "GateMaze$View" "inputs" "I", Cond.fieldLink RX5 9 "GateMaze$View" "zeros" "[J", Cond.fieldLink RX5 18 "GateMaze$View" "undecided" "[J", Cond.fieldLink RX5 24 "GateMaze$View" "primeCounts" "[I", Cond.fieldLink RX5 28 "GateMaze$View" "sizes" "[I"]
def wsX6_outputNumber_r3 : List Cond := [Cond.methodLink RX5 63 yJ13_bitCount_95d88, Cond.methodLink RX5 115 yX5_caresCounted, Cond.instanceMethod yX5_caresCounted, Cond.selects RX5 yX5_caresCounted yX5_caresCounted, Cond.code yX5_caresCounted cX5_caresCounted 5 (some .int), Cond.methodLink RX5 121 yX5_sizeOf, Cond.instanceMethod yX5_sizeOf, Cond.selects RX5 yX5_sizeOf yX5_sizeOf, Cond.code yX5_sizeOf cX5_sizeOf 2 (some .int), Cond.methodLink RX5 124 yX5_codeAt, Cond.instanceMethod yX5_codeAt, Cond.selects RX5 yX5_codeAt yX5_codeAt, Cond.code yX5_codeAt cX5_codeAt 3 (some .int), Cond.fieldLink RX5 31 "GateMaze$View" "codes" "[I", Cond.methodLink RX5 108 yJ6_bitCount_0f7a4, Cond.static yJ6_bitCount_0f7a4, Cond.initialized RJ6, Cond.code yJ6_bitCount_0f7a4 cJ6_bitCount_0f7a4 1 (some .int), Cond.constant RJ6 265 (1431655765), Cond.constant RJ6 266 (858993459), Cond.constant RJ6 267 (252645135), Cond.methodLink RX5 118 yX5_caresOfAny, Cond.instanceMethod yX5_caresOfAny, Cond.selects RX5 yX5_caresOfAny yX5_caresOfAny]
def wsX6_outputNumber_r4 : List Cond := [Cond.code yX5_caresOfAny cX5_caresOfAny 5 (some .int)]
def wsX6_outputNumber : List Cond := .code yX6_outputNumber cX6_outputNumber 4 (some .int) :: ((wsX6_outputNumber_r1 ++ (wsX6_outputNumber_r2 ++ (wsX6_outputNumber_r3 ++ wsX6_outputNumber_r4))) ++ wsX60 ++ wsX30 ++ wsX50)
def wsX6_output_r1 : List Cond := [Cond.methodLink RX6 66 yX6_checkOutput, Cond.static yX6_checkOutput, Cond.initialized RX6, Cond.code yX6_checkOutput cX6_checkOutput 1 none, Cond.classLink RX6 254 "java/lang/IndexOutOfBoundsException", Cond.initialized "java/lang/IndexOutOfBoundsException", Cond.methodLink RX6 251 yX6_isOutput, Cond.static yX6_isOutput, Cond.code yX6_isOutput cX6_isOutput 1 (some .boolean), Cond.methodLink RX6 55 yX6_checkRange, Cond.static yX6_checkRange, Cond.code yX6_checkRange cX6_checkRange 3 none, Cond.classLink RX6 93 "java/lang/IllegalArgumentException", Cond.initialized "java/lang/IllegalArgumentException", Cond.methodLink RX6 139 yX6_viewOfPresent, Cond.instanceMethod yX6_viewOfPresent, Cond.selects RX6 yX6_viewOfPresent yX6_viewOfPresent, Cond.code yX6_viewOfPresent cX6_viewOfPresent 1 (some (.object "GateMaze$View")), Cond.fieldLink RX6 47 "GateMaze" "presentIsOld" "Z", Cond.fieldLink RX6 40 "GateMaze" "present" "LGateMaze$View;", Cond.fieldLink RX6 10 "GateMaze" "state" "LGateMaze$State;", Cond.fieldLink RX6 33 "GateMaze" "primes" "LGateMaze$Primes;", Cond.methodLink RX6 268 yX5_look, Cond.instanceMethod yX5_look]
def wsX6_output_r2 : List Cond := [Cond.selects RX5 yX5_look yX5_look, Cond.initialized RX5, Cond.code yX5_look cX5_look 10 none, Cond.fieldLink RX5 40 "GateMaze$View" "inputs" "I", Cond.fieldLink RX5 41 "GateMaze$View" "undecidedPairs" "I", Cond.fieldLink RX5 9 "GateMaze$View" "zeros" "[J", Cond.constantLong RX5 61 (-1), Cond.fieldLink RX5 15 "GateMaze$View" "ones" "[J", Cond.fieldLink RX5 18 "GateMaze$View" "undecided" "[J", Cond.fieldLink RX5 24 "GateMaze$View" "primeCounts" "[I", Cond.methodLink RX5 44 yX2_inputSet, Cond.static yX2_inputSet, Cond.initialized RX2, Cond.code yX2_inputSet cX2_inputSet 1 (some .int), Cond.methodLink RX5 50 yX3_zerosOf, Cond.instanceMethod yX3_zerosOf, Cond.selects RX3 yX3_zerosOf yX3_zerosOf, Cond.initialized RX3, Cond.code yX3_zerosOf cX3_zerosOf 2 (some .long), Cond.fieldLink RX3 9 "GateMaze$State" "zeros" "[J", Cond.methodLink RX5 54 yX2_alikeTo, Cond.static yX2_alikeTo, Cond.code yX2_alikeTo cX2_alikeTo 9 (some .long), Cond.fieldLink RX2 11 "GateMaze$Rows" "WITH_INPUT" "[J"]
def wsX6_output_r3 : List Cond := [Cond.constantLong RX2 9 (-1), Cond.methodLink RX5 58 yX3_onesOf, Cond.instanceMethod yX3_onesOf, Cond.selects RX3 yX3_onesOf yX3_onesOf, Cond.code yX3_onesOf cX3_onesOf 2 (some .long), Cond.fieldLink RX3 15 "GateMaze$State" "ones" "[J", Cond.methodLink RX5 63 yJ13_bitCount_95d88, Cond.static yJ13_bitCount_95d88, Cond.initialized RJ13, Cond.code yJ13_bitCount_95d88 cJ13_bitCount_95d88 2 (some .int), Cond.constantLong RJ13 314 (6148914691236517205), Cond.constantLong RJ13 316 (3689348814741910323), Cond.constantLong RJ13 318 (1085102592571150095), Cond.methodLink RX5 69 yX1_find, Cond.instanceMethod yX1_find, Cond.selects RX1 yX1_find yX1_find, Cond.initialized RX1, Cond.code yX1_find cX1_find 6 none, Cond.fieldLink RX1 22 "GateMaze$Primes" "size" "I", Cond.methodLink RX1 26 yX1_findBad, Cond.instanceMethod yX1_findBad, Cond.selects RX1 yX1_findBad yX1_findBad, Cond.code yX1_findBad cX1_findBad 7 none, Cond.fieldLink RX1 9 "GateMaze$Primes" "bad" "[J"]
def wsX6_output_r4 : List Cond := [Cond.methodLink RX1 34 yX1_badWith, Cond.instanceMethod yX1_badWith, Cond.selects RX1 yX1_badWith yX1_badWith, Cond.code yX1_badWith cX1_badWith 2 (some .long), Cond.constantLong RX1 44 (-1), Cond.methodLink RX1 38 yX2_alikeTo, Cond.methodLink RX1 30 yX1_addWith, Cond.instanceMethod yX1_addWith, Cond.selects RX1 yX1_addWith yX1_addWith, Cond.code yX1_addWith cX1_addWith 7 none, Cond.fieldLink RX1 15 "GateMaze$Primes" "codes" "[I", Cond.fieldLink RX1 19 "GateMaze$Primes" "rows" "[J", Cond.methodLink RX1 46 yX2_inProduct, Cond.static yX2_inProduct, Cond.code yX2_inProduct cX2_inProduct 3 (some .long), Cond.methodLink RX2 17 yX2_inputSet, Cond.methodLink RX2 21 yX2_alikeTo, Cond.methodLink RX5 78 yX5_coverWith, Cond.instanceMethod yX5_coverWith, Cond.selects RX5 yX5_coverWith yX5_coverWith, Cond.code yX5_coverWith cX5_coverWith 10 none, Cond.fieldLink RX5 31 "GateMaze$View" "codes" "[I", Cond.fieldLink RX5 21 "GateMaze$View" "answers" "[J", Cond.fieldLink RX5 28 "GateMaze$View" "sizes" "[I"]
def wsX6_output_r5 : List Cond := [Cond.methodLink RX5 89 yX1_bestFor, Cond.instanceMethod yX1_bestFor, Cond.selects RX1 yX1_bestFor yX1_bestFor, Cond.code yX1_bestFor cX1_bestFor 9 (some .int), Cond.methodLink RX1 50 yJ13_bitCount_95d88, Cond.methodLink RX1 56 yJ6_bitCount_0f7a4, Cond.static yJ6_bitCount_0f7a4, Cond.initialized RJ6, Cond.code yJ6_bitCount_0f7a4 cJ6_bitCount_0f7a4 1 (some .int), Cond.constant RJ6 265 (1431655765), Cond.constant RJ6 266 (858993459), Cond.constant RJ6 267 (252645135), Cond.methodLink RX5 82 yX5_countParts, Cond.instanceMethod yX5_countParts, Cond.selects RX5 yX5_countParts yX5_countParts, Cond.code yX5_countParts cX5_countParts 6 none, Cond.fieldLink RX5 96 "GateMaze$View" "parts" "I", Cond.fieldLink RX5 99 "GateMaze$View" "sharedParts" "I", Cond.fieldLink RX5 102 "GateMaze$View" "partCares" "I", Cond.methodLink RX5 105 yX5_holdersOf, Cond.instanceMethod yX5_holdersOf, Cond.selects RX5 yX5_holdersOf yX5_holdersOf, Cond.code yX5_holdersOf cX5_holdersOf 5 (some .int), Cond.methodLink RX5 108 yJ6_bitCount_0f7a4]
def wsX6_output_r6 : List Cond := [Cond.methodLink RX6 199 yX6_outputNumber, Cond.instanceMethod yX6_outputNumber, Cond.selects RX6 yX6_outputNumber yX6_outputNumber, Cond.code yX6_outputNumber cX6_outputNumber 4 (some .int), Cond.methodLink RX6 83 yX3_onesOf, Cond.methodLink RX6 87 yJ13_bitCount_95d88, Cond.methodLink RX6 259 yX3_rowCount, Cond.instanceMethod yX3_rowCount, Cond.selects RX3 yX3_rowCount yX3_rowCount, Cond.code yX3_rowCount cX3_rowCount 1 (some .int), Cond.fieldLink RX3 25 "GateMaze$State" "inputs" "I", Cond.methodLink RX6 272 yX3_zerosOf, Cond.methodLink RX6 275 yX3_alarmsOf, Cond.instanceMethod yX3_alarmsOf, Cond.selects RX3 yX3_alarmsOf yX3_alarmsOf, Cond.code yX3_alarmsOf cX3_alarmsOf 2 (some .int), Cond.fieldLink RX3 18 "GateMaze$State" "alarms" "[I", Cond.methodLink RX6 278 yX3_faultsOf, Cond.instanceMethod yX3_faultsOf, Cond.selects RX3 yX3_faultsOf yX3_faultsOf, Cond.code yX3_faultsOf cX3_faultsOf 2 (some .int), Cond.fieldLink RX3 22 "GateMaze$State" "faults" "[I", Cond.methodLink RX6 281 yX5_outputNumber, Cond.instanceMethod yX5_outputNumber]
def wsX6_output_r7 : List Cond := [Cond.selects RX5 yX5_outputNumber yX5_outputNumber, Cond.code yX5_outputNumber cX5_outputNumber 3 (some .int), Cond.methodLink RX5 115 yX5_caresCounted, Cond.instanceMethod yX5_caresCounted, Cond.selects RX5 yX5_caresCounted yX5_caresCounted, Cond.code yX5_caresCounted cX5_caresCounted 5 (some .int), Cond.methodLink RX5 121 yX5_sizeOf, Cond.instanceMethod yX5_sizeOf, Cond.selects RX5 yX5_sizeOf yX5_sizeOf, Cond.code yX5_sizeOf cX5_sizeOf 2 (some .int), Cond.methodLink RX5 124 yX5_codeAt, Cond.instanceMethod yX5_codeAt, Cond.selects RX5 yX5_codeAt yX5_codeAt, Cond.code yX5_codeAt cX5_codeAt 3 (some .int), Cond.methodLink RX5 118 yX5_caresOfAny, Cond.instanceMethod yX5_caresOfAny, Cond.selects RX5 yX5_caresOfAny yX5_caresOfAny, Cond.code yX5_caresOfAny cX5_caresOfAny 5 (some .int)]
def wsX6_output : List Cond := .code yX6_output cX6_output 3 (some .int) :: ((wsX6_output_r1 ++ (wsX6_output_r2 ++ (wsX6_output_r3 ++ (wsX6_output_r4 ++ (wsX6_output_r5 ++ (wsX6_output_r6 ++ wsX6_output_r7)))))) ++ wsX60 ++ wsX30 ++ wsX50 ++ wsX10 ++ (vx_atS RX6 258 "java/lang/IndexOutOfBoundsException" ["java/lang/RuntimeException", "java/lang/Exception"]).filter goodWord ++ (vx_atS RX6 97 "java/lang/IllegalArgumentException" ["java/lang/RuntimeException", "java/lang/Exception"]).filter goodWord)
def wsX6_product_r1 : List Cond := [Cond.methodLink RX6 66 yX6_checkOutput, Cond.static yX6_checkOutput, Cond.initialized RX6, Cond.code yX6_checkOutput cX6_checkOutput 1 none, Cond.classLink RX6 254 "java/lang/IndexOutOfBoundsException", Cond.initialized "java/lang/IndexOutOfBoundsException", Cond.methodLink RX6 251 yX6_isOutput, Cond.static yX6_isOutput, Cond.code yX6_isOutput cX6_isOutput 1 (some .boolean), Cond.methodLink RX6 55 yX6_checkRange, Cond.static yX6_checkRange, Cond.code yX6_checkRange cX6_checkRange 3 none, Cond.classLink RX6 93 "java/lang/IllegalArgumentException", Cond.initialized "java/lang/IllegalArgumentException", Cond.methodLink RX6 139 yX6_viewOfPresent, Cond.instanceMethod yX6_viewOfPresent, Cond.selects RX6 yX6_viewOfPresent yX6_viewOfPresent, Cond.code yX6_viewOfPresent cX6_viewOfPresent 1 (some (.object "GateMaze$View")), Cond.fieldLink RX6 47 "GateMaze" "presentIsOld" "Z", Cond.fieldLink RX6 40 "GateMaze" "present" "LGateMaze$View;", Cond.fieldLink RX6 10 "GateMaze" "state" "LGateMaze$State;", Cond.fieldLink RX6 33 "GateMaze" "primes" "LGateMaze$Primes;", Cond.methodLink RX6 268 yX5_look, Cond.instanceMethod yX5_look]
def wsX6_product_r2 : List Cond := [Cond.selects RX5 yX5_look yX5_look, Cond.initialized RX5, Cond.code yX5_look cX5_look 10 none, Cond.fieldLink RX5 40 "GateMaze$View" "inputs" "I", Cond.fieldLink RX5 41 "GateMaze$View" "undecidedPairs" "I", Cond.fieldLink RX5 9 "GateMaze$View" "zeros" "[J", Cond.constantLong RX5 61 (-1), Cond.fieldLink RX5 15 "GateMaze$View" "ones" "[J", Cond.fieldLink RX5 18 "GateMaze$View" "undecided" "[J", Cond.fieldLink RX5 24 "GateMaze$View" "primeCounts" "[I", Cond.methodLink RX5 44 yX2_inputSet, Cond.static yX2_inputSet, Cond.initialized RX2, Cond.code yX2_inputSet cX2_inputSet 1 (some .int), Cond.methodLink RX5 50 yX3_zerosOf, Cond.instanceMethod yX3_zerosOf, Cond.selects RX3 yX3_zerosOf yX3_zerosOf, Cond.initialized RX3, Cond.code yX3_zerosOf cX3_zerosOf 2 (some .long), Cond.fieldLink RX3 9 "GateMaze$State" "zeros" "[J", Cond.methodLink RX5 54 yX2_alikeTo, Cond.static yX2_alikeTo, Cond.code yX2_alikeTo cX2_alikeTo 9 (some .long), Cond.fieldLink RX2 11 "GateMaze$Rows" "WITH_INPUT" "[J"]
def wsX6_product_r3 : List Cond := [Cond.constantLong RX2 9 (-1), Cond.methodLink RX5 58 yX3_onesOf, Cond.instanceMethod yX3_onesOf, Cond.selects RX3 yX3_onesOf yX3_onesOf, Cond.code yX3_onesOf cX3_onesOf 2 (some .long), Cond.fieldLink RX3 15 "GateMaze$State" "ones" "[J", Cond.methodLink RX5 63 yJ13_bitCount_95d88, Cond.static yJ13_bitCount_95d88, Cond.initialized RJ13, Cond.code yJ13_bitCount_95d88 cJ13_bitCount_95d88 2 (some .int), Cond.constantLong RJ13 314 (6148914691236517205), Cond.constantLong RJ13 316 (3689348814741910323), Cond.constantLong RJ13 318 (1085102592571150095), Cond.methodLink RX5 69 yX1_find, Cond.instanceMethod yX1_find, Cond.selects RX1 yX1_find yX1_find, Cond.initialized RX1, Cond.code yX1_find cX1_find 6 none, Cond.fieldLink RX1 22 "GateMaze$Primes" "size" "I", Cond.methodLink RX1 26 yX1_findBad, Cond.instanceMethod yX1_findBad, Cond.selects RX1 yX1_findBad yX1_findBad, Cond.code yX1_findBad cX1_findBad 7 none, Cond.fieldLink RX1 9 "GateMaze$Primes" "bad" "[J"]
def wsX6_product_r4 : List Cond := [Cond.methodLink RX1 34 yX1_badWith, Cond.instanceMethod yX1_badWith, Cond.selects RX1 yX1_badWith yX1_badWith, Cond.code yX1_badWith cX1_badWith 2 (some .long), Cond.constantLong RX1 44 (-1), Cond.methodLink RX1 38 yX2_alikeTo, Cond.methodLink RX1 30 yX1_addWith, Cond.instanceMethod yX1_addWith, Cond.selects RX1 yX1_addWith yX1_addWith, Cond.code yX1_addWith cX1_addWith 7 none, Cond.fieldLink RX1 15 "GateMaze$Primes" "codes" "[I", Cond.fieldLink RX1 19 "GateMaze$Primes" "rows" "[J", Cond.methodLink RX1 46 yX2_inProduct, Cond.static yX2_inProduct, Cond.code yX2_inProduct cX2_inProduct 3 (some .long), Cond.methodLink RX2 17 yX2_inputSet, Cond.methodLink RX2 21 yX2_alikeTo, Cond.methodLink RX5 78 yX5_coverWith, Cond.instanceMethod yX5_coverWith, Cond.selects RX5 yX5_coverWith yX5_coverWith, Cond.code yX5_coverWith cX5_coverWith 10 none, Cond.fieldLink RX5 31 "GateMaze$View" "codes" "[I", Cond.fieldLink RX5 21 "GateMaze$View" "answers" "[J", Cond.fieldLink RX5 28 "GateMaze$View" "sizes" "[I"]
def wsX6_product_r5 : List Cond := [Cond.methodLink RX5 89 yX1_bestFor, Cond.instanceMethod yX1_bestFor, Cond.selects RX1 yX1_bestFor yX1_bestFor, Cond.code yX1_bestFor cX1_bestFor 9 (some .int), Cond.methodLink RX1 50 yJ13_bitCount_95d88, Cond.methodLink RX1 56 yJ6_bitCount_0f7a4, Cond.static yJ6_bitCount_0f7a4, Cond.initialized RJ6, Cond.code yJ6_bitCount_0f7a4 cJ6_bitCount_0f7a4 1 (some .int), Cond.constant RJ6 265 (1431655765), Cond.constant RJ6 266 (858993459), Cond.constant RJ6 267 (252645135), Cond.methodLink RX5 82 yX5_countParts, Cond.instanceMethod yX5_countParts, Cond.selects RX5 yX5_countParts yX5_countParts, Cond.code yX5_countParts cX5_countParts 6 none, Cond.fieldLink RX5 96 "GateMaze$View" "parts" "I", Cond.fieldLink RX5 99 "GateMaze$View" "sharedParts" "I", Cond.fieldLink RX5 102 "GateMaze$View" "partCares" "I", Cond.methodLink RX5 105 yX5_holdersOf, Cond.instanceMethod yX5_holdersOf, Cond.selects RX5 yX5_holdersOf yX5_holdersOf, Cond.code yX5_holdersOf cX5_holdersOf 5 (some .int), Cond.methodLink RX5 108 yJ6_bitCount_0f7a4]
def wsX6_product_r6 : List Cond := [Cond.methodLink RX6 203 yX5_productNumber, Cond.instanceMethod yX5_productNumber, Cond.selects RX5 yX5_productNumber yX5_productNumber, Cond.code yX5_productNumber cX5_productNumber 7 (some .int), Cond.methodLink RX5 124 yX5_codeAt, Cond.instanceMethod yX5_codeAt, Cond.selects RX5 yX5_codeAt yX5_codeAt, Cond.code yX5_codeAt cX5_codeAt 3 (some .int), Cond.methodLink RX5 128 yX2_inProduct]
def wsX6_product : List Cond := .code yX6_product cX6_product 4 (some .int) :: ((wsX6_product_r1 ++ (wsX6_product_r2 ++ (wsX6_product_r3 ++ (wsX6_product_r4 ++ (wsX6_product_r5 ++ wsX6_product_r6))))) ++ wsX60 ++ wsX30 ++ wsX50 ++ wsX10 ++ (vx_atS RX6 258 "java/lang/IndexOutOfBoundsException" ["java/lang/RuntimeException", "java/lang/Exception"]).filter goodWord ++ (vx_atS RX6 97 "java/lang/IllegalArgumentException" ["java/lang/RuntimeException", "java/lang/Exception"]).filter goodWord)
def wsX6_mazeNumber : List Cond := .code yX6_mazeNumber cX6_mazeNumber 3 (some .int) :: ([.fieldLink RX6 10 "GateMaze" "state" "LGateMaze$State;", .fieldLink RX6 19 "GateMaze" "history" "LGateMaze$History;", .methodLink RX6 294 yX3_sum, .static yX3_sum, .initialized RX3, .code yX3_sum cX3_sum 6 (some .int)] ++ wsX60 ++ wsX30 ++ wsX50 ++ wsX00)
def wsX6_count_r1 : List Cond := [Cond.methodLink RX6 55 yX6_checkRange, Cond.static yX6_checkRange, Cond.initialized RX6, Cond.code yX6_checkRange cX6_checkRange 3 none, Cond.classLink RX6 93 "java/lang/IllegalArgumentException", Cond.initialized "java/lang/IllegalArgumentException", Cond.methodLink RX6 139 yX6_viewOfPresent, Cond.instanceMethod yX6_viewOfPresent, Cond.selects RX6 yX6_viewOfPresent yX6_viewOfPresent, Cond.code yX6_viewOfPresent cX6_viewOfPresent 1 (some (.object "GateMaze$View")), Cond.fieldLink RX6 47 "GateMaze" "presentIsOld" "Z", Cond.fieldLink RX6 40 "GateMaze" "present" "LGateMaze$View;", Cond.fieldLink RX6 10 "GateMaze" "state" "LGateMaze$State;", Cond.fieldLink RX6 33 "GateMaze" "primes" "LGateMaze$Primes;", Cond.methodLink RX6 268 yX5_look, Cond.instanceMethod yX5_look, Cond.selects RX5 yX5_look yX5_look, Cond.initialized RX5, Cond.code yX5_look cX5_look 10 none, Cond.fieldLink RX5 40 "GateMaze$View" "inputs" "I", Cond.fieldLink RX5 41 "GateMaze$View" "undecidedPairs" "I", Cond.fieldLink RX5 9 "GateMaze$View" "zeros" "[J", Cond.constantLong RX5 61 (-1), Cond.fieldLink RX5 15 "GateMaze$View" "ones" "[J"]
def wsX6_count_r2 : List Cond := [Cond.fieldLink RX5 18 "GateMaze$View" "undecided" "[J", Cond.fieldLink RX5 24 "GateMaze$View" "primeCounts" "[I", Cond.methodLink RX5 44 yX2_inputSet, Cond.static yX2_inputSet, Cond.initialized RX2, Cond.code yX2_inputSet cX2_inputSet 1 (some .int), Cond.methodLink RX5 50 yX3_zerosOf, Cond.instanceMethod yX3_zerosOf, Cond.selects RX3 yX3_zerosOf yX3_zerosOf, Cond.initialized RX3, Cond.code yX3_zerosOf cX3_zerosOf 2 (some .long), Cond.fieldLink RX3 9 "GateMaze$State" "zeros" "[J", Cond.static yX6_isOutput, Cond.code yX6_isOutput cX6_isOutput 1 (some .boolean), Cond.methodLink RX5 54 yX2_alikeTo, Cond.static yX2_alikeTo, Cond.code yX2_alikeTo cX2_alikeTo 9 (some .long), Cond.fieldLink RX2 11 "GateMaze$Rows" "WITH_INPUT" "[J", Cond.constantLong RX2 9 (-1), Cond.methodLink RX5 58 yX3_onesOf, Cond.instanceMethod yX3_onesOf, Cond.selects RX3 yX3_onesOf yX3_onesOf, Cond.code yX3_onesOf cX3_onesOf 2 (some .long), Cond.fieldLink RX3 15 "GateMaze$State" "ones" "[J"]
def wsX6_count_r3 : List Cond := [Cond.methodLink RX5 63 yJ13_bitCount_95d88, Cond.static yJ13_bitCount_95d88, Cond.initialized RJ13, Cond.code yJ13_bitCount_95d88 cJ13_bitCount_95d88 2 (some .int), Cond.constantLong RJ13 314 (6148914691236517205), Cond.constantLong RJ13 316 (3689348814741910323), Cond.constantLong RJ13 318 (1085102592571150095), Cond.methodLink RX5 69 yX1_find, Cond.instanceMethod yX1_find, Cond.selects RX1 yX1_find yX1_find, Cond.initialized RX1, Cond.code yX1_find cX1_find 6 none, Cond.fieldLink RX1 22 "GateMaze$Primes" "size" "I", Cond.methodLink RX1 26 yX1_findBad, Cond.instanceMethod yX1_findBad, Cond.selects RX1 yX1_findBad yX1_findBad, Cond.code yX1_findBad cX1_findBad 7 none, Cond.fieldLink RX1 9 "GateMaze$Primes" "bad" "[J", Cond.methodLink RX1 34 yX1_badWith, Cond.instanceMethod yX1_badWith, Cond.selects RX1 yX1_badWith yX1_badWith, Cond.code yX1_badWith cX1_badWith 2 (some .long), Cond.constantLong RX1 44 (-1), Cond.methodLink RX1 38 yX2_alikeTo]
def wsX6_count_r4 : List Cond := [Cond.methodLink RX1 30 yX1_addWith, Cond.instanceMethod yX1_addWith, Cond.selects RX1 yX1_addWith yX1_addWith, Cond.code yX1_addWith cX1_addWith 7 none, Cond.fieldLink RX1 15 "GateMaze$Primes" "codes" "[I", Cond.fieldLink RX1 19 "GateMaze$Primes" "rows" "[J", Cond.methodLink RX1 46 yX2_inProduct, Cond.static yX2_inProduct, Cond.code yX2_inProduct cX2_inProduct 3 (some .long), Cond.methodLink RX2 17 yX2_inputSet, Cond.methodLink RX2 21 yX2_alikeTo, Cond.methodLink RX5 78 yX5_coverWith, Cond.instanceMethod yX5_coverWith, Cond.selects RX5 yX5_coverWith yX5_coverWith, Cond.code yX5_coverWith cX5_coverWith 10 none, Cond.fieldLink RX5 31 "GateMaze$View" "codes" "[I", Cond.fieldLink RX5 21 "GateMaze$View" "answers" "[J", Cond.fieldLink RX5 28 "GateMaze$View" "sizes" "[I", Cond.methodLink RX5 89 yX1_bestFor, Cond.instanceMethod yX1_bestFor, Cond.selects RX1 yX1_bestFor yX1_bestFor, Cond.code yX1_bestFor cX1_bestFor 9 (some .int), Cond.methodLink RX1 50 yJ13_bitCount_95d88, Cond.methodLink RX1 56 yJ6_bitCount_0f7a4]
def wsX6_count_r5 : List Cond := [Cond.static yJ6_bitCount_0f7a4, Cond.initialized RJ6, Cond.code yJ6_bitCount_0f7a4 cJ6_bitCount_0f7a4 1 (some .int), Cond.constant RJ6 265 (1431655765), Cond.constant RJ6 266 (858993459), Cond.constant RJ6 267 (252645135), Cond.methodLink RX5 82 yX5_countParts, Cond.instanceMethod yX5_countParts, Cond.selects RX5 yX5_countParts yX5_countParts, Cond.code yX5_countParts cX5_countParts 6 none, Cond.fieldLink RX5 96 "GateMaze$View" "parts" "I", Cond.fieldLink RX5 99 "GateMaze$View" "sharedParts" "I", Cond.fieldLink RX5 102 "GateMaze$View" "partCares" "I", Cond.methodLink RX5 105 yX5_holdersOf, Cond.instanceMethod yX5_holdersOf, Cond.selects RX5 yX5_holdersOf yX5_holdersOf, Cond.code yX5_holdersOf cX5_holdersOf 5 (some .int), Cond.methodLink RX5 108 yJ6_bitCount_0f7a4, Cond.methodLink RX6 207 yX6_mazeNumber, Cond.instanceMethod yX6_mazeNumber, Cond.selects RX6 yX6_mazeNumber yX6_mazeNumber, Cond.code yX6_mazeNumber cX6_mazeNumber 3 (some .int), Cond.fieldLink RX6 19 "GateMaze" "history" "LGateMaze$History;", Cond.methodLink RX6 294 yX3_sum]
def wsX6_count_r6 : List Cond := [Cond.static yX3_sum, Cond.code yX3_sum cX3_sum 6 (some .int)]
def wsX6_count : List Cond := .code yX6_count cX6_count 2 (some .int) :: ((wsX6_count_r1 ++ (wsX6_count_r2 ++ (wsX6_count_r3 ++ (wsX6_count_r4 ++ (wsX6_count_r5 ++ wsX6_count_r6))))) ++ wsX60 ++ wsX30 ++ wsX50 ++ wsX10 ++ wsX00 ++ (vx_atS RX6 97 "java/lang/IllegalArgumentException" ["java/lang/RuntimeException", "java/lang/Exception"]).filter goodWord)
theorem dX0_init_0 : decode cX0_init 0 = .ok (.aload_n 0, 1) := by decide +kernel
theorem dX0_init_1 : decode cX0_init 1 = .ok (.invokespecial 3, 3) := by decide +kernel
theorem dX0_init_4 : decode cX0_init 4 = .ok (.aload_n 0, 1) := by decide +kernel
theorem dX0_init_5 : decode cX0_init 5 = .ok (.bipush 6, 2) := by decide +kernel
theorem dX0_init_7 : decode cX0_init 7 = .ok (.anewarray 9, 3) := by decide +kernel
theorem dX0_init_10 : decode cX0_init 10 = .ok (.putfield 11, 3) := by decide +kernel
theorem dX0_init_13 : decode cX0_init 13 = .ok (.return_, 1) := by decide +kernel
set_option maxRecDepth 20000 in
theorem ggX0_keep_X0_moveOldestToEnd : GoodIn wsX0_keep wsX0_moveOldestToEnd := goodIn_r _ [10, 2, 30, 31] (by decide +kernel) (by decide +kernel)
set_option maxRecDepth 20000 in
theorem gX0_keep_X0_moveOldestToEnd : GoodIn wsX0_keep (wsV RX0 21 RX0 yX0_moveOldestToEnd wsX0_moveOldestToEnd) := goodIn_app (goodIn_of _ (by decide +kernel)) ggX0_keep_X0_moveOldestToEnd
set_option maxRecDepth 20000 in
theorem ggX0_keep_X3_init : GoodIn wsX0_keep wsX3_init := goodIn_r _ [12, 13, 14, 15, 16, 17, 18, 19, 20, 21, 32, 33, 34, 35, 36, 37, 38, 39] (by decide +kernel) (by decide +kernel)
set_option maxRecDepth 20000 in
theorem ggX0_keep_X3_copyFrom : GoodIn wsX0_keep wsX3_copyFrom := goodIn_r _ [25, 26, 27, 28, 29, 17, 18, 20, 21, 32, 33, 34, 35, 36, 37, 38, 39] (by decide +kernel) (by decide +kernel)
set_option maxRecDepth 20000 in
theorem gX0_keep_X3_copyFrom : GoodIn wsX0_keep (wsV RX0 25 RX3 yX3_copyFrom wsX3_copyFrom) := goodIn_app (goodIn_of _ (by decide +kernel)) ggX0_keep_X3_copyFrom
theorem dX0_keep_0 : decode cX0_keep 0 = .ok (.aload_n 0, 1) := by decide +kernel
theorem dX0_keep_1 : decode cX0_keep 1 = .ok (.getfield 17, 3) := by decide +kernel
theorem dX0_keep_4 : decode cX0_keep 4 = .ok (.aload_n 0, 1) := by decide +kernel
theorem dX0_keep_5 : decode cX0_keep 5 = .ok (.getfield 11, 3) := by decide +kernel
theorem dX0_keep_8 : decode cX0_keep 8 = .ok (.arraylength, 1) := by decide +kernel
theorem dX0_keep_9 : decode cX0_keep 9 = .ok (.if_icmp .lt 18, 3) := by decide +kernel
theorem dX0_keep_12 : decode cX0_keep 12 = .ok (.aload_n 0, 1) := by decide +kernel
theorem dX0_keep_13 : decode cX0_keep 13 = .ok (.invokevirtual 21, 3) := by decide +kernel
theorem dX0_keep_16 : decode cX0_keep 16 = .ok (.aload_n 0, 1) := by decide +kernel
theorem dX0_keep_17 : decode cX0_keep 17 = .ok (.aload_n 0, 1) := by decide +kernel
theorem dX0_keep_18 : decode cX0_keep 18 = .ok (.getfield 11, 3) := by decide +kernel
theorem dX0_keep_21 : decode cX0_keep 21 = .ok (.arraylength, 1) := by decide +kernel
theorem dX0_keep_22 : decode cX0_keep 22 = .ok (.iconst 1, 1) := by decide +kernel
theorem dX0_keep_23 : decode cX0_keep 23 = .ok (.isub, 1) := by decide +kernel
theorem dX0_keep_24 : decode cX0_keep 24 = .ok (.putfield 17, 3) := by decide +kernel
theorem dX0_keep_27 : decode cX0_keep 27 = .ok (.aload_n 0, 1) := by decide +kernel
theorem dX0_keep_28 : decode cX0_keep 28 = .ok (.getfield 17, 3) := by decide +kernel
theorem dX0_keep_31 : decode cX0_keep 31 = .ok (.ifCond .lt 66, 3) := by decide +kernel
theorem dX0_keep_34 : decode cX0_keep 34 = .ok (.aload_n 0, 1) := by decide +kernel
theorem dX0_keep_35 : decode cX0_keep 35 = .ok (.getfield 17, 3) := by decide +kernel
theorem dX0_keep_38 : decode cX0_keep 38 = .ok (.aload_n 0, 1) := by decide +kernel
theorem dX0_keep_39 : decode cX0_keep 39 = .ok (.getfield 11, 3) := by decide +kernel
theorem dX0_keep_42 : decode cX0_keep 42 = .ok (.arraylength, 1) := by decide +kernel
theorem dX0_keep_43 : decode cX0_keep 43 = .ok (.if_icmp .ge 54, 3) := by decide +kernel
theorem dX0_keep_46 : decode cX0_keep 46 = .ok (.aload_n 0, 1) := by decide +kernel
theorem dX0_keep_47 : decode cX0_keep 47 = .ok (.getfield 11, 3) := by decide +kernel
theorem dX0_keep_50 : decode cX0_keep 50 = .ok (.aload_n 0, 1) := by decide +kernel
theorem dX0_keep_51 : decode cX0_keep 51 = .ok (.getfield 17, 3) := by decide +kernel
theorem dX0_keep_54 : decode cX0_keep 54 = .ok (.aaload, 1) := by decide +kernel
theorem dX0_keep_55 : decode cX0_keep 55 = .ok (.ifnonnull 19, 3) := by decide +kernel
theorem dX0_keep_58 : decode cX0_keep 58 = .ok (.aload_n 0, 1) := by decide +kernel
theorem dX0_keep_59 : decode cX0_keep 59 = .ok (.getfield 11, 3) := by decide +kernel
theorem dX0_keep_62 : decode cX0_keep 62 = .ok (.aload_n 0, 1) := by decide +kernel
theorem dX0_keep_63 : decode cX0_keep 63 = .ok (.getfield 17, 3) := by decide +kernel
theorem dX0_keep_66 : decode cX0_keep 66 = .ok (.new 9, 3) := by decide +kernel
theorem dX0_keep_69 : decode cX0_keep 69 = .ok (.dup, 1) := by decide +kernel
theorem dX0_keep_70 : decode cX0_keep 70 = .ok (.invokespecial 24, 3) := by decide +kernel
theorem dX0_keep_73 : decode cX0_keep 73 = .ok (.aastore, 1) := by decide +kernel
theorem dX0_keep_74 : decode cX0_keep 74 = .ok (.aload_n 0, 1) := by decide +kernel
theorem dX0_keep_75 : decode cX0_keep 75 = .ok (.getfield 11, 3) := by decide +kernel
theorem dX0_keep_78 : decode cX0_keep 78 = .ok (.aload_n 0, 1) := by decide +kernel
theorem dX0_keep_79 : decode cX0_keep 79 = .ok (.getfield 17, 3) := by decide +kernel
theorem dX0_keep_82 : decode cX0_keep 82 = .ok (.aaload, 1) := by decide +kernel
theorem dX0_keep_83 : decode cX0_keep 83 = .ok (.aload_n 1, 1) := by decide +kernel
theorem dX0_keep_84 : decode cX0_keep 84 = .ok (.invokevirtual 25, 3) := by decide +kernel
theorem dX0_keep_87 : decode cX0_keep 87 = .ok (.aload_n 0, 1) := by decide +kernel
theorem dX0_keep_88 : decode cX0_keep 88 = .ok (.dup, 1) := by decide +kernel
theorem dX0_keep_89 : decode cX0_keep 89 = .ok (.getfield 17, 3) := by decide +kernel
theorem dX0_keep_92 : decode cX0_keep 92 = .ok (.iconst 1, 1) := by decide +kernel
theorem dX0_keep_93 : decode cX0_keep 93 = .ok (.iadd, 1) := by decide +kernel
theorem dX0_keep_94 : decode cX0_keep 94 = .ok (.putfield 17, 3) := by decide +kernel
theorem dX0_keep_97 : decode cX0_keep 97 = .ok (.return_, 1) := by decide +kernel
theorem dX0_moveOldestToEnd_0 : decode cX0_moveOldestToEnd 0 = .ok (.aload_n 0, 1) := by decide +kernel
theorem dX0_moveOldestToEnd_1 : decode cX0_moveOldestToEnd 1 = .ok (.getfield 11, 3) := by decide +kernel
theorem dX0_moveOldestToEnd_4 : decode cX0_moveOldestToEnd 4 = .ok (.iconst 0, 1) := by decide +kernel
theorem dX0_moveOldestToEnd_5 : decode cX0_moveOldestToEnd 5 = .ok (.aaload, 1) := by decide +kernel
theorem dX0_moveOldestToEnd_6 : decode cX0_moveOldestToEnd 6 = .ok (.astore_n 1, 1) := by decide +kernel
theorem dX0_moveOldestToEnd_7 : decode cX0_moveOldestToEnd 7 = .ok (.iconst 1, 1) := by decide +kernel
theorem dX0_moveOldestToEnd_8 : decode cX0_moveOldestToEnd 8 = .ok (.istore_n 2, 1) := by decide +kernel
theorem dX0_moveOldestToEnd_9 : decode cX0_moveOldestToEnd 9 = .ok (.iload_n 2, 1) := by decide +kernel
theorem dX0_moveOldestToEnd_10 : decode cX0_moveOldestToEnd 10 = .ok (.aload_n 0, 1) := by decide +kernel
theorem dX0_moveOldestToEnd_11 : decode cX0_moveOldestToEnd 11 = .ok (.getfield 11, 3) := by decide +kernel
theorem dX0_moveOldestToEnd_14 : decode cX0_moveOldestToEnd 14 = .ok (.arraylength, 1) := by decide +kernel
theorem dX0_moveOldestToEnd_15 : decode cX0_moveOldestToEnd 15 = .ok (.if_icmp .ge 23, 3) := by decide +kernel
theorem dX0_moveOldestToEnd_18 : decode cX0_moveOldestToEnd 18 = .ok (.aload_n 0, 1) := by decide +kernel
theorem dX0_moveOldestToEnd_19 : decode cX0_moveOldestToEnd 19 = .ok (.getfield 11, 3) := by decide +kernel
theorem dX0_moveOldestToEnd_22 : decode cX0_moveOldestToEnd 22 = .ok (.iload_n 2, 1) := by decide +kernel
theorem dX0_moveOldestToEnd_23 : decode cX0_moveOldestToEnd 23 = .ok (.iconst 1, 1) := by decide +kernel
theorem dX0_moveOldestToEnd_24 : decode cX0_moveOldestToEnd 24 = .ok (.isub, 1) := by decide +kernel
theorem dX0_moveOldestToEnd_25 : decode cX0_moveOldestToEnd 25 = .ok (.aload_n 0, 1) := by decide +kernel
theorem dX0_moveOldestToEnd_26 : decode cX0_moveOldestToEnd 26 = .ok (.getfield 11, 3) := by decide +kernel
theorem dX0_moveOldestToEnd_29 : decode cX0_moveOldestToEnd 29 = .ok (.iload_n 2, 1) := by decide +kernel
theorem dX0_moveOldestToEnd_30 : decode cX0_moveOldestToEnd 30 = .ok (.aaload, 1) := by decide +kernel
theorem dX0_moveOldestToEnd_31 : decode cX0_moveOldestToEnd 31 = .ok (.aastore, 1) := by decide +kernel
theorem dX0_moveOldestToEnd_32 : decode cX0_moveOldestToEnd 32 = .ok (.iinc 2 1, 3) := by decide +kernel
theorem dX0_moveOldestToEnd_35 : decode cX0_moveOldestToEnd 35 = .ok (.goto (-26), 3) := by decide +kernel
theorem dX0_moveOldestToEnd_38 : decode cX0_moveOldestToEnd 38 = .ok (.aload_n 0, 1) := by decide +kernel
theorem dX0_moveOldestToEnd_39 : decode cX0_moveOldestToEnd 39 = .ok (.getfield 11, 3) := by decide +kernel
theorem dX0_moveOldestToEnd_42 : decode cX0_moveOldestToEnd 42 = .ok (.aload_n 0, 1) := by decide +kernel
theorem dX0_moveOldestToEnd_43 : decode cX0_moveOldestToEnd 43 = .ok (.getfield 11, 3) := by decide +kernel
theorem dX0_moveOldestToEnd_46 : decode cX0_moveOldestToEnd 46 = .ok (.arraylength, 1) := by decide +kernel
theorem dX0_moveOldestToEnd_47 : decode cX0_moveOldestToEnd 47 = .ok (.iconst 1, 1) := by decide +kernel
theorem dX0_moveOldestToEnd_48 : decode cX0_moveOldestToEnd 48 = .ok (.isub, 1) := by decide +kernel
theorem dX0_moveOldestToEnd_49 : decode cX0_moveOldestToEnd 49 = .ok (.aload_n 1, 1) := by decide +kernel
theorem dX0_moveOldestToEnd_50 : decode cX0_moveOldestToEnd 50 = .ok (.aastore, 1) := by decide +kernel
theorem dX0_moveOldestToEnd_51 : decode cX0_moveOldestToEnd 51 = .ok (.return_, 1) := by decide +kernel
theorem dX1_init_0 : decode cX1_init 0 = .ok (.aload_n 0, 1) := by decide +kernel
theorem dX1_init_1 : decode cX1_init 1 = .ok (.invokespecial 3, 3) := by decide +kernel
theorem dX1_init_4 : decode cX1_init 4 = .ok (.aload_n 0, 1) := by decide +kernel
theorem dX1_init_5 : decode cX1_init 5 = .ok (.bipush 64, 2) := by decide +kernel
theorem dX1_init_7 : decode cX1_init 7 = .ok (.newarray .long, 2) := by decide +kernel
theorem dX1_init_9 : decode cX1_init 9 = .ok (.putfield 9, 3) := by decide +kernel
theorem dX1_init_12 : decode cX1_init 12 = .ok (.aload_n 0, 1) := by decide +kernel
theorem dX1_init_13 : decode cX1_init 13 = .ok (.sipush 729, 3) := by decide +kernel
theorem dX1_init_16 : decode cX1_init 16 = .ok (.newarray .int, 2) := by decide +kernel
theorem dX1_init_18 : decode cX1_init 18 = .ok (.putfield 15, 3) := by decide +kernel
theorem dX1_init_21 : decode cX1_init 21 = .ok (.aload_n 0, 1) := by decide +kernel
theorem dX1_init_22 : decode cX1_init 22 = .ok (.sipush 729, 3) := by decide +kernel
theorem dX1_init_25 : decode cX1_init 25 = .ok (.newarray .long, 2) := by decide +kernel
theorem dX1_init_27 : decode cX1_init 27 = .ok (.putfield 19, 3) := by decide +kernel
theorem dX1_init_30 : decode cX1_init 30 = .ok (.return_, 1) := by decide +kernel
set_option maxRecDepth 20000 in
theorem ggX1_find_X1_findBad : GoodIn wsX1_find wsX1_findBad := goodIn_r _ [6, 7, 8, 9, 10, 5, 11, 12, 13, 14, 15, 16, 17, 18, 32, 33, 34, 35] (by decide +kernel) (by decide +kernel)
set_option maxRecDepth 20000 in
theorem gX1_find_X1_findBad : GoodIn wsX1_find (wsV RX1 26 RX1 yX1_findBad wsX1_findBad) := goodIn_app (goodIn_of _ (by decide +kernel)) ggX1_find_X1_findBad
set_option maxRecDepth 20000 in
theorem ggX1_find_X1_addWith : GoodIn wsX1_find wsX1_addWith := goodIn_r _ [22, 12, 1, 23, 24, 8, 9, 10, 5, 11, 7, 25, 26, 15, 27, 28, 29, 30, 31, 14, 16, 17, 18, 32, 33, 34, 35] (by decide +kernel) (by decide +kernel)
set_option maxRecDepth 20000 in
theorem gX1_find_X1_addWith : GoodIn wsX1_find (wsV RX1 30 RX1 yX1_addWith wsX1_addWith) := goodIn_app (goodIn_of _ (by decide +kernel)) ggX1_find_X1_addWith
theorem dX1_find_0 : decode cX1_find 0 = .ok (.aload_n 0, 1) := by decide +kernel
theorem dX1_find_1 : decode cX1_find 1 = .ok (.iconst 0, 1) := by decide +kernel
theorem dX1_find_2 : decode cX1_find 2 = .ok (.putfield 22, 3) := by decide +kernel
theorem dX1_find_5 : decode cX1_find 5 = .ok (.aload_n 0, 1) := by decide +kernel
theorem dX1_find_6 : decode cX1_find 6 = .ok (.iload_n 2, 1) := by decide +kernel
theorem dX1_find_7 : decode cX1_find 7 = .ok (.lload_n 3, 1) := by decide +kernel
theorem dX1_find_8 : decode cX1_find 8 = .ok (.invokevirtual 26, 3) := by decide +kernel
theorem dX1_find_11 : decode cX1_find 11 = .ok (.iconst 0, 1) := by decide +kernel
theorem dX1_find_12 : decode cX1_find 12 = .ok (.istore 5, 2) := by decide +kernel
theorem dX1_find_14 : decode cX1_find 14 = .ok (.iload 5, 2) := by decide +kernel
theorem dX1_find_16 : decode cX1_find 16 = .ok (.bipush 64, 2) := by decide +kernel
theorem dX1_find_18 : decode cX1_find 18 = .ok (.if_icmp .ge 25, 3) := by decide +kernel
theorem dX1_find_21 : decode cX1_find 21 = .ok (.iload 5, 2) := by decide +kernel
theorem dX1_find_23 : decode cX1_find 23 = .ok (.iload_n 2, 1) := by decide +kernel
theorem dX1_find_24 : decode cX1_find 24 = .ok (.iconst (-1), 1) := by decide +kernel
theorem dX1_find_25 : decode cX1_find 25 = .ok (.ixor, 1) := by decide +kernel
theorem dX1_find_26 : decode cX1_find 26 = .ok (.iand, 1) := by decide +kernel
theorem dX1_find_27 : decode cX1_find 27 = .ok (.ifCond .ne 10, 3) := by decide +kernel
theorem dX1_find_30 : decode cX1_find 30 = .ok (.aload_n 0, 1) := by decide +kernel
theorem dX1_find_31 : decode cX1_find 31 = .ok (.iload_n 1, 1) := by decide +kernel
theorem dX1_find_32 : decode cX1_find 32 = .ok (.iload 5, 2) := by decide +kernel
theorem dX1_find_34 : decode cX1_find 34 = .ok (.invokevirtual 30, 3) := by decide +kernel
theorem dX1_find_37 : decode cX1_find 37 = .ok (.iinc 5 1, 3) := by decide +kernel
theorem dX1_find_40 : decode cX1_find 40 = .ok (.goto (-26), 3) := by decide +kernel
theorem dX1_find_43 : decode cX1_find 43 = .ok (.return_, 1) := by decide +kernel
set_option maxRecDepth 20000 in
theorem ggX1_findBad_X1_badWith : GoodIn wsX1_findBad wsX1_badWith := goodIn_r _ [6, 1, 7, 14, 15, 16, 17] (by decide +kernel) (by decide +kernel)
set_option maxRecDepth 20000 in
theorem gX1_findBad_X1_badWith : GoodIn wsX1_findBad (wsV RX1 34 RX1 yX1_badWith wsX1_badWith) := goodIn_app (goodIn_of _ (by decide +kernel)) ggX1_findBad_X1_badWith
set_option maxRecDepth 20000 in
theorem ggX1_findBad_X2_alikeTo : GoodIn wsX1_findBad wsX2_alikeTo := goodIn_r _ [11, 12, 13] (by decide +kernel) (by decide +kernel)
set_option maxRecDepth 20000 in
theorem gX1_findBad_X2_alikeTo : GoodIn wsX1_findBad (va_wsS RX1 38 yX2_alikeTo wsX2_alikeTo) := goodIn_app (goodIn_of _ (by decide +kernel)) ggX1_findBad_X2_alikeTo
theorem dX1_findBad_0 : decode cX1_findBad 0 = .ok (.bipush 63, 2) := by decide +kernel
theorem dX1_findBad_2 : decode cX1_findBad 2 = .ok (.istore 4, 2) := by decide +kernel
theorem dX1_findBad_4 : decode cX1_findBad 4 = .ok (.iload 4, 2) := by decide +kernel
theorem dX1_findBad_6 : decode cX1_findBad 6 = .ok (.ifCond .lt 64, 3) := by decide +kernel
theorem dX1_findBad_9 : decode cX1_findBad 9 = .ok (.iload 4, 2) := by decide +kernel
theorem dX1_findBad_11 : decode cX1_findBad 11 = .ok (.iload_n 1, 1) := by decide +kernel
theorem dX1_findBad_12 : decode cX1_findBad 12 = .ok (.iconst (-1), 1) := by decide +kernel
theorem dX1_findBad_13 : decode cX1_findBad 13 = .ok (.ixor, 1) := by decide +kernel
theorem dX1_findBad_14 : decode cX1_findBad 14 = .ok (.iand, 1) := by decide +kernel
theorem dX1_findBad_15 : decode cX1_findBad 15 = .ok (.ifCond .ne 49, 3) := by decide +kernel
theorem dX1_findBad_18 : decode cX1_findBad 18 = .ok (.iload_n 1, 1) := by decide +kernel
theorem dX1_findBad_19 : decode cX1_findBad 19 = .ok (.iload 4, 2) := by decide +kernel
theorem dX1_findBad_21 : decode cX1_findBad 21 = .ok (.iconst (-1), 1) := by decide +kernel
theorem dX1_findBad_22 : decode cX1_findBad 22 = .ok (.ixor, 1) := by decide +kernel
theorem dX1_findBad_23 : decode cX1_findBad 23 = .ok (.iand, 1) := by decide +kernel
theorem dX1_findBad_24 : decode cX1_findBad 24 = .ok (.istore 5, 2) := by decide +kernel
theorem dX1_findBad_26 : decode cX1_findBad 26 = .ok (.iload 5, 2) := by decide +kernel
theorem dX1_findBad_28 : decode cX1_findBad 28 = .ok (.iload 5, 2) := by decide +kernel
theorem dX1_findBad_30 : decode cX1_findBad 30 = .ok (.ineg, 1) := by decide +kernel
theorem dX1_findBad_31 : decode cX1_findBad 31 = .ok (.iand, 1) := by decide +kernel
theorem dX1_findBad_32 : decode cX1_findBad 32 = .ok (.istore 6, 2) := by decide +kernel
theorem dX1_findBad_34 : decode cX1_findBad 34 = .ok (.aload_n 0, 1) := by decide +kernel
theorem dX1_findBad_35 : decode cX1_findBad 35 = .ok (.getfield 9, 3) := by decide +kernel
theorem dX1_findBad_38 : decode cX1_findBad 38 = .ok (.iload 4, 2) := by decide +kernel
theorem dX1_findBad_40 : decode cX1_findBad 40 = .ok (.iload 5, 2) := by decide +kernel
theorem dX1_findBad_42 : decode cX1_findBad 42 = .ok (.ifCond .ne 7, 3) := by decide +kernel
theorem dX1_findBad_45 : decode cX1_findBad 45 = .ok (.lload_n 2, 1) := by decide +kernel
theorem dX1_findBad_46 : decode cX1_findBad 46 = .ok (.goto 17, 3) := by decide +kernel
theorem dX1_findBad_49 : decode cX1_findBad 49 = .ok (.aload_n 0, 1) := by decide +kernel
theorem dX1_findBad_50 : decode cX1_findBad 50 = .ok (.iload 4, 2) := by decide +kernel
theorem dX1_findBad_52 : decode cX1_findBad 52 = .ok (.iload 6, 2) := by decide +kernel
theorem dX1_findBad_54 : decode cX1_findBad 54 = .ok (.ior, 1) := by decide +kernel
theorem dX1_findBad_55 : decode cX1_findBad 55 = .ok (.invokevirtual 34, 3) := by decide +kernel
theorem dX1_findBad_58 : decode cX1_findBad 58 = .ok (.iload 6, 2) := by decide +kernel
theorem dX1_findBad_60 : decode cX1_findBad 60 = .ok (.invokestatic 38, 3) := by decide +kernel
theorem dX1_findBad_63 : decode cX1_findBad 63 = .ok (.lastore, 1) := by decide +kernel
theorem dX1_findBad_64 : decode cX1_findBad 64 = .ok (.iinc 4 (-1), 3) := by decide +kernel
theorem dX1_findBad_67 : decode cX1_findBad 67 = .ok (.goto (-63), 3) := by decide +kernel
theorem dX1_findBad_70 : decode cX1_findBad 70 = .ok (.return_, 1) := by decide +kernel
theorem dX1_badWith_0 : decode cX1_badWith 0 = .ok (.iload_n 1, 1) := by decide +kernel
theorem dX1_badWith_1 : decode cX1_badWith 1 = .ok (.ifCond .lt 18, 3) := by decide +kernel
theorem dX1_badWith_4 : decode cX1_badWith 4 = .ok (.iload_n 1, 1) := by decide +kernel
theorem dX1_badWith_5 : decode cX1_badWith 5 = .ok (.bipush 64, 2) := by decide +kernel
theorem dX1_badWith_7 : decode cX1_badWith 7 = .ok (.if_icmp .ge 12, 3) := by decide +kernel
theorem dX1_badWith_10 : decode cX1_badWith 10 = .ok (.aload_n 0, 1) := by decide +kernel
theorem dX1_badWith_11 : decode cX1_badWith 11 = .ok (.getfield 9, 3) := by decide +kernel
theorem dX1_badWith_14 : decode cX1_badWith 14 = .ok (.iload_n 1, 1) := by decide +kernel
theorem dX1_badWith_15 : decode cX1_badWith 15 = .ok (.laload, 1) := by decide +kernel
theorem dX1_badWith_16 : decode cX1_badWith 16 = .ok (.goto 6, 3) := by decide +kernel
theorem dX1_badWith_19 : decode cX1_badWith 19 = .ok (.ldc2_w 44, 3) := by decide +kernel
theorem dX1_badWith_22 : decode cX1_badWith 22 = .ok (.lreturn, 1) := by decide +kernel
set_option maxRecDepth 20000 in
theorem ggX1_addWith_X1_badWith : GoodIn wsX1_addWith wsX1_badWith := goodIn_r _ [9, 10, 1, 23, 24, 25, 26] (by decide +kernel) (by decide +kernel)
set_option maxRecDepth 20000 in
theorem gX1_addWith_X1_badWith : GoodIn wsX1_addWith (wsV RX1 34 RX1 yX1_badWith wsX1_badWith) := goodIn_app (goodIn_of _ (by decide +kernel)) ggX1_addWith_X1_badWith
set_option maxRecDepth 20000 in
theorem ggX1_addWith_X2_inProduct : GoodIn wsX1_addWith wsX2_inProduct := goodIn_r _ [14, 15, 16, 13, 17, 18, 19, 20, 21, 22] (by decide +kernel) (by decide +kernel)
set_option maxRecDepth 20000 in
theorem gX1_addWith_X2_inProduct : GoodIn wsX1_addWith (va_wsS RX1 46 yX2_inProduct wsX2_inProduct) := goodIn_app (goodIn_of _ (by decide +kernel)) ggX1_addWith_X2_inProduct
theorem dX1_addWith_0 : decode cX1_addWith 0 = .ok (.aload_n 0, 1) := by decide +kernel
theorem dX1_addWith_1 : decode cX1_addWith 1 = .ok (.iload_n 2, 1) := by decide +kernel
theorem dX1_addWith_2 : decode cX1_addWith 2 = .ok (.invokevirtual 34, 3) := by decide +kernel
theorem dX1_addWith_5 : decode cX1_addWith 5 = .ok (.ldc2_w 44, 3) := by decide +kernel
theorem dX1_addWith_8 : decode cX1_addWith 8 = .ok (.lxor, 1) := by decide +kernel
theorem dX1_addWith_9 : decode cX1_addWith 9 = .ok (.lstore_n 3, 1) := by decide +kernel
theorem dX1_addWith_10 : decode cX1_addWith 10 = .ok (.iconst 0, 1) := by decide +kernel
theorem dX1_addWith_11 : decode cX1_addWith 11 = .ok (.istore 5, 2) := by decide +kernel
theorem dX1_addWith_13 : decode cX1_addWith 13 = .ok (.iload 5, 2) := by decide +kernel
theorem dX1_addWith_15 : decode cX1_addWith 15 = .ok (.iload_n 1, 1) := by decide +kernel
theorem dX1_addWith_16 : decode cX1_addWith 16 = .ok (.if_icmp .ge 34, 3) := by decide +kernel
theorem dX1_addWith_19 : decode cX1_addWith 19 = .ok (.iload_n 2, 1) := by decide +kernel
theorem dX1_addWith_20 : decode cX1_addWith 20 = .ok (.iconst 1, 1) := by decide +kernel
theorem dX1_addWith_21 : decode cX1_addWith 21 = .ok (.iload 5, 2) := by decide +kernel
theorem dX1_addWith_23 : decode cX1_addWith 23 = .ok (.ishl, 1) := by decide +kernel
theorem dX1_addWith_24 : decode cX1_addWith 24 = .ok (.iconst (-1), 1) := by decide +kernel
theorem dX1_addWith_25 : decode cX1_addWith 25 = .ok (.ixor, 1) := by decide +kernel
theorem dX1_addWith_26 : decode cX1_addWith 26 = .ok (.iand, 1) := by decide +kernel
theorem dX1_addWith_27 : decode cX1_addWith 27 = .ok (.istore 6, 2) := by decide +kernel
theorem dX1_addWith_29 : decode cX1_addWith 29 = .ok (.iload 6, 2) := by decide +kernel
theorem dX1_addWith_31 : decode cX1_addWith 31 = .ok (.iload_n 2, 1) := by decide +kernel
theorem dX1_addWith_32 : decode cX1_addWith 32 = .ok (.if_icmp .eq 12, 3) := by decide +kernel
theorem dX1_addWith_35 : decode cX1_addWith 35 = .ok (.lload_n 3, 1) := by decide +kernel
theorem dX1_addWith_36 : decode cX1_addWith 36 = .ok (.aload_n 0, 1) := by decide +kernel
theorem dX1_addWith_37 : decode cX1_addWith 37 = .ok (.iload 6, 2) := by decide +kernel
theorem dX1_addWith_39 : decode cX1_addWith 39 = .ok (.invokevirtual 34, 3) := by decide +kernel
theorem dX1_addWith_42 : decode cX1_addWith 42 = .ok (.land, 1) := by decide +kernel
theorem dX1_addWith_43 : decode cX1_addWith 43 = .ok (.lstore_n 3, 1) := by decide +kernel
theorem dX1_addWith_44 : decode cX1_addWith 44 = .ok (.iinc 5 1, 3) := by decide +kernel
theorem dX1_addWith_47 : decode cX1_addWith 47 = .ok (.goto (-34), 3) := by decide +kernel
theorem dX1_addWith_50 : decode cX1_addWith 50 = .ok (.iconst 0, 1) := by decide +kernel
theorem dX1_addWith_51 : decode cX1_addWith 51 = .ok (.istore 5, 2) := by decide +kernel
theorem dX1_addWith_53 : decode cX1_addWith 53 = .ok (.iload 5, 2) := by decide +kernel
theorem dX1_addWith_55 : decode cX1_addWith 55 = .ok (.iload_n 2, 1) := by decide +kernel
theorem dX1_addWith_56 : decode cX1_addWith 56 = .ok (.if_icmp .gt 87, 3) := by decide +kernel
theorem dX1_addWith_59 : decode cX1_addWith 59 = .ok (.lload_n 3, 1) := by decide +kernel
theorem dX1_addWith_60 : decode cX1_addWith 60 = .ok (.lconst 0, 1) := by decide +kernel
theorem dX1_addWith_61 : decode cX1_addWith 61 = .ok (.lcmp, 1) := by decide +kernel
theorem dX1_addWith_62 : decode cX1_addWith 62 = .ok (.ifCond .eq 81, 3) := by decide +kernel
theorem dX1_addWith_65 : decode cX1_addWith 65 = .ok (.iload 5, 2) := by decide +kernel
theorem dX1_addWith_67 : decode cX1_addWith 67 = .ok (.iload_n 2, 1) := by decide +kernel
theorem dX1_addWith_68 : decode cX1_addWith 68 = .ok (.iconst (-1), 1) := by decide +kernel
theorem dX1_addWith_69 : decode cX1_addWith 69 = .ok (.ixor, 1) := by decide +kernel
theorem dX1_addWith_70 : decode cX1_addWith 70 = .ok (.iand, 1) := by decide +kernel
theorem dX1_addWith_71 : decode cX1_addWith 71 = .ok (.ifCond .ne 66, 3) := by decide +kernel
theorem dX1_addWith_74 : decode cX1_addWith 74 = .ok (.lload_n 3, 1) := by decide +kernel
theorem dX1_addWith_75 : decode cX1_addWith 75 = .ok (.iload 5, 2) := by decide +kernel
theorem dX1_addWith_77 : decode cX1_addWith 77 = .ok (.lushr, 1) := by decide +kernel
theorem dX1_addWith_78 : decode cX1_addWith 78 = .ok (.lconst 1, 1) := by decide +kernel
theorem dX1_addWith_79 : decode cX1_addWith 79 = .ok (.land, 1) := by decide +kernel
theorem dX1_addWith_80 : decode cX1_addWith 80 = .ok (.lconst 0, 1) := by decide +kernel
theorem dX1_addWith_81 : decode cX1_addWith 81 = .ok (.lcmp, 1) := by decide +kernel
theorem dX1_addWith_82 : decode cX1_addWith 82 = .ok (.ifCond .eq 55, 3) := by decide +kernel
theorem dX1_addWith_85 : decode cX1_addWith 85 = .ok (.aload_n 0, 1) := by decide +kernel
theorem dX1_addWith_86 : decode cX1_addWith 86 = .ok (.getfield 22, 3) := by decide +kernel
theorem dX1_addWith_89 : decode cX1_addWith 89 = .ok (.sipush 729, 3) := by decide +kernel
theorem dX1_addWith_92 : decode cX1_addWith 92 = .ok (.if_icmp .ge 45, 3) := by decide +kernel
theorem dX1_addWith_95 : decode cX1_addWith 95 = .ok (.aload_n 0, 1) := by decide +kernel
theorem dX1_addWith_96 : decode cX1_addWith 96 = .ok (.getfield 15, 3) := by decide +kernel
theorem dX1_addWith_99 : decode cX1_addWith 99 = .ok (.aload_n 0, 1) := by decide +kernel
theorem dX1_addWith_100 : decode cX1_addWith 100 = .ok (.getfield 22, 3) := by decide +kernel
theorem dX1_addWith_103 : decode cX1_addWith 103 = .ok (.iload_n 2, 1) := by decide +kernel
theorem dX1_addWith_104 : decode cX1_addWith 104 = .ok (.bipush 64, 2) := by decide +kernel
theorem dX1_addWith_106 : decode cX1_addWith 106 = .ok (.imul, 1) := by decide +kernel
theorem dX1_addWith_107 : decode cX1_addWith 107 = .ok (.iload 5, 2) := by decide +kernel
theorem dX1_addWith_109 : decode cX1_addWith 109 = .ok (.iadd, 1) := by decide +kernel
theorem dX1_addWith_110 : decode cX1_addWith 110 = .ok (.iastore, 1) := by decide +kernel
theorem dX1_addWith_111 : decode cX1_addWith 111 = .ok (.aload_n 0, 1) := by decide +kernel
theorem dX1_addWith_112 : decode cX1_addWith 112 = .ok (.getfield 19, 3) := by decide +kernel
theorem dX1_addWith_115 : decode cX1_addWith 115 = .ok (.aload_n 0, 1) := by decide +kernel
theorem dX1_addWith_116 : decode cX1_addWith 116 = .ok (.getfield 22, 3) := by decide +kernel
theorem dX1_addWith_119 : decode cX1_addWith 119 = .ok (.iload_n 1, 1) := by decide +kernel
theorem dX1_addWith_120 : decode cX1_addWith 120 = .ok (.iload_n 2, 1) := by decide +kernel
theorem dX1_addWith_121 : decode cX1_addWith 121 = .ok (.iload 5, 2) := by decide +kernel
theorem dX1_addWith_123 : decode cX1_addWith 123 = .ok (.invokestatic 46, 3) := by decide +kernel
theorem dX1_addWith_126 : decode cX1_addWith 126 = .ok (.lastore, 1) := by decide +kernel
theorem dX1_addWith_127 : decode cX1_addWith 127 = .ok (.aload_n 0, 1) := by decide +kernel
theorem dX1_addWith_128 : decode cX1_addWith 128 = .ok (.dup, 1) := by decide +kernel
theorem dX1_addWith_129 : decode cX1_addWith 129 = .ok (.getfield 22, 3) := by decide +kernel
theorem dX1_addWith_132 : decode cX1_addWith 132 = .ok (.iconst 1, 1) := by decide +kernel
theorem dX1_addWith_133 : decode cX1_addWith 133 = .ok (.iadd, 1) := by decide +kernel
theorem dX1_addWith_134 : decode cX1_addWith 134 = .ok (.putfield 22, 3) := by decide +kernel
theorem dX1_addWith_137 : decode cX1_addWith 137 = .ok (.iinc 5 1, 3) := by decide +kernel
theorem dX1_addWith_140 : decode cX1_addWith 140 = .ok (.goto (-87), 3) := by decide +kernel
theorem dX1_addWith_143 : decode cX1_addWith 143 = .ok (.return_, 1) := by decide +kernel
set_option maxRecDepth 20000 in
theorem ggX1_bestFor_J13_bitCount_95d88 : GoodIn wsX1_bestFor wsJ13_bitCount_95d88 := goodIn_r _ [7, 8, 9, 10] (by decide +kernel) (by decide +kernel)
set_option maxRecDepth 20000 in
theorem gX1_bestFor_J13_bitCount_95d88 : GoodIn wsX1_bestFor (va_wsS RX1 50 yJ13_bitCount_95d88 wsJ13_bitCount_95d88) := goodIn_app (goodIn_of _ (by decide +kernel)) ggX1_bestFor_J13_bitCount_95d88
set_option maxRecDepth 20000 in
theorem ggX1_bestFor_J6_bitCount_0f7a4 : GoodIn wsX1_bestFor wsJ6_bitCount_0f7a4 := goodIn_r _ [14, 15, 16, 17] (by decide +kernel) (by decide +kernel)
set_option maxRecDepth 20000 in
theorem gX1_bestFor_J6_bitCount_0f7a4 : GoodIn wsX1_bestFor (va_wsS RX1 56 yJ6_bitCount_0f7a4 wsJ6_bitCount_0f7a4) := goodIn_app (goodIn_of _ (by decide +kernel)) ggX1_bestFor_J6_bitCount_0f7a4
theorem dX1_bestFor_0 : decode cX1_bestFor 0 = .ok (.iconst (-1), 1) := by decide +kernel
theorem dX1_bestFor_1 : decode cX1_bestFor 1 = .ok (.istore_n 3, 1) := by decide +kernel
theorem dX1_bestFor_2 : decode cX1_bestFor 2 = .ok (.iconst 0, 1) := by decide +kernel
theorem dX1_bestFor_3 : decode cX1_bestFor 3 = .ok (.istore 4, 2) := by decide +kernel
theorem dX1_bestFor_5 : decode cX1_bestFor 5 = .ok (.iconst 0, 1) := by decide +kernel
theorem dX1_bestFor_6 : decode cX1_bestFor 6 = .ok (.istore 5, 2) := by decide +kernel
theorem dX1_bestFor_8 : decode cX1_bestFor 8 = .ok (.iconst 0, 1) := by decide +kernel
theorem dX1_bestFor_9 : decode cX1_bestFor 9 = .ok (.istore 6, 2) := by decide +kernel
theorem dX1_bestFor_11 : decode cX1_bestFor 11 = .ok (.iload 6, 2) := by decide +kernel
theorem dX1_bestFor_13 : decode cX1_bestFor 13 = .ok (.aload_n 0, 1) := by decide +kernel
theorem dX1_bestFor_14 : decode cX1_bestFor 14 = .ok (.getfield 22, 3) := by decide +kernel
theorem dX1_bestFor_17 : decode cX1_bestFor 17 = .ok (.if_icmp .ge 83, 3) := by decide +kernel
theorem dX1_bestFor_20 : decode cX1_bestFor 20 = .ok (.iload 6, 2) := by decide +kernel
theorem dX1_bestFor_22 : decode cX1_bestFor 22 = .ok (.sipush 729, 3) := by decide +kernel
theorem dX1_bestFor_25 : decode cX1_bestFor 25 = .ok (.if_icmp .ge 75, 3) := by decide +kernel
theorem dX1_bestFor_28 : decode cX1_bestFor 28 = .ok (.aload_n 0, 1) := by decide +kernel
theorem dX1_bestFor_29 : decode cX1_bestFor 29 = .ok (.getfield 19, 3) := by decide +kernel
theorem dX1_bestFor_32 : decode cX1_bestFor 32 = .ok (.iload 6, 2) := by decide +kernel
theorem dX1_bestFor_34 : decode cX1_bestFor 34 = .ok (.laload, 1) := by decide +kernel
theorem dX1_bestFor_35 : decode cX1_bestFor 35 = .ok (.lload_n 1, 1) := by decide +kernel
theorem dX1_bestFor_36 : decode cX1_bestFor 36 = .ok (.land, 1) := by decide +kernel
theorem dX1_bestFor_37 : decode cX1_bestFor 37 = .ok (.invokestatic 50, 3) := by decide +kernel
theorem dX1_bestFor_40 : decode cX1_bestFor 40 = .ok (.istore 7, 2) := by decide +kernel
theorem dX1_bestFor_42 : decode cX1_bestFor 42 = .ok (.aload_n 0, 1) := by decide +kernel
theorem dX1_bestFor_43 : decode cX1_bestFor 43 = .ok (.getfield 15, 3) := by decide +kernel
theorem dX1_bestFor_46 : decode cX1_bestFor 46 = .ok (.iload 6, 2) := by decide +kernel
theorem dX1_bestFor_48 : decode cX1_bestFor 48 = .ok (.iaload, 1) := by decide +kernel
theorem dX1_bestFor_49 : decode cX1_bestFor 49 = .ok (.bipush 64, 2) := by decide +kernel
theorem dX1_bestFor_51 : decode cX1_bestFor 51 = .ok (.idiv, 1) := by decide +kernel
theorem dX1_bestFor_52 : decode cX1_bestFor 52 = .ok (.invokestatic 56, 3) := by decide +kernel
theorem dX1_bestFor_55 : decode cX1_bestFor 55 = .ok (.istore 8, 2) := by decide +kernel
theorem dX1_bestFor_57 : decode cX1_bestFor 57 = .ok (.iload 7, 2) := by decide +kernel
theorem dX1_bestFor_59 : decode cX1_bestFor 59 = .ok (.iload 4, 2) := by decide +kernel
theorem dX1_bestFor_61 : decode cX1_bestFor 61 = .ok (.if_icmp .gt 22, 3) := by decide +kernel
theorem dX1_bestFor_64 : decode cX1_bestFor 64 = .ok (.iload 7, 2) := by decide +kernel
theorem dX1_bestFor_66 : decode cX1_bestFor 66 = .ok (.iload 4, 2) := by decide +kernel
theorem dX1_bestFor_68 : decode cX1_bestFor 68 = .ok (.if_icmp .ne 26, 3) := by decide +kernel
theorem dX1_bestFor_71 : decode cX1_bestFor 71 = .ok (.iload 7, 2) := by decide +kernel
theorem dX1_bestFor_73 : decode cX1_bestFor 73 = .ok (.ifCond .le 21, 3) := by decide +kernel
theorem dX1_bestFor_76 : decode cX1_bestFor 76 = .ok (.iload 8, 2) := by decide +kernel
theorem dX1_bestFor_78 : decode cX1_bestFor 78 = .ok (.iload 5, 2) := by decide +kernel
theorem dX1_bestFor_80 : decode cX1_bestFor 80 = .ok (.if_icmp .ge 14, 3) := by decide +kernel
theorem dX1_bestFor_83 : decode cX1_bestFor 83 = .ok (.iload 6, 2) := by decide +kernel
theorem dX1_bestFor_85 : decode cX1_bestFor 85 = .ok (.istore_n 3, 1) := by decide +kernel
theorem dX1_bestFor_86 : decode cX1_bestFor 86 = .ok (.iload 7, 2) := by decide +kernel
theorem dX1_bestFor_88 : decode cX1_bestFor 88 = .ok (.istore 4, 2) := by decide +kernel
theorem dX1_bestFor_90 : decode cX1_bestFor 90 = .ok (.iload 8, 2) := by decide +kernel
theorem dX1_bestFor_92 : decode cX1_bestFor 92 = .ok (.istore 5, 2) := by decide +kernel
theorem dX1_bestFor_94 : decode cX1_bestFor 94 = .ok (.iinc 6 1, 3) := by decide +kernel
theorem dX1_bestFor_97 : decode cX1_bestFor 97 = .ok (.goto (-86), 3) := by decide +kernel
theorem dX1_bestFor_100 : decode cX1_bestFor 100 = .ok (.iload_n 3, 1) := by decide +kernel
theorem dX1_bestFor_101 : decode cX1_bestFor 101 = .ok (.ireturn, 1) := by decide +kernel
theorem dX2_inputSet_0 : decode cX2_inputSet 0 = .ok (.iconst 1, 1) := by decide +kernel
theorem dX2_inputSet_1 : decode cX2_inputSet 1 = .ok (.iload_n 0, 1) := by decide +kernel
theorem dX2_inputSet_2 : decode cX2_inputSet 2 = .ok (.ishl, 1) := by decide +kernel
theorem dX2_inputSet_3 : decode cX2_inputSet 3 = .ok (.iconst 1, 1) := by decide +kernel
theorem dX2_inputSet_4 : decode cX2_inputSet 4 = .ok (.isub, 1) := by decide +kernel
theorem dX2_inputSet_5 : decode cX2_inputSet 5 = .ok (.ireturn, 1) := by decide +kernel
theorem dX2_ofInputs_0 : decode cX2_ofInputs 0 = .ok (.iload_n 0, 1) := by decide +kernel
theorem dX2_ofInputs_1 : decode cX2_ofInputs 1 = .ok (.bipush 6, 2) := by decide +kernel
theorem dX2_ofInputs_3 : decode cX2_ofInputs 3 = .ok (.if_icmp .lt 9, 3) := by decide +kernel
theorem dX2_ofInputs_6 : decode cX2_ofInputs 6 = .ok (.ldc2_w 9, 3) := by decide +kernel
theorem dX2_ofInputs_9 : decode cX2_ofInputs 9 = .ok (.goto 10, 3) := by decide +kernel
theorem dX2_ofInputs_12 : decode cX2_ofInputs 12 = .ok (.lconst 1, 1) := by decide +kernel
theorem dX2_ofInputs_13 : decode cX2_ofInputs 13 = .ok (.iconst 1, 1) := by decide +kernel
theorem dX2_ofInputs_14 : decode cX2_ofInputs 14 = .ok (.iload_n 0, 1) := by decide +kernel
theorem dX2_ofInputs_15 : decode cX2_ofInputs 15 = .ok (.ishl, 1) := by decide +kernel
theorem dX2_ofInputs_16 : decode cX2_ofInputs 16 = .ok (.lshl, 1) := by decide +kernel
theorem dX2_ofInputs_17 : decode cX2_ofInputs 17 = .ok (.lconst 1, 1) := by decide +kernel
theorem dX2_ofInputs_18 : decode cX2_ofInputs 18 = .ok (.lsub, 1) := by decide +kernel
theorem dX2_ofInputs_19 : decode cX2_ofInputs 19 = .ok (.lreturn, 1) := by decide +kernel
theorem dX2_alikeTo_0 : decode cX2_alikeTo 0 = .ok (.lload_n 0, 1) := by decide +kernel
theorem dX2_alikeTo_1 : decode cX2_alikeTo 1 = .ok (.lstore_n 3, 1) := by decide +kernel
theorem dX2_alikeTo_2 : decode cX2_alikeTo 2 = .ok (.iconst 0, 1) := by decide +kernel
theorem dX2_alikeTo_3 : decode cX2_alikeTo 3 = .ok (.istore 5, 2) := by decide +kernel
theorem dX2_alikeTo_5 : decode cX2_alikeTo 5 = .ok (.iload 5, 2) := by decide +kernel
theorem dX2_alikeTo_7 : decode cX2_alikeTo 7 = .ok (.getstatic 11, 3) := by decide +kernel
theorem dX2_alikeTo_10 : decode cX2_alikeTo 10 = .ok (.arraylength, 1) := by decide +kernel
theorem dX2_alikeTo_11 : decode cX2_alikeTo 11 = .ok (.if_icmp .ge 54, 3) := by decide +kernel
theorem dX2_alikeTo_14 : decode cX2_alikeTo 14 = .ok (.iload_n 2, 1) := by decide +kernel
theorem dX2_alikeTo_15 : decode cX2_alikeTo 15 = .ok (.iload 5, 2) := by decide +kernel
theorem dX2_alikeTo_17 : decode cX2_alikeTo 17 = .ok (.ishr, 1) := by decide +kernel
theorem dX2_alikeTo_18 : decode cX2_alikeTo 18 = .ok (.iconst 1, 1) := by decide +kernel
theorem dX2_alikeTo_19 : decode cX2_alikeTo 19 = .ok (.iand, 1) := by decide +kernel
theorem dX2_alikeTo_20 : decode cX2_alikeTo 20 = .ok (.ifCond .eq 39, 3) := by decide +kernel
theorem dX2_alikeTo_23 : decode cX2_alikeTo 23 = .ok (.getstatic 11, 3) := by decide +kernel
theorem dX2_alikeTo_26 : decode cX2_alikeTo 26 = .ok (.iload 5, 2) := by decide +kernel
theorem dX2_alikeTo_28 : decode cX2_alikeTo 28 = .ok (.laload, 1) := by decide +kernel
theorem dX2_alikeTo_29 : decode cX2_alikeTo 29 = .ok (.lstore 6, 2) := by decide +kernel
theorem dX2_alikeTo_31 : decode cX2_alikeTo 31 = .ok (.iconst 1, 1) := by decide +kernel
theorem dX2_alikeTo_32 : decode cX2_alikeTo 32 = .ok (.iload 5, 2) := by decide +kernel
theorem dX2_alikeTo_34 : decode cX2_alikeTo 34 = .ok (.ishl, 1) := by decide +kernel
theorem dX2_alikeTo_35 : decode cX2_alikeTo 35 = .ok (.istore 8, 2) := by decide +kernel
theorem dX2_alikeTo_37 : decode cX2_alikeTo 37 = .ok (.lload_n 3, 1) := by decide +kernel
theorem dX2_alikeTo_38 : decode cX2_alikeTo 38 = .ok (.lload_n 3, 1) := by decide +kernel
theorem dX2_alikeTo_39 : decode cX2_alikeTo 39 = .ok (.lload 6, 2) := by decide +kernel
theorem dX2_alikeTo_41 : decode cX2_alikeTo 41 = .ok (.land, 1) := by decide +kernel
theorem dX2_alikeTo_42 : decode cX2_alikeTo 42 = .ok (.iload 8, 2) := by decide +kernel
theorem dX2_alikeTo_44 : decode cX2_alikeTo 44 = .ok (.lushr, 1) := by decide +kernel
theorem dX2_alikeTo_45 : decode cX2_alikeTo 45 = .ok (.lload_n 3, 1) := by decide +kernel
theorem dX2_alikeTo_46 : decode cX2_alikeTo 46 = .ok (.lload 6, 2) := by decide +kernel
theorem dX2_alikeTo_48 : decode cX2_alikeTo 48 = .ok (.ldc2_w 9, 3) := by decide +kernel
theorem dX2_alikeTo_51 : decode cX2_alikeTo 51 = .ok (.lxor, 1) := by decide +kernel
theorem dX2_alikeTo_52 : decode cX2_alikeTo 52 = .ok (.land, 1) := by decide +kernel
theorem dX2_alikeTo_53 : decode cX2_alikeTo 53 = .ok (.iload 8, 2) := by decide +kernel
theorem dX2_alikeTo_55 : decode cX2_alikeTo 55 = .ok (.lshl, 1) := by decide +kernel
theorem dX2_alikeTo_56 : decode cX2_alikeTo 56 = .ok (.lor, 1) := by decide +kernel
theorem dX2_alikeTo_57 : decode cX2_alikeTo 57 = .ok (.lor, 1) := by decide +kernel
theorem dX2_alikeTo_58 : decode cX2_alikeTo 58 = .ok (.lstore_n 3, 1) := by decide +kernel
theorem dX2_alikeTo_59 : decode cX2_alikeTo 59 = .ok (.iinc 5 1, 3) := by decide +kernel
theorem dX2_alikeTo_62 : decode cX2_alikeTo 62 = .ok (.goto (-57), 3) := by decide +kernel
theorem dX2_alikeTo_65 : decode cX2_alikeTo 65 = .ok (.lload_n 3, 1) := by decide +kernel
theorem dX2_alikeTo_66 : decode cX2_alikeTo 66 = .ok (.lreturn, 1) := by decide +kernel
set_option maxRecDepth 20000 in
theorem ggX2_inProduct_X2_inputSet : GoodIn wsX2_inProduct wsX2_inputSet := goodIn_r _ [4] (by decide +kernel) (by decide +kernel)
set_option maxRecDepth 20000 in
theorem gX2_inProduct_X2_inputSet : GoodIn wsX2_inProduct (va_wsS RX2 17 yX2_inputSet wsX2_inputSet) := goodIn_app (goodIn_of _ (by decide +kernel)) ggX2_inProduct_X2_inputSet
set_option maxRecDepth 20000 in
theorem ggX2_inProduct_X2_alikeTo : GoodIn wsX2_inProduct wsX2_alikeTo := goodIn_r _ [7, 8, 9] (by decide +kernel) (by decide +kernel)
set_option maxRecDepth 20000 in
theorem gX2_inProduct_X2_alikeTo : GoodIn wsX2_inProduct (va_wsS RX2 21 yX2_alikeTo wsX2_alikeTo) := goodIn_app (goodIn_of _ (by decide +kernel)) ggX2_inProduct_X2_alikeTo
theorem dX2_inProduct_0 : decode cX2_inProduct 0 = .ok (.lconst 1, 1) := by decide +kernel
theorem dX2_inProduct_1 : decode cX2_inProduct 1 = .ok (.iload_n 2, 1) := by decide +kernel
theorem dX2_inProduct_2 : decode cX2_inProduct 2 = .ok (.lshl, 1) := by decide +kernel
theorem dX2_inProduct_3 : decode cX2_inProduct 3 = .ok (.iload_n 0, 1) := by decide +kernel
theorem dX2_inProduct_4 : decode cX2_inProduct 4 = .ok (.invokestatic 17, 3) := by decide +kernel
theorem dX2_inProduct_7 : decode cX2_inProduct 7 = .ok (.iload_n 1, 1) := by decide +kernel
theorem dX2_inProduct_8 : decode cX2_inProduct 8 = .ok (.iconst (-1), 1) := by decide +kernel
theorem dX2_inProduct_9 : decode cX2_inProduct 9 = .ok (.ixor, 1) := by decide +kernel
theorem dX2_inProduct_10 : decode cX2_inProduct 10 = .ok (.iand, 1) := by decide +kernel
theorem dX2_inProduct_11 : decode cX2_inProduct 11 = .ok (.invokestatic 21, 3) := by decide +kernel
theorem dX2_inProduct_14 : decode cX2_inProduct 14 = .ok (.lreturn, 1) := by decide +kernel
theorem dX3_init_0 : decode cX3_init 0 = .ok (.aload_n 0, 1) := by decide +kernel
theorem dX3_init_1 : decode cX3_init 1 = .ok (.invokespecial 3, 3) := by decide +kernel
theorem dX3_init_4 : decode cX3_init 4 = .ok (.aload_n 0, 1) := by decide +kernel
theorem dX3_init_5 : decode cX3_init 5 = .ok (.iconst 4, 1) := by decide +kernel
theorem dX3_init_6 : decode cX3_init 6 = .ok (.newarray .long, 2) := by decide +kernel
theorem dX3_init_8 : decode cX3_init 8 = .ok (.putfield 9, 3) := by decide +kernel
theorem dX3_init_11 : decode cX3_init 11 = .ok (.aload_n 0, 1) := by decide +kernel
theorem dX3_init_12 : decode cX3_init 12 = .ok (.iconst 4, 1) := by decide +kernel
theorem dX3_init_13 : decode cX3_init 13 = .ok (.newarray .long, 2) := by decide +kernel
theorem dX3_init_15 : decode cX3_init 15 = .ok (.putfield 15, 3) := by decide +kernel
theorem dX3_init_18 : decode cX3_init 18 = .ok (.aload_n 0, 1) := by decide +kernel
theorem dX3_init_19 : decode cX3_init 19 = .ok (.iconst 4, 1) := by decide +kernel
theorem dX3_init_20 : decode cX3_init 20 = .ok (.newarray .int, 2) := by decide +kernel
theorem dX3_init_22 : decode cX3_init 22 = .ok (.putfield 18, 3) := by decide +kernel
theorem dX3_init_25 : decode cX3_init 25 = .ok (.aload_n 0, 1) := by decide +kernel
theorem dX3_init_26 : decode cX3_init 26 = .ok (.iconst 4, 1) := by decide +kernel
theorem dX3_init_27 : decode cX3_init 27 = .ok (.newarray .int, 2) := by decide +kernel
theorem dX3_init_29 : decode cX3_init 29 = .ok (.putfield 22, 3) := by decide +kernel
theorem dX3_init_32 : decode cX3_init 32 = .ok (.return_, 1) := by decide +kernel
set_option maxRecDepth 20000 in
theorem ggX3_restart_X2_inputSet : GoodIn wsX3_restart wsX2_inputSet := goodIn_r _ [8] (by decide +kernel) (by decide +kernel)
set_option maxRecDepth 20000 in
theorem gX3_restart_X2_inputSet : GoodIn wsX3_restart (va_wsS RX3 29 yX2_inputSet wsX2_inputSet) := goodIn_app (goodIn_of _ (by decide +kernel)) ggX3_restart_X2_inputSet
set_option maxRecDepth 20000 in
theorem ggX3_restart_X2_ofInputs : GoodIn wsX3_restart wsX2_ofInputs := goodIn_r _ [11, 12] (by decide +kernel) (by decide +kernel)
set_option maxRecDepth 20000 in
theorem gX3_restart_X2_ofInputs : GoodIn wsX3_restart (va_wsS RX3 38 yX2_ofInputs wsX2_ofInputs) := goodIn_app (goodIn_of _ (by decide +kernel)) ggX3_restart_X2_ofInputs
theorem dX3_restart_0 : decode cX3_restart 0 = .ok (.aload_n 0, 1) := by decide +kernel
theorem dX3_restart_1 : decode cX3_restart 1 = .ok (.iload_n 1, 1) := by decide +kernel
theorem dX3_restart_2 : decode cX3_restart 2 = .ok (.putfield 25, 3) := by decide +kernel
theorem dX3_restart_5 : decode cX3_restart 5 = .ok (.aload_n 0, 1) := by decide +kernel
theorem dX3_restart_6 : decode cX3_restart 6 = .ok (.iload_n 1, 1) := by decide +kernel
theorem dX3_restart_7 : decode cX3_restart 7 = .ok (.invokestatic 29, 3) := by decide +kernel
theorem dX3_restart_10 : decode cX3_restart 10 = .ok (.putfield 35, 3) := by decide +kernel
theorem dX3_restart_13 : decode cX3_restart 13 = .ok (.iconst 0, 1) := by decide +kernel
theorem dX3_restart_14 : decode cX3_restart 14 = .ok (.istore_n 2, 1) := by decide +kernel
theorem dX3_restart_15 : decode cX3_restart 15 = .ok (.iload_n 2, 1) := by decide +kernel
theorem dX3_restart_16 : decode cX3_restart 16 = .ok (.iconst 4, 1) := by decide +kernel
theorem dX3_restart_17 : decode cX3_restart 17 = .ok (.if_icmp .ge 26, 3) := by decide +kernel
theorem dX3_restart_20 : decode cX3_restart 20 = .ok (.aload_n 0, 1) := by decide +kernel
theorem dX3_restart_21 : decode cX3_restart 21 = .ok (.getfield 9, 3) := by decide +kernel
theorem dX3_restart_24 : decode cX3_restart 24 = .ok (.iload_n 2, 1) := by decide +kernel
theorem dX3_restart_25 : decode cX3_restart 25 = .ok (.iload_n 1, 1) := by decide +kernel
theorem dX3_restart_26 : decode cX3_restart 26 = .ok (.invokestatic 38, 3) := by decide +kernel
theorem dX3_restart_29 : decode cX3_restart 29 = .ok (.lastore, 1) := by decide +kernel
theorem dX3_restart_30 : decode cX3_restart 30 = .ok (.aload_n 0, 1) := by decide +kernel
theorem dX3_restart_31 : decode cX3_restart 31 = .ok (.getfield 15, 3) := by decide +kernel
theorem dX3_restart_34 : decode cX3_restart 34 = .ok (.iload_n 2, 1) := by decide +kernel
theorem dX3_restart_35 : decode cX3_restart 35 = .ok (.lconst 0, 1) := by decide +kernel
theorem dX3_restart_36 : decode cX3_restart 36 = .ok (.lastore, 1) := by decide +kernel
theorem dX3_restart_37 : decode cX3_restart 37 = .ok (.iinc 2 1, 3) := by decide +kernel
theorem dX3_restart_40 : decode cX3_restart 40 = .ok (.goto (-25), 3) := by decide +kernel
theorem dX3_restart_43 : decode cX3_restart 43 = .ok (.return_, 1) := by decide +kernel
theorem dX3_copyFrom_0 : decode cX3_copyFrom 0 = .ok (.aload_n 0, 1) := by decide +kernel
theorem dX3_copyFrom_1 : decode cX3_copyFrom 1 = .ok (.aload_n 1, 1) := by decide +kernel
theorem dX3_copyFrom_2 : decode cX3_copyFrom 2 = .ok (.getfield 25, 3) := by decide +kernel
theorem dX3_copyFrom_5 : decode cX3_copyFrom 5 = .ok (.putfield 25, 3) := by decide +kernel
theorem dX3_copyFrom_8 : decode cX3_copyFrom 8 = .ok (.aload_n 0, 1) := by decide +kernel
theorem dX3_copyFrom_9 : decode cX3_copyFrom 9 = .ok (.aload_n 1, 1) := by decide +kernel
theorem dX3_copyFrom_10 : decode cX3_copyFrom 10 = .ok (.getfield 35, 3) := by decide +kernel
theorem dX3_copyFrom_13 : decode cX3_copyFrom 13 = .ok (.putfield 35, 3) := by decide +kernel
theorem dX3_copyFrom_16 : decode cX3_copyFrom 16 = .ok (.aload_n 0, 1) := by decide +kernel
theorem dX3_copyFrom_17 : decode cX3_copyFrom 17 = .ok (.aload_n 1, 1) := by decide +kernel
theorem dX3_copyFrom_18 : decode cX3_copyFrom 18 = .ok (.getfield 42, 3) := by decide +kernel
theorem dX3_copyFrom_21 : decode cX3_copyFrom 21 = .ok (.putfield 42, 3) := by decide +kernel
theorem dX3_copyFrom_24 : decode cX3_copyFrom 24 = .ok (.aload_n 0, 1) := by decide +kernel
theorem dX3_copyFrom_25 : decode cX3_copyFrom 25 = .ok (.aload_n 1, 1) := by decide +kernel
theorem dX3_copyFrom_26 : decode cX3_copyFrom 26 = .ok (.getfield 45, 3) := by decide +kernel
theorem dX3_copyFrom_29 : decode cX3_copyFrom 29 = .ok (.putfield 45, 3) := by decide +kernel
theorem dX3_copyFrom_32 : decode cX3_copyFrom 32 = .ok (.iconst 0, 1) := by decide +kernel
theorem dX3_copyFrom_33 : decode cX3_copyFrom 33 = .ok (.istore_n 2, 1) := by decide +kernel
theorem dX3_copyFrom_34 : decode cX3_copyFrom 34 = .ok (.iload_n 2, 1) := by decide +kernel
theorem dX3_copyFrom_35 : decode cX3_copyFrom 35 = .ok (.iconst 4, 1) := by decide +kernel
theorem dX3_copyFrom_36 : decode cX3_copyFrom 36 = .ok (.if_icmp .ge 57, 3) := by decide +kernel
theorem dX3_copyFrom_39 : decode cX3_copyFrom 39 = .ok (.aload_n 0, 1) := by decide +kernel
theorem dX3_copyFrom_40 : decode cX3_copyFrom 40 = .ok (.getfield 9, 3) := by decide +kernel
theorem dX3_copyFrom_43 : decode cX3_copyFrom 43 = .ok (.iload_n 2, 1) := by decide +kernel
theorem dX3_copyFrom_44 : decode cX3_copyFrom 44 = .ok (.aload_n 1, 1) := by decide +kernel
theorem dX3_copyFrom_45 : decode cX3_copyFrom 45 = .ok (.getfield 9, 3) := by decide +kernel
theorem dX3_copyFrom_48 : decode cX3_copyFrom 48 = .ok (.iload_n 2, 1) := by decide +kernel
theorem dX3_copyFrom_49 : decode cX3_copyFrom 49 = .ok (.laload, 1) := by decide +kernel
theorem dX3_copyFrom_50 : decode cX3_copyFrom 50 = .ok (.lastore, 1) := by decide +kernel
theorem dX3_copyFrom_51 : decode cX3_copyFrom 51 = .ok (.aload_n 0, 1) := by decide +kernel
theorem dX3_copyFrom_52 : decode cX3_copyFrom 52 = .ok (.getfield 15, 3) := by decide +kernel
theorem dX3_copyFrom_55 : decode cX3_copyFrom 55 = .ok (.iload_n 2, 1) := by decide +kernel
theorem dX3_copyFrom_56 : decode cX3_copyFrom 56 = .ok (.aload_n 1, 1) := by decide +kernel
theorem dX3_copyFrom_57 : decode cX3_copyFrom 57 = .ok (.getfield 15, 3) := by decide +kernel
theorem dX3_copyFrom_60 : decode cX3_copyFrom 60 = .ok (.iload_n 2, 1) := by decide +kernel
theorem dX3_copyFrom_61 : decode cX3_copyFrom 61 = .ok (.laload, 1) := by decide +kernel
theorem dX3_copyFrom_62 : decode cX3_copyFrom 62 = .ok (.lastore, 1) := by decide +kernel
theorem dX3_copyFrom_63 : decode cX3_copyFrom 63 = .ok (.aload_n 0, 1) := by decide +kernel
theorem dX3_copyFrom_64 : decode cX3_copyFrom 64 = .ok (.getfield 18, 3) := by decide +kernel
theorem dX3_copyFrom_67 : decode cX3_copyFrom 67 = .ok (.iload_n 2, 1) := by decide +kernel
theorem dX3_copyFrom_68 : decode cX3_copyFrom 68 = .ok (.aload_n 1, 1) := by decide +kernel
theorem dX3_copyFrom_69 : decode cX3_copyFrom 69 = .ok (.getfield 18, 3) := by decide +kernel
theorem dX3_copyFrom_72 : decode cX3_copyFrom 72 = .ok (.iload_n 2, 1) := by decide +kernel
theorem dX3_copyFrom_73 : decode cX3_copyFrom 73 = .ok (.iaload, 1) := by decide +kernel
theorem dX3_copyFrom_74 : decode cX3_copyFrom 74 = .ok (.iastore, 1) := by decide +kernel
theorem dX3_copyFrom_75 : decode cX3_copyFrom 75 = .ok (.aload_n 0, 1) := by decide +kernel
theorem dX3_copyFrom_76 : decode cX3_copyFrom 76 = .ok (.getfield 22, 3) := by decide +kernel
theorem dX3_copyFrom_79 : decode cX3_copyFrom 79 = .ok (.iload_n 2, 1) := by decide +kernel
theorem dX3_copyFrom_80 : decode cX3_copyFrom 80 = .ok (.aload_n 1, 1) := by decide +kernel
theorem dX3_copyFrom_81 : decode cX3_copyFrom 81 = .ok (.getfield 22, 3) := by decide +kernel
theorem dX3_copyFrom_84 : decode cX3_copyFrom 84 = .ok (.iload_n 2, 1) := by decide +kernel
theorem dX3_copyFrom_85 : decode cX3_copyFrom 85 = .ok (.iaload, 1) := by decide +kernel
theorem dX3_copyFrom_86 : decode cX3_copyFrom 86 = .ok (.iastore, 1) := by decide +kernel
theorem dX3_copyFrom_87 : decode cX3_copyFrom 87 = .ok (.iinc 2 1, 3) := by decide +kernel
theorem dX3_copyFrom_90 : decode cX3_copyFrom 90 = .ok (.goto (-56), 3) := by decide +kernel
theorem dX3_copyFrom_93 : decode cX3_copyFrom 93 = .ok (.return_, 1) := by decide +kernel
theorem dX3_sum_0 : decode cX3_sum 0 = .ok (.iconst 0, 1) := by decide +kernel
theorem dX3_sum_1 : decode cX3_sum 1 = .ok (.istore_n 1, 1) := by decide +kernel
theorem dX3_sum_2 : decode cX3_sum 2 = .ok (.aload_n 0, 1) := by decide +kernel
theorem dX3_sum_3 : decode cX3_sum 3 = .ok (.astore_n 2, 1) := by decide +kernel
theorem dX3_sum_4 : decode cX3_sum 4 = .ok (.aload_n 2, 1) := by decide +kernel
theorem dX3_sum_5 : decode cX3_sum 5 = .ok (.arraylength, 1) := by decide +kernel
theorem dX3_sum_6 : decode cX3_sum 6 = .ok (.istore_n 3, 1) := by decide +kernel
theorem dX3_sum_7 : decode cX3_sum 7 = .ok (.iconst 0, 1) := by decide +kernel
theorem dX3_sum_8 : decode cX3_sum 8 = .ok (.istore 4, 2) := by decide +kernel
theorem dX3_sum_10 : decode cX3_sum 10 = .ok (.iload 4, 2) := by decide +kernel
theorem dX3_sum_12 : decode cX3_sum 12 = .ok (.iload_n 3, 1) := by decide +kernel
theorem dX3_sum_13 : decode cX3_sum 13 = .ok (.if_icmp .ge 20, 3) := by decide +kernel
theorem dX3_sum_16 : decode cX3_sum 16 = .ok (.aload_n 2, 1) := by decide +kernel
theorem dX3_sum_17 : decode cX3_sum 17 = .ok (.iload 4, 2) := by decide +kernel
theorem dX3_sum_19 : decode cX3_sum 19 = .ok (.iaload, 1) := by decide +kernel
theorem dX3_sum_20 : decode cX3_sum 20 = .ok (.istore 5, 2) := by decide +kernel
theorem dX3_sum_22 : decode cX3_sum 22 = .ok (.iload_n 1, 1) := by decide +kernel
theorem dX3_sum_23 : decode cX3_sum 23 = .ok (.iload 5, 2) := by decide +kernel
theorem dX3_sum_25 : decode cX3_sum 25 = .ok (.iadd, 1) := by decide +kernel
theorem dX3_sum_26 : decode cX3_sum 26 = .ok (.istore_n 1, 1) := by decide +kernel
theorem dX3_sum_27 : decode cX3_sum 27 = .ok (.iinc 4 1, 3) := by decide +kernel
theorem dX3_sum_30 : decode cX3_sum 30 = .ok (.goto (-20), 3) := by decide +kernel
theorem dX3_sum_33 : decode cX3_sum 33 = .ok (.iload_n 1, 1) := by decide +kernel
theorem dX3_sum_34 : decode cX3_sum 34 = .ok (.ireturn, 1) := by decide +kernel
theorem dX3_rowCount_0 : decode cX3_rowCount 0 = .ok (.iconst 1, 1) := by decide +kernel
theorem dX3_rowCount_1 : decode cX3_rowCount 1 = .ok (.aload_n 0, 1) := by decide +kernel
theorem dX3_rowCount_2 : decode cX3_rowCount 2 = .ok (.getfield 25, 3) := by decide +kernel
theorem dX3_rowCount_5 : decode cX3_rowCount 5 = .ok (.ishl, 1) := by decide +kernel
theorem dX3_rowCount_6 : decode cX3_rowCount 6 = .ok (.ireturn, 1) := by decide +kernel
set_option maxRecDepth 20000 in
theorem ggX3_forgotten_X2_inputSet : GoodIn wsX3_forgotten wsX2_inputSet := goodIn_r _ [6] (by decide +kernel) (by decide +kernel)
set_option maxRecDepth 20000 in
theorem gX3_forgotten_X2_inputSet : GoodIn wsX3_forgotten (va_wsS RX3 29 yX2_inputSet wsX2_inputSet) := goodIn_app (goodIn_of _ (by decide +kernel)) ggX3_forgotten_X2_inputSet
theorem dX3_forgotten_0 : decode cX3_forgotten 0 = .ok (.aload_n 0, 1) := by decide +kernel
theorem dX3_forgotten_1 : decode cX3_forgotten 1 = .ok (.getfield 25, 3) := by decide +kernel
theorem dX3_forgotten_4 : decode cX3_forgotten 4 = .ok (.invokestatic 29, 3) := by decide +kernel
theorem dX3_forgotten_7 : decode cX3_forgotten 7 = .ok (.aload_n 0, 1) := by decide +kernel
theorem dX3_forgotten_8 : decode cX3_forgotten 8 = .ok (.getfield 35, 3) := by decide +kernel
theorem dX3_forgotten_11 : decode cX3_forgotten 11 = .ok (.iconst (-1), 1) := by decide +kernel
theorem dX3_forgotten_12 : decode cX3_forgotten 12 = .ok (.ixor, 1) := by decide +kernel
theorem dX3_forgotten_13 : decode cX3_forgotten 13 = .ok (.iand, 1) := by decide +kernel
theorem dX3_forgotten_14 : decode cX3_forgotten 14 = .ok (.ireturn, 1) := by decide +kernel
theorem dX3_remembers_0 : decode cX3_remembers 0 = .ok (.aload_n 0, 1) := by decide +kernel
theorem dX3_remembers_1 : decode cX3_remembers 1 = .ok (.getfield 35, 3) := by decide +kernel
theorem dX3_remembers_4 : decode cX3_remembers 4 = .ok (.iload_n 1, 1) := by decide +kernel
theorem dX3_remembers_5 : decode cX3_remembers 5 = .ok (.ishr, 1) := by decide +kernel
theorem dX3_remembers_6 : decode cX3_remembers 6 = .ok (.iconst 1, 1) := by decide +kernel
theorem dX3_remembers_7 : decode cX3_remembers 7 = .ok (.iand, 1) := by decide +kernel
theorem dX3_remembers_8 : decode cX3_remembers 8 = .ok (.ifCond .eq 7, 3) := by decide +kernel
theorem dX3_remembers_11 : decode cX3_remembers 11 = .ok (.iconst 1, 1) := by decide +kernel
theorem dX3_remembers_12 : decode cX3_remembers 12 = .ok (.goto 4, 3) := by decide +kernel
theorem dX3_remembers_15 : decode cX3_remembers 15 = .ok (.iconst 0, 1) := by decide +kernel
theorem dX3_remembers_16 : decode cX3_remembers 16 = .ok (.ireturn, 1) := by decide +kernel
set_option maxRecDepth 20000 in
theorem ggX3_zerosOf_X6_isOutput : GoodIn wsX3_zerosOf wsX6_isOutput := goodIn_r _ [4] (by decide +kernel) (by decide +kernel)
theorem dX3_zerosOf_0 : decode cX3_zerosOf 0 = .ok (.iload_n 1, 1) := by decide +kernel
theorem dX3_zerosOf_1 : decode cX3_zerosOf 1 = .ok (.invokestatic 48, 3) := by decide +kernel
theorem dX3_zerosOf_4 : decode cX3_zerosOf 4 = .ok (.ifCond .eq 12, 3) := by decide +kernel
theorem dX3_zerosOf_7 : decode cX3_zerosOf 7 = .ok (.aload_n 0, 1) := by decide +kernel
theorem dX3_zerosOf_8 : decode cX3_zerosOf 8 = .ok (.getfield 9, 3) := by decide +kernel
theorem dX3_zerosOf_11 : decode cX3_zerosOf 11 = .ok (.iload_n 1, 1) := by decide +kernel
theorem dX3_zerosOf_12 : decode cX3_zerosOf 12 = .ok (.laload, 1) := by decide +kernel
theorem dX3_zerosOf_13 : decode cX3_zerosOf 13 = .ok (.goto 4, 3) := by decide +kernel
theorem dX3_zerosOf_16 : decode cX3_zerosOf 16 = .ok (.lconst 0, 1) := by decide +kernel
theorem dX3_zerosOf_17 : decode cX3_zerosOf 17 = .ok (.lreturn, 1) := by decide +kernel
set_option maxRecDepth 20000 in
theorem ggX3_onesOf_X6_isOutput : GoodIn wsX3_onesOf wsX6_isOutput := goodIn_r _ [4] (by decide +kernel) (by decide +kernel)
theorem dX3_onesOf_0 : decode cX3_onesOf 0 = .ok (.iload_n 1, 1) := by decide +kernel
theorem dX3_onesOf_1 : decode cX3_onesOf 1 = .ok (.invokestatic 48, 3) := by decide +kernel
theorem dX3_onesOf_4 : decode cX3_onesOf 4 = .ok (.ifCond .eq 12, 3) := by decide +kernel
theorem dX3_onesOf_7 : decode cX3_onesOf 7 = .ok (.aload_n 0, 1) := by decide +kernel
theorem dX3_onesOf_8 : decode cX3_onesOf 8 = .ok (.getfield 15, 3) := by decide +kernel
theorem dX3_onesOf_11 : decode cX3_onesOf 11 = .ok (.iload_n 1, 1) := by decide +kernel
theorem dX3_onesOf_12 : decode cX3_onesOf 12 = .ok (.laload, 1) := by decide +kernel
theorem dX3_onesOf_13 : decode cX3_onesOf 13 = .ok (.goto 4, 3) := by decide +kernel
theorem dX3_onesOf_16 : decode cX3_onesOf 16 = .ok (.lconst 0, 1) := by decide +kernel
theorem dX3_onesOf_17 : decode cX3_onesOf 17 = .ok (.lreturn, 1) := by decide +kernel
set_option maxRecDepth 20000 in
theorem ggX3_alarmsOf_X6_isOutput : GoodIn wsX3_alarmsOf wsX6_isOutput := goodIn_r _ [4] (by decide +kernel) (by decide +kernel)
theorem dX3_alarmsOf_0 : decode cX3_alarmsOf 0 = .ok (.iload_n 1, 1) := by decide +kernel
theorem dX3_alarmsOf_1 : decode cX3_alarmsOf 1 = .ok (.invokestatic 48, 3) := by decide +kernel
theorem dX3_alarmsOf_4 : decode cX3_alarmsOf 4 = .ok (.ifCond .eq 12, 3) := by decide +kernel
theorem dX3_alarmsOf_7 : decode cX3_alarmsOf 7 = .ok (.aload_n 0, 1) := by decide +kernel
theorem dX3_alarmsOf_8 : decode cX3_alarmsOf 8 = .ok (.getfield 18, 3) := by decide +kernel
theorem dX3_alarmsOf_11 : decode cX3_alarmsOf 11 = .ok (.iload_n 1, 1) := by decide +kernel
theorem dX3_alarmsOf_12 : decode cX3_alarmsOf 12 = .ok (.iaload, 1) := by decide +kernel
theorem dX3_alarmsOf_13 : decode cX3_alarmsOf 13 = .ok (.goto 4, 3) := by decide +kernel
theorem dX3_alarmsOf_16 : decode cX3_alarmsOf 16 = .ok (.iconst 0, 1) := by decide +kernel
theorem dX3_alarmsOf_17 : decode cX3_alarmsOf 17 = .ok (.ireturn, 1) := by decide +kernel
set_option maxRecDepth 20000 in
theorem ggX3_faultsOf_X6_isOutput : GoodIn wsX3_faultsOf wsX6_isOutput := goodIn_r _ [4] (by decide +kernel) (by decide +kernel)
theorem dX3_faultsOf_0 : decode cX3_faultsOf 0 = .ok (.iload_n 1, 1) := by decide +kernel
theorem dX3_faultsOf_1 : decode cX3_faultsOf 1 = .ok (.invokestatic 48, 3) := by decide +kernel
theorem dX3_faultsOf_4 : decode cX3_faultsOf 4 = .ok (.ifCond .eq 12, 3) := by decide +kernel
theorem dX3_faultsOf_7 : decode cX3_faultsOf 7 = .ok (.aload_n 0, 1) := by decide +kernel
theorem dX3_faultsOf_8 : decode cX3_faultsOf 8 = .ok (.getfield 22, 3) := by decide +kernel
theorem dX3_faultsOf_11 : decode cX3_faultsOf 11 = .ok (.iload_n 1, 1) := by decide +kernel
theorem dX3_faultsOf_12 : decode cX3_faultsOf 12 = .ok (.iaload, 1) := by decide +kernel
theorem dX3_faultsOf_13 : decode cX3_faultsOf 13 = .ok (.goto 4, 3) := by decide +kernel
theorem dX3_faultsOf_16 : decode cX3_faultsOf 16 = .ok (.iconst 0, 1) := by decide +kernel
theorem dX3_faultsOf_17 : decode cX3_faultsOf 17 = .ok (.ireturn, 1) := by decide +kernel
set_option maxRecDepth 20000 in
theorem ggX3_truthAt_X3_onesOf : GoodIn wsX3_truthAt wsX3_onesOf := goodIn_r _ [5, 6, 7, 8, 9, 15, 16, 17, 18, 19, 20, 21, 22] (by decide +kernel) (by decide +kernel)
set_option maxRecDepth 20000 in
theorem gX3_truthAt_X3_onesOf : GoodIn wsX3_truthAt (wsV RX3 52 RX3 yX3_onesOf wsX3_onesOf) := goodIn_app (goodIn_of _ (by decide +kernel)) ggX3_truthAt_X3_onesOf
set_option maxRecDepth 20000 in
theorem ggX3_truthAt_X3_zerosOf : GoodIn wsX3_truthAt wsX3_zerosOf := goodIn_r _ [13, 14, 7, 8, 9, 15, 16, 17, 18, 19, 20, 21, 22] (by decide +kernel) (by decide +kernel)
set_option maxRecDepth 20000 in
theorem gX3_truthAt_X3_zerosOf : GoodIn wsX3_truthAt (wsV RX3 55 RX3 yX3_zerosOf wsX3_zerosOf) := goodIn_app (goodIn_of _ (by decide +kernel)) ggX3_truthAt_X3_zerosOf
theorem dX3_truthAt_0 : decode cX3_truthAt 0 = .ok (.aload_n 0, 1) := by decide +kernel
theorem dX3_truthAt_1 : decode cX3_truthAt 1 = .ok (.iload_n 1, 1) := by decide +kernel
theorem dX3_truthAt_2 : decode cX3_truthAt 2 = .ok (.invokevirtual 52, 3) := by decide +kernel
theorem dX3_truthAt_5 : decode cX3_truthAt 5 = .ok (.iload_n 2, 1) := by decide +kernel
theorem dX3_truthAt_6 : decode cX3_truthAt 6 = .ok (.lushr, 1) := by decide +kernel
theorem dX3_truthAt_7 : decode cX3_truthAt 7 = .ok (.lconst 1, 1) := by decide +kernel
theorem dX3_truthAt_8 : decode cX3_truthAt 8 = .ok (.land, 1) := by decide +kernel
theorem dX3_truthAt_9 : decode cX3_truthAt 9 = .ok (.lconst 0, 1) := by decide +kernel
theorem dX3_truthAt_10 : decode cX3_truthAt 10 = .ok (.lcmp, 1) := by decide +kernel
theorem dX3_truthAt_11 : decode cX3_truthAt 11 = .ok (.ifCond .eq 5, 3) := by decide +kernel
theorem dX3_truthAt_14 : decode cX3_truthAt 14 = .ok (.iconst 1, 1) := by decide +kernel
theorem dX3_truthAt_15 : decode cX3_truthAt 15 = .ok (.ireturn, 1) := by decide +kernel
theorem dX3_truthAt_16 : decode cX3_truthAt 16 = .ok (.aload_n 0, 1) := by decide +kernel
theorem dX3_truthAt_17 : decode cX3_truthAt 17 = .ok (.iload_n 1, 1) := by decide +kernel
theorem dX3_truthAt_18 : decode cX3_truthAt 18 = .ok (.invokevirtual 55, 3) := by decide +kernel
theorem dX3_truthAt_21 : decode cX3_truthAt 21 = .ok (.iload_n 2, 1) := by decide +kernel
theorem dX3_truthAt_22 : decode cX3_truthAt 22 = .ok (.lushr, 1) := by decide +kernel
theorem dX3_truthAt_23 : decode cX3_truthAt 23 = .ok (.lconst 1, 1) := by decide +kernel
theorem dX3_truthAt_24 : decode cX3_truthAt 24 = .ok (.land, 1) := by decide +kernel
theorem dX3_truthAt_25 : decode cX3_truthAt 25 = .ok (.lconst 0, 1) := by decide +kernel
theorem dX3_truthAt_26 : decode cX3_truthAt 26 = .ok (.lcmp, 1) := by decide +kernel
theorem dX3_truthAt_27 : decode cX3_truthAt 27 = .ok (.ifCond .eq 7, 3) := by decide +kernel
theorem dX3_truthAt_30 : decode cX3_truthAt 30 = .ok (.iconst 0, 1) := by decide +kernel
theorem dX3_truthAt_31 : decode cX3_truthAt 31 = .ok (.goto 4, 3) := by decide +kernel
theorem dX3_truthAt_34 : decode cX3_truthAt 34 = .ok (.iconst 2, 1) := by decide +kernel
theorem dX3_truthAt_35 : decode cX3_truthAt 35 = .ok (.ireturn, 1) := by decide +kernel
set_option maxRecDepth 20000 in
theorem ggX3_give_X6_isOutput : GoodIn wsX3_give wsX6_isOutput := goodIn_r _ [6] (by decide +kernel) (by decide +kernel)
theorem dX3_give_0 : decode cX3_give 0 = .ok (.iload_n 1, 1) := by decide +kernel
theorem dX3_give_1 : decode cX3_give 1 = .ok (.invokestatic 48, 3) := by decide +kernel
theorem dX3_give_4 : decode cX3_give 4 = .ok (.ifCond .eq 72, 3) := by decide +kernel
theorem dX3_give_7 : decode cX3_give 7 = .ok (.aload_n 0, 1) := by decide +kernel
theorem dX3_give_8 : decode cX3_give 8 = .ok (.getfield 9, 3) := by decide +kernel
theorem dX3_give_11 : decode cX3_give 11 = .ok (.iload_n 1, 1) := by decide +kernel
theorem dX3_give_12 : decode cX3_give 12 = .ok (.iload 4, 2) := by decide +kernel
theorem dX3_give_14 : decode cX3_give 14 = .ok (.ifCond .ne 14, 3) := by decide +kernel
theorem dX3_give_17 : decode cX3_give 17 = .ok (.aload_n 0, 1) := by decide +kernel
theorem dX3_give_18 : decode cX3_give 18 = .ok (.getfield 9, 3) := by decide +kernel
theorem dX3_give_21 : decode cX3_give 21 = .ok (.iload_n 1, 1) := by decide +kernel
theorem dX3_give_22 : decode cX3_give 22 = .ok (.laload, 1) := by decide +kernel
theorem dX3_give_23 : decode cX3_give 23 = .ok (.lload_n 2, 1) := by decide +kernel
theorem dX3_give_24 : decode cX3_give 24 = .ok (.lor, 1) := by decide +kernel
theorem dX3_give_25 : decode cX3_give 25 = .ok (.goto 15, 3) := by decide +kernel
theorem dX3_give_28 : decode cX3_give 28 = .ok (.aload_n 0, 1) := by decide +kernel
theorem dX3_give_29 : decode cX3_give 29 = .ok (.getfield 9, 3) := by decide +kernel
theorem dX3_give_32 : decode cX3_give 32 = .ok (.iload_n 1, 1) := by decide +kernel
theorem dX3_give_33 : decode cX3_give 33 = .ok (.laload, 1) := by decide +kernel
theorem dX3_give_34 : decode cX3_give 34 = .ok (.lload_n 2, 1) := by decide +kernel
theorem dX3_give_35 : decode cX3_give 35 = .ok (.ldc2_w 58, 3) := by decide +kernel
theorem dX3_give_38 : decode cX3_give 38 = .ok (.lxor, 1) := by decide +kernel
theorem dX3_give_39 : decode cX3_give 39 = .ok (.land, 1) := by decide +kernel
theorem dX3_give_40 : decode cX3_give 40 = .ok (.lastore, 1) := by decide +kernel
theorem dX3_give_41 : decode cX3_give 41 = .ok (.aload_n 0, 1) := by decide +kernel
theorem dX3_give_42 : decode cX3_give 42 = .ok (.getfield 15, 3) := by decide +kernel
theorem dX3_give_45 : decode cX3_give 45 = .ok (.iload_n 1, 1) := by decide +kernel
theorem dX3_give_46 : decode cX3_give 46 = .ok (.iload 4, 2) := by decide +kernel
theorem dX3_give_48 : decode cX3_give 48 = .ok (.iconst 1, 1) := by decide +kernel
theorem dX3_give_49 : decode cX3_give 49 = .ok (.if_icmp .ne 14, 3) := by decide +kernel
theorem dX3_give_52 : decode cX3_give 52 = .ok (.aload_n 0, 1) := by decide +kernel
theorem dX3_give_53 : decode cX3_give 53 = .ok (.getfield 15, 3) := by decide +kernel
theorem dX3_give_56 : decode cX3_give 56 = .ok (.iload_n 1, 1) := by decide +kernel
theorem dX3_give_57 : decode cX3_give 57 = .ok (.laload, 1) := by decide +kernel
theorem dX3_give_58 : decode cX3_give 58 = .ok (.lload_n 2, 1) := by decide +kernel
theorem dX3_give_59 : decode cX3_give 59 = .ok (.lor, 1) := by decide +kernel
theorem dX3_give_60 : decode cX3_give 60 = .ok (.goto 15, 3) := by decide +kernel
theorem dX3_give_63 : decode cX3_give 63 = .ok (.aload_n 0, 1) := by decide +kernel
theorem dX3_give_64 : decode cX3_give 64 = .ok (.getfield 15, 3) := by decide +kernel
theorem dX3_give_67 : decode cX3_give 67 = .ok (.iload_n 1, 1) := by decide +kernel
theorem dX3_give_68 : decode cX3_give 68 = .ok (.laload, 1) := by decide +kernel
theorem dX3_give_69 : decode cX3_give 69 = .ok (.lload_n 2, 1) := by decide +kernel
theorem dX3_give_70 : decode cX3_give 70 = .ok (.ldc2_w 58, 3) := by decide +kernel
theorem dX3_give_73 : decode cX3_give 73 = .ok (.lxor, 1) := by decide +kernel
theorem dX3_give_74 : decode cX3_give 74 = .ok (.land, 1) := by decide +kernel
theorem dX3_give_75 : decode cX3_give 75 = .ok (.lastore, 1) := by decide +kernel
theorem dX3_give_76 : decode cX3_give 76 = .ok (.return_, 1) := by decide +kernel
set_option maxRecDepth 20000 in
theorem ggX3_turnAround_X6_isOutput : GoodIn wsX3_turnAround wsX6_isOutput := goodIn_r _ [5] (by decide +kernel) (by decide +kernel)
theorem dX3_turnAround_0 : decode cX3_turnAround 0 = .ok (.iload_n 1, 1) := by decide +kernel
theorem dX3_turnAround_1 : decode cX3_turnAround 1 = .ok (.invokestatic 48, 3) := by decide +kernel
theorem dX3_turnAround_4 : decode cX3_turnAround 4 = .ok (.ifCond .eq 29, 3) := by decide +kernel
theorem dX3_turnAround_7 : decode cX3_turnAround 7 = .ok (.aload_n 0, 1) := by decide +kernel
theorem dX3_turnAround_8 : decode cX3_turnAround 8 = .ok (.getfield 15, 3) := by decide +kernel
theorem dX3_turnAround_11 : decode cX3_turnAround 11 = .ok (.iload_n 1, 1) := by decide +kernel
theorem dX3_turnAround_12 : decode cX3_turnAround 12 = .ok (.laload, 1) := by decide +kernel
theorem dX3_turnAround_13 : decode cX3_turnAround 13 = .ok (.lstore_n 2, 1) := by decide +kernel
theorem dX3_turnAround_14 : decode cX3_turnAround 14 = .ok (.aload_n 0, 1) := by decide +kernel
theorem dX3_turnAround_15 : decode cX3_turnAround 15 = .ok (.getfield 15, 3) := by decide +kernel
theorem dX3_turnAround_18 : decode cX3_turnAround 18 = .ok (.iload_n 1, 1) := by decide +kernel
theorem dX3_turnAround_19 : decode cX3_turnAround 19 = .ok (.aload_n 0, 1) := by decide +kernel
theorem dX3_turnAround_20 : decode cX3_turnAround 20 = .ok (.getfield 9, 3) := by decide +kernel
theorem dX3_turnAround_23 : decode cX3_turnAround 23 = .ok (.iload_n 1, 1) := by decide +kernel
theorem dX3_turnAround_24 : decode cX3_turnAround 24 = .ok (.laload, 1) := by decide +kernel
theorem dX3_turnAround_25 : decode cX3_turnAround 25 = .ok (.lastore, 1) := by decide +kernel
theorem dX3_turnAround_26 : decode cX3_turnAround 26 = .ok (.aload_n 0, 1) := by decide +kernel
theorem dX3_turnAround_27 : decode cX3_turnAround 27 = .ok (.getfield 9, 3) := by decide +kernel
theorem dX3_turnAround_30 : decode cX3_turnAround 30 = .ok (.iload_n 1, 1) := by decide +kernel
theorem dX3_turnAround_31 : decode cX3_turnAround 31 = .ok (.lload_n 2, 1) := by decide +kernel
theorem dX3_turnAround_32 : decode cX3_turnAround 32 = .ok (.lastore, 1) := by decide +kernel
theorem dX3_turnAround_33 : decode cX3_turnAround 33 = .ok (.return_, 1) := by decide +kernel
set_option maxRecDepth 20000 in
theorem ggX3_takeIn_X6_isOutput : GoodIn wsX3_takeIn wsX6_isOutput := goodIn_r _ [5] (by decide +kernel) (by decide +kernel)
set_option maxRecDepth 20000 in
theorem ggX3_takeIn_X3_onesOf : GoodIn wsX3_takeIn wsX3_onesOf := goodIn_r _ [10, 1, 3, 4, 5, 15, 16, 17, 18, 19, 20, 21, 22] (by decide +kernel) (by decide +kernel)
set_option maxRecDepth 20000 in
theorem gX3_takeIn_X3_onesOf : GoodIn wsX3_takeIn (wsV RX3 52 RX3 yX3_onesOf wsX3_onesOf) := goodIn_app (goodIn_of _ (by decide +kernel)) ggX3_takeIn_X3_onesOf
set_option maxRecDepth 20000 in
theorem ggX3_takeIn_X3_zerosOf : GoodIn wsX3_takeIn wsX3_zerosOf := goodIn_r _ [14, 2, 3, 4, 5, 15, 16, 17, 18, 19, 20, 21, 22] (by decide +kernel) (by decide +kernel)
set_option maxRecDepth 20000 in
theorem gX3_takeIn_X3_zerosOf : GoodIn wsX3_takeIn (wsV RX3 55 RX3 yX3_zerosOf wsX3_zerosOf) := goodIn_app (goodIn_of _ (by decide +kernel)) ggX3_takeIn_X3_zerosOf
theorem dX3_takeIn_0 : decode cX3_takeIn 0 = .ok (.iload_n 1, 1) := by decide +kernel
theorem dX3_takeIn_1 : decode cX3_takeIn 1 = .ok (.invokestatic 48, 3) := by decide +kernel
theorem dX3_takeIn_4 : decode cX3_takeIn 4 = .ok (.ifCond .eq 31, 3) := by decide +kernel
theorem dX3_takeIn_7 : decode cX3_takeIn 7 = .ok (.aload_n 0, 1) := by decide +kernel
theorem dX3_takeIn_8 : decode cX3_takeIn 8 = .ok (.getfield 15, 3) := by decide +kernel
theorem dX3_takeIn_11 : decode cX3_takeIn 11 = .ok (.iload_n 1, 1) := by decide +kernel
theorem dX3_takeIn_12 : decode cX3_takeIn 12 = .ok (.dup2, 1) := by decide +kernel
theorem dX3_takeIn_13 : decode cX3_takeIn 13 = .ok (.laload, 1) := by decide +kernel
theorem dX3_takeIn_14 : decode cX3_takeIn 14 = .ok (.aload_n 0, 1) := by decide +kernel
theorem dX3_takeIn_15 : decode cX3_takeIn 15 = .ok (.iload_n 2, 1) := by decide +kernel
theorem dX3_takeIn_16 : decode cX3_takeIn 16 = .ok (.invokevirtual 52, 3) := by decide +kernel
theorem dX3_takeIn_19 : decode cX3_takeIn 19 = .ok (.lor, 1) := by decide +kernel
theorem dX3_takeIn_20 : decode cX3_takeIn 20 = .ok (.lastore, 1) := by decide +kernel
theorem dX3_takeIn_21 : decode cX3_takeIn 21 = .ok (.aload_n 0, 1) := by decide +kernel
theorem dX3_takeIn_22 : decode cX3_takeIn 22 = .ok (.getfield 9, 3) := by decide +kernel
theorem dX3_takeIn_25 : decode cX3_takeIn 25 = .ok (.iload_n 1, 1) := by decide +kernel
theorem dX3_takeIn_26 : decode cX3_takeIn 26 = .ok (.dup2, 1) := by decide +kernel
theorem dX3_takeIn_27 : decode cX3_takeIn 27 = .ok (.laload, 1) := by decide +kernel
theorem dX3_takeIn_28 : decode cX3_takeIn 28 = .ok (.aload_n 0, 1) := by decide +kernel
theorem dX3_takeIn_29 : decode cX3_takeIn 29 = .ok (.iload_n 2, 1) := by decide +kernel
theorem dX3_takeIn_30 : decode cX3_takeIn 30 = .ok (.invokevirtual 55, 3) := by decide +kernel
theorem dX3_takeIn_33 : decode cX3_takeIn 33 = .ok (.land, 1) := by decide +kernel
theorem dX3_takeIn_34 : decode cX3_takeIn 34 = .ok (.lastore, 1) := by decide +kernel
theorem dX3_takeIn_35 : decode cX3_takeIn 35 = .ok (.return_, 1) := by decide +kernel
set_option maxRecDepth 20000 in
theorem ggX3_undecidedPairs_X2_alikeTo : GoodIn wsX3_undecidedPairs wsX2_alikeTo := goodIn_r _ [6, 7, 8] (by decide +kernel) (by decide +kernel)
set_option maxRecDepth 20000 in
theorem gX3_undecidedPairs_X2_alikeTo : GoodIn wsX3_undecidedPairs (va_wsS RX3 60 yX2_alikeTo wsX2_alikeTo) := goodIn_app (goodIn_of _ (by decide +kernel)) ggX3_undecidedPairs_X2_alikeTo
set_option maxRecDepth 20000 in
theorem ggX3_undecidedPairs_J13_bitCount_95d88 : GoodIn wsX3_undecidedPairs wsJ13_bitCount_95d88 := goodIn_r _ [12, 13, 14, 15] (by decide +kernel) (by decide +kernel)
set_option maxRecDepth 20000 in
theorem gX3_undecidedPairs_J13_bitCount_95d88 : GoodIn wsX3_undecidedPairs (va_wsS RX3 64 yJ13_bitCount_95d88 wsJ13_bitCount_95d88) := goodIn_app (goodIn_of _ (by decide +kernel)) ggX3_undecidedPairs_J13_bitCount_95d88
theorem dX3_undecidedPairs_0 : decode cX3_undecidedPairs 0 = .ok (.iconst 0, 1) := by decide +kernel
theorem dX3_undecidedPairs_1 : decode cX3_undecidedPairs 1 = .ok (.istore_n 2, 1) := by decide +kernel
theorem dX3_undecidedPairs_2 : decode cX3_undecidedPairs 2 = .ok (.iconst 0, 1) := by decide +kernel
theorem dX3_undecidedPairs_3 : decode cX3_undecidedPairs 3 = .ok (.istore_n 3, 1) := by decide +kernel
theorem dX3_undecidedPairs_4 : decode cX3_undecidedPairs 4 = .ok (.iload_n 3, 1) := by decide +kernel
theorem dX3_undecidedPairs_5 : decode cX3_undecidedPairs 5 = .ok (.iconst 4, 1) := by decide +kernel
theorem dX3_undecidedPairs_6 : decode cX3_undecidedPairs 6 = .ok (.if_icmp .ge 40, 3) := by decide +kernel
theorem dX3_undecidedPairs_9 : decode cX3_undecidedPairs 9 = .ok (.aload_n 0, 1) := by decide +kernel
theorem dX3_undecidedPairs_10 : decode cX3_undecidedPairs 10 = .ok (.getfield 15, 3) := by decide +kernel
theorem dX3_undecidedPairs_13 : decode cX3_undecidedPairs 13 = .ok (.iload_n 3, 1) := by decide +kernel
theorem dX3_undecidedPairs_14 : decode cX3_undecidedPairs 14 = .ok (.laload, 1) := by decide +kernel
theorem dX3_undecidedPairs_15 : decode cX3_undecidedPairs 15 = .ok (.iload_n 1, 1) := by decide +kernel
theorem dX3_undecidedPairs_16 : decode cX3_undecidedPairs 16 = .ok (.invokestatic 60, 3) := by decide +kernel
theorem dX3_undecidedPairs_19 : decode cX3_undecidedPairs 19 = .ok (.lstore 4, 2) := by decide +kernel
theorem dX3_undecidedPairs_21 : decode cX3_undecidedPairs 21 = .ok (.iload_n 2, 1) := by decide +kernel
theorem dX3_undecidedPairs_22 : decode cX3_undecidedPairs 22 = .ok (.lload 4, 2) := by decide +kernel
theorem dX3_undecidedPairs_24 : decode cX3_undecidedPairs 24 = .ok (.aload_n 0, 1) := by decide +kernel
theorem dX3_undecidedPairs_25 : decode cX3_undecidedPairs 25 = .ok (.getfield 9, 3) := by decide +kernel
theorem dX3_undecidedPairs_28 : decode cX3_undecidedPairs 28 = .ok (.iload_n 3, 1) := by decide +kernel
theorem dX3_undecidedPairs_29 : decode cX3_undecidedPairs 29 = .ok (.laload, 1) := by decide +kernel
theorem dX3_undecidedPairs_30 : decode cX3_undecidedPairs 30 = .ok (.iload_n 1, 1) := by decide +kernel
theorem dX3_undecidedPairs_31 : decode cX3_undecidedPairs 31 = .ok (.invokestatic 60, 3) := by decide +kernel
theorem dX3_undecidedPairs_34 : decode cX3_undecidedPairs 34 = .ok (.land, 1) := by decide +kernel
theorem dX3_undecidedPairs_35 : decode cX3_undecidedPairs 35 = .ok (.invokestatic 64, 3) := by decide +kernel
theorem dX3_undecidedPairs_38 : decode cX3_undecidedPairs 38 = .ok (.iadd, 1) := by decide +kernel
theorem dX3_undecidedPairs_39 : decode cX3_undecidedPairs 39 = .ok (.istore_n 2, 1) := by decide +kernel
theorem dX3_undecidedPairs_40 : decode cX3_undecidedPairs 40 = .ok (.iinc 3 1, 3) := by decide +kernel
theorem dX3_undecidedPairs_43 : decode cX3_undecidedPairs 43 = .ok (.goto (-39), 3) := by decide +kernel
theorem dX3_undecidedPairs_46 : decode cX3_undecidedPairs 46 = .ok (.iload_n 2, 1) := by decide +kernel
theorem dX3_undecidedPairs_47 : decode cX3_undecidedPairs 47 = .ok (.ireturn, 1) := by decide +kernel
set_option maxRecDepth 20000 in
theorem ggX3_leastMissed_X3_remembers : GoodIn wsX3_leastMissed wsX3_remembers := goodIn_r _ [6, 7, 34, 35, 36, 37, 38, 39, 40, 41] (by decide +kernel) (by decide +kernel)
set_option maxRecDepth 20000 in
theorem gX3_leastMissed_X3_remembers : GoodIn wsX3_leastMissed (wsV RX3 70 RX3 yX3_remembers wsX3_remembers) := goodIn_app (goodIn_of _ (by decide +kernel)) ggX3_leastMissed_X3_remembers
set_option maxRecDepth 20000 in
theorem ggX3_leastMissed_X3_forgotten : GoodIn wsX3_leastMissed wsX3_forgotten := goodIn_r _ [11, 1, 7, 12, 13, 14, 15, 34, 35, 36, 37, 38, 39, 40, 41] (by decide +kernel) (by decide +kernel)
set_option maxRecDepth 20000 in
theorem gX3_leastMissed_X3_forgotten : GoodIn wsX3_leastMissed (wsV RX3 73 RX3 yX3_forgotten wsX3_forgotten) := goodIn_app (goodIn_of _ (by decide +kernel)) ggX3_leastMissed_X3_forgotten
set_option maxRecDepth 20000 in
theorem ggX3_leastMissed_X3_undecidedPairs : GoodIn wsX3_leastMissed wsX3_undecidedPairs := goodIn_r _ [19, 20, 21, 22, 23, 14, 24, 25, 26, 27, 28, 29, 30, 31, 32, 33, 34, 35, 36, 37, 38, 39, 40, 41] (by decide +kernel) (by decide +kernel)
set_option maxRecDepth 20000 in
theorem gX3_leastMissed_X3_undecidedPairs : GoodIn wsX3_leastMissed (wsV RX3 77 RX3 yX3_undecidedPairs wsX3_undecidedPairs) := goodIn_app (goodIn_of _ (by decide +kernel)) ggX3_leastMissed_X3_undecidedPairs
theorem dX3_leastMissed_0 : decode cX3_leastMissed 0 = .ok (.iconst (-1), 1) := by decide +kernel
theorem dX3_leastMissed_1 : decode cX3_leastMissed 1 = .ok (.istore_n 1, 1) := by decide +kernel
theorem dX3_leastMissed_2 : decode cX3_leastMissed 2 = .ok (.iconst 0, 1) := by decide +kernel
theorem dX3_leastMissed_3 : decode cX3_leastMissed 3 = .ok (.istore_n 2, 1) := by decide +kernel
theorem dX3_leastMissed_4 : decode cX3_leastMissed 4 = .ok (.iconst 0, 1) := by decide +kernel
theorem dX3_leastMissed_5 : decode cX3_leastMissed 5 = .ok (.istore_n 3, 1) := by decide +kernel
theorem dX3_leastMissed_6 : decode cX3_leastMissed 6 = .ok (.iload_n 3, 1) := by decide +kernel
theorem dX3_leastMissed_7 : decode cX3_leastMissed 7 = .ok (.aload_n 0, 1) := by decide +kernel
theorem dX3_leastMissed_8 : decode cX3_leastMissed 8 = .ok (.getfield 25, 3) := by decide +kernel
theorem dX3_leastMissed_11 : decode cX3_leastMissed 11 = .ok (.if_icmp .ge 47, 3) := by decide +kernel
theorem dX3_leastMissed_14 : decode cX3_leastMissed 14 = .ok (.aload_n 0, 1) := by decide +kernel
theorem dX3_leastMissed_15 : decode cX3_leastMissed 15 = .ok (.iload_n 3, 1) := by decide +kernel
theorem dX3_leastMissed_16 : decode cX3_leastMissed 16 = .ok (.invokevirtual 70, 3) := by decide +kernel
theorem dX3_leastMissed_19 : decode cX3_leastMissed 19 = .ok (.ifCond .eq 33, 3) := by decide +kernel
theorem dX3_leastMissed_22 : decode cX3_leastMissed 22 = .ok (.aload_n 0, 1) := by decide +kernel
theorem dX3_leastMissed_23 : decode cX3_leastMissed 23 = .ok (.aload_n 0, 1) := by decide +kernel
theorem dX3_leastMissed_24 : decode cX3_leastMissed 24 = .ok (.invokevirtual 73, 3) := by decide +kernel
theorem dX3_leastMissed_27 : decode cX3_leastMissed 27 = .ok (.iconst 1, 1) := by decide +kernel
theorem dX3_leastMissed_28 : decode cX3_leastMissed 28 = .ok (.iload_n 3, 1) := by decide +kernel
theorem dX3_leastMissed_29 : decode cX3_leastMissed 29 = .ok (.ishl, 1) := by decide +kernel
theorem dX3_leastMissed_30 : decode cX3_leastMissed 30 = .ok (.ior, 1) := by decide +kernel
theorem dX3_leastMissed_31 : decode cX3_leastMissed 31 = .ok (.invokevirtual 77, 3) := by decide +kernel
theorem dX3_leastMissed_34 : decode cX3_leastMissed 34 = .ok (.istore 4, 2) := by decide +kernel
theorem dX3_leastMissed_36 : decode cX3_leastMissed 36 = .ok (.iload_n 1, 1) := by decide +kernel
theorem dX3_leastMissed_37 : decode cX3_leastMissed 37 = .ok (.iconst (-1), 1) := by decide +kernel
theorem dX3_leastMissed_38 : decode cX3_leastMissed 38 = .ok (.if_icmp .eq 9, 3) := by decide +kernel
theorem dX3_leastMissed_41 : decode cX3_leastMissed 41 = .ok (.iload 4, 2) := by decide +kernel
theorem dX3_leastMissed_43 : decode cX3_leastMissed 43 = .ok (.iload_n 2, 1) := by decide +kernel
theorem dX3_leastMissed_44 : decode cX3_leastMissed 44 = .ok (.if_icmp .ge 8, 3) := by decide +kernel
theorem dX3_leastMissed_47 : decode cX3_leastMissed 47 = .ok (.iload_n 3, 1) := by decide +kernel
theorem dX3_leastMissed_48 : decode cX3_leastMissed 48 = .ok (.istore_n 1, 1) := by decide +kernel
theorem dX3_leastMissed_49 : decode cX3_leastMissed 49 = .ok (.iload 4, 2) := by decide +kernel
theorem dX3_leastMissed_51 : decode cX3_leastMissed 51 = .ok (.istore_n 2, 1) := by decide +kernel
theorem dX3_leastMissed_52 : decode cX3_leastMissed 52 = .ok (.iinc 3 1, 3) := by decide +kernel
theorem dX3_leastMissed_55 : decode cX3_leastMissed 55 = .ok (.goto (-49), 3) := by decide +kernel
theorem dX3_leastMissed_58 : decode cX3_leastMissed 58 = .ok (.iload_n 1, 1) := by decide +kernel
theorem dX3_leastMissed_59 : decode cX3_leastMissed 59 = .ok (.iconst (-1), 1) := by decide +kernel
theorem dX3_leastMissed_60 : decode cX3_leastMissed 60 = .ok (.if_icmp .ne 7, 3) := by decide +kernel
theorem dX3_leastMissed_63 : decode cX3_leastMissed 63 = .ok (.iconst 0, 1) := by decide +kernel
theorem dX3_leastMissed_64 : decode cX3_leastMissed 64 = .ok (.goto 4, 3) := by decide +kernel
theorem dX3_leastMissed_67 : decode cX3_leastMissed 67 = .ok (.iload_n 1, 1) := by decide +kernel
theorem dX3_leastMissed_68 : decode cX3_leastMissed 68 = .ok (.ireturn, 1) := by decide +kernel
theorem dX4_init_0 : decode cX4_init 0 = .ok (.aload_n 0, 1) := by decide +kernel
theorem dX4_init_1 : decode cX4_init 1 = .ok (.invokespecial 3, 3) := by decide +kernel
theorem dX4_init_4 : decode cX4_init 4 = .ok (.aload_n 0, 1) := by decide +kernel
theorem dX4_init_5 : decode cX4_init 5 = .ok (.bipush 60, 2) := by decide +kernel
theorem dX4_init_7 : decode cX4_init 7 = .ok (.newarray .int, 2) := by decide +kernel
theorem dX4_init_9 : decode cX4_init 9 = .ok (.putfield 9, 3) := by decide +kernel
theorem dX4_init_12 : decode cX4_init 12 = .ok (.return_, 1) := by decide +kernel
theorem dX5_init_0 : decode cX5_init 0 = .ok (.aload_n 0, 1) := by decide +kernel
theorem dX5_init_1 : decode cX5_init 1 = .ok (.invokespecial 3, 3) := by decide +kernel
theorem dX5_init_4 : decode cX5_init 4 = .ok (.aload_n 0, 1) := by decide +kernel
theorem dX5_init_5 : decode cX5_init 5 = .ok (.iconst 4, 1) := by decide +kernel
theorem dX5_init_6 : decode cX5_init 6 = .ok (.newarray .long, 2) := by decide +kernel
theorem dX5_init_8 : decode cX5_init 8 = .ok (.putfield 9, 3) := by decide +kernel
theorem dX5_init_11 : decode cX5_init 11 = .ok (.aload_n 0, 1) := by decide +kernel
theorem dX5_init_12 : decode cX5_init 12 = .ok (.iconst 4, 1) := by decide +kernel
theorem dX5_init_13 : decode cX5_init 13 = .ok (.newarray .long, 2) := by decide +kernel
theorem dX5_init_15 : decode cX5_init 15 = .ok (.putfield 15, 3) := by decide +kernel
theorem dX5_init_18 : decode cX5_init 18 = .ok (.aload_n 0, 1) := by decide +kernel
theorem dX5_init_19 : decode cX5_init 19 = .ok (.iconst 4, 1) := by decide +kernel
theorem dX5_init_20 : decode cX5_init 20 = .ok (.newarray .long, 2) := by decide +kernel
theorem dX5_init_22 : decode cX5_init 22 = .ok (.putfield 18, 3) := by decide +kernel
theorem dX5_init_25 : decode cX5_init 25 = .ok (.aload_n 0, 1) := by decide +kernel
theorem dX5_init_26 : decode cX5_init 26 = .ok (.iconst 4, 1) := by decide +kernel
theorem dX5_init_27 : decode cX5_init 27 = .ok (.newarray .long, 2) := by decide +kernel
theorem dX5_init_29 : decode cX5_init 29 = .ok (.putfield 21, 3) := by decide +kernel
theorem dX5_init_32 : decode cX5_init 32 = .ok (.aload_n 0, 1) := by decide +kernel
theorem dX5_init_33 : decode cX5_init 33 = .ok (.iconst 4, 1) := by decide +kernel
theorem dX5_init_34 : decode cX5_init 34 = .ok (.newarray .int, 2) := by decide +kernel
theorem dX5_init_36 : decode cX5_init 36 = .ok (.putfield 24, 3) := by decide +kernel
theorem dX5_init_39 : decode cX5_init 39 = .ok (.aload_n 0, 1) := by decide +kernel
theorem dX5_init_40 : decode cX5_init 40 = .ok (.iconst 4, 1) := by decide +kernel
theorem dX5_init_41 : decode cX5_init 41 = .ok (.newarray .int, 2) := by decide +kernel
theorem dX5_init_43 : decode cX5_init 43 = .ok (.putfield 28, 3) := by decide +kernel
theorem dX5_init_46 : decode cX5_init 46 = .ok (.aload_n 0, 1) := by decide +kernel
theorem dX5_init_47 : decode cX5_init 47 = .ok (.sipush 256, 3) := by decide +kernel
theorem dX5_init_50 : decode cX5_init 50 = .ok (.newarray .int, 2) := by decide +kernel
theorem dX5_init_52 : decode cX5_init 52 = .ok (.putfield 31, 3) := by decide +kernel
theorem dX5_init_55 : decode cX5_init 55 = .ok (.return_, 1) := by decide +kernel
set_option maxRecDepth 20000 in
theorem ggX5_look_X2_inputSet : GoodIn wsX5_look wsX2_inputSet := goodIn_r _ [11] (by decide +kernel) (by decide +kernel)
set_option maxRecDepth 20000 in
theorem gX5_look_X2_inputSet : GoodIn wsX5_look (va_wsS RX5 44 yX2_inputSet wsX2_inputSet) := goodIn_app (goodIn_of _ (by decide +kernel)) ggX5_look_X2_inputSet
set_option maxRecDepth 20000 in
theorem ggX5_look_X3_zerosOf : GoodIn wsX5_look wsX3_zerosOf := goodIn_r _ [16, 17, 18, 19, 20, 98, 99, 100, 101, 102, 103, 104, 105] (by decide +kernel) (by decide +kernel)
set_option maxRecDepth 20000 in
theorem gX5_look_X3_zerosOf : GoodIn wsX5_look (wsV RX5 50 RX3 yX3_zerosOf wsX3_zerosOf) := goodIn_app (goodIn_of _ (by decide +kernel)) ggX5_look_X3_zerosOf
set_option maxRecDepth 20000 in
theorem ggX5_look_X2_alikeTo : GoodIn wsX5_look wsX2_alikeTo := goodIn_r _ [23, 24, 25] (by decide +kernel) (by decide +kernel)
set_option maxRecDepth 20000 in
theorem gX5_look_X2_alikeTo : GoodIn wsX5_look (va_wsS RX5 54 yX2_alikeTo wsX2_alikeTo) := goodIn_app (goodIn_of _ (by decide +kernel)) ggX5_look_X2_alikeTo
set_option maxRecDepth 20000 in
theorem ggX5_look_X3_onesOf : GoodIn wsX5_look wsX3_onesOf := goodIn_r _ [29, 30, 18, 19, 20, 98, 99, 100, 101, 102, 103, 104, 105] (by decide +kernel) (by decide +kernel)
set_option maxRecDepth 20000 in
theorem gX5_look_X3_onesOf : GoodIn wsX5_look (wsV RX5 58 RX3 yX3_onesOf wsX3_onesOf) := goodIn_app (goodIn_of _ (by decide +kernel)) ggX5_look_X3_onesOf
set_option maxRecDepth 20000 in
theorem ggX5_look_J13_bitCount_95d88 : GoodIn wsX5_look wsJ13_bitCount_95d88 := goodIn_r _ [34, 35, 36, 37] (by decide +kernel) (by decide +kernel)
set_option maxRecDepth 20000 in
theorem gX5_look_J13_bitCount_95d88 : GoodIn wsX5_look (va_wsS RX5 63 yJ13_bitCount_95d88 wsJ13_bitCount_95d88) := goodIn_app (goodIn_of _ (by decide +kernel)) ggX5_look_J13_bitCount_95d88
set_option maxRecDepth 20000 in
theorem ggX5_look_X1_find : GoodIn wsX5_look wsX1_find := goodIn_r _ [42, 43, 44, 45, 46, 41, 47, 48, 49, 50, 51, 52, 53, 54, 22, 10, 23, 24, 25, 55, 56, 57, 58, 59, 60, 61, 62, 63, 64, 9, 11, 65, 118, 119, 120, 121] (by decide +kernel) (by decide +kernel)
set_option maxRecDepth 20000 in
theorem gX5_look_X1_find : GoodIn wsX5_look (wsV RX5 69 RX1 yX1_find wsX1_find) := goodIn_app (goodIn_of _ (by decide +kernel)) ggX5_look_X1_find
set_option maxRecDepth 20000 in
theorem ggX5_look_X5_coverWith : GoodIn wsX5_look wsX5_coverWith := goodIn_r _ [70, 5, 71, 4, 72, 73, 18, 19, 20, 74, 75, 76, 41, 77, 43, 60, 59, 78, 32, 33, 34, 35, 36, 37, 79, 80, 81, 82, 83, 84, 85, 106, 107, 108, 109, 110, 111, 112, 113, 114, 115, 116, 117, 118, 119, 120, 121] (by decide +kernel) (by decide +kernel)
set_option maxRecDepth 20000 in
theorem gX5_look_X5_coverWith : GoodIn wsX5_look (wsV RX5 78 RX5 yX5_coverWith wsX5_coverWith) := goodIn_app (goodIn_of _ (by decide +kernel)) ggX5_look_X5_coverWith
set_option maxRecDepth 20000 in
theorem ggX5_look_X5_countParts : GoodIn wsX5_look wsX5_countParts := goodIn_r _ [89, 90, 91, 92, 73, 71, 93, 94, 95, 69, 96, 97, 80, 81, 82, 83, 84, 85, 106, 107, 108, 109, 110, 111, 112, 113, 114, 115, 116, 117] (by decide +kernel) (by decide +kernel)
set_option maxRecDepth 20000 in
theorem gX5_look_X5_countParts : GoodIn wsX5_look (wsV RX5 82 RX5 yX5_countParts wsX5_countParts) := goodIn_app (goodIn_of _ (by decide +kernel)) ggX5_look_X5_countParts
theorem dX5_look_0 : decode cX5_look 0 = .ok (.aload_n 0, 1) := by decide +kernel
theorem dX5_look_1 : decode cX5_look 1 = .ok (.aload_n 1, 1) := by decide +kernel
theorem dX5_look_2 : decode cX5_look 2 = .ok (.getfield 34, 3) := by decide +kernel
theorem dX5_look_5 : decode cX5_look 5 = .ok (.putfield 40, 3) := by decide +kernel
theorem dX5_look_8 : decode cX5_look 8 = .ok (.aload_n 0, 1) := by decide +kernel
theorem dX5_look_9 : decode cX5_look 9 = .ok (.iconst 0, 1) := by decide +kernel
theorem dX5_look_10 : decode cX5_look 10 = .ok (.putfield 41, 3) := by decide +kernel
theorem dX5_look_13 : decode cX5_look 13 = .ok (.aload_n 0, 1) := by decide +kernel
theorem dX5_look_14 : decode cX5_look 14 = .ok (.getfield 40, 3) := by decide +kernel
theorem dX5_look_17 : decode cX5_look 17 = .ok (.invokestatic 44, 3) := by decide +kernel
theorem dX5_look_20 : decode cX5_look 20 = .ok (.iload_n 2, 1) := by decide +kernel
theorem dX5_look_21 : decode cX5_look 21 = .ok (.iconst (-1), 1) := by decide +kernel
theorem dX5_look_22 : decode cX5_look 22 = .ok (.ixor, 1) := by decide +kernel
theorem dX5_look_23 : decode cX5_look 23 = .ok (.iand, 1) := by decide +kernel
theorem dX5_look_24 : decode cX5_look 24 = .ok (.istore 4, 2) := by decide +kernel
theorem dX5_look_26 : decode cX5_look 26 = .ok (.iconst 0, 1) := by decide +kernel
theorem dX5_look_27 : decode cX5_look 27 = .ok (.istore 5, 2) := by decide +kernel
theorem dX5_look_29 : decode cX5_look 29 = .ok (.iload 5, 2) := by decide +kernel
theorem dX5_look_31 : decode cX5_look 31 = .ok (.iconst 4, 1) := by decide +kernel
theorem dX5_look_32 : decode cX5_look 32 = .ok (.if_icmp .ge 132, 3) := by decide +kernel
theorem dX5_look_35 : decode cX5_look 35 = .ok (.aload_n 1, 1) := by decide +kernel
theorem dX5_look_36 : decode cX5_look 36 = .ok (.iload 5, 2) := by decide +kernel
theorem dX5_look_38 : decode cX5_look 38 = .ok (.invokevirtual 50, 3) := by decide +kernel
theorem dX5_look_41 : decode cX5_look 41 = .ok (.iload 4, 2) := by decide +kernel
theorem dX5_look_43 : decode cX5_look 43 = .ok (.invokestatic 54, 3) := by decide +kernel
theorem dX5_look_46 : decode cX5_look 46 = .ok (.lstore 6, 2) := by decide +kernel
theorem dX5_look_48 : decode cX5_look 48 = .ok (.aload_n 1, 1) := by decide +kernel
theorem dX5_look_49 : decode cX5_look 49 = .ok (.iload 5, 2) := by decide +kernel
theorem dX5_look_51 : decode cX5_look 51 = .ok (.invokevirtual 58, 3) := by decide +kernel
theorem dX5_look_54 : decode cX5_look 54 = .ok (.iload 4, 2) := by decide +kernel
theorem dX5_look_56 : decode cX5_look 56 = .ok (.invokestatic 54, 3) := by decide +kernel
theorem dX5_look_59 : decode cX5_look 59 = .ok (.lstore 8, 2) := by decide +kernel
theorem dX5_look_61 : decode cX5_look 61 = .ok (.aload_n 0, 1) := by decide +kernel
theorem dX5_look_62 : decode cX5_look 62 = .ok (.getfield 9, 3) := by decide +kernel
theorem dX5_look_65 : decode cX5_look 65 = .ok (.iload 5, 2) := by decide +kernel
theorem dX5_look_67 : decode cX5_look 67 = .ok (.lload 6, 2) := by decide +kernel
theorem dX5_look_69 : decode cX5_look 69 = .ok (.lload 8, 2) := by decide +kernel
theorem dX5_look_71 : decode cX5_look 71 = .ok (.ldc2_w 61, 3) := by decide +kernel
theorem dX5_look_74 : decode cX5_look 74 = .ok (.lxor, 1) := by decide +kernel
theorem dX5_look_75 : decode cX5_look 75 = .ok (.land, 1) := by decide +kernel
theorem dX5_look_76 : decode cX5_look 76 = .ok (.lastore, 1) := by decide +kernel
theorem dX5_look_77 : decode cX5_look 77 = .ok (.aload_n 0, 1) := by decide +kernel
theorem dX5_look_78 : decode cX5_look 78 = .ok (.getfield 15, 3) := by decide +kernel
theorem dX5_look_81 : decode cX5_look 81 = .ok (.iload 5, 2) := by decide +kernel
theorem dX5_look_83 : decode cX5_look 83 = .ok (.lload 8, 2) := by decide +kernel
theorem dX5_look_85 : decode cX5_look 85 = .ok (.lload 6, 2) := by decide +kernel
theorem dX5_look_87 : decode cX5_look 87 = .ok (.ldc2_w 61, 3) := by decide +kernel
theorem dX5_look_90 : decode cX5_look 90 = .ok (.lxor, 1) := by decide +kernel
theorem dX5_look_91 : decode cX5_look 91 = .ok (.land, 1) := by decide +kernel
theorem dX5_look_92 : decode cX5_look 92 = .ok (.lastore, 1) := by decide +kernel
theorem dX5_look_93 : decode cX5_look 93 = .ok (.aload_n 0, 1) := by decide +kernel
theorem dX5_look_94 : decode cX5_look 94 = .ok (.getfield 18, 3) := by decide +kernel
theorem dX5_look_97 : decode cX5_look 97 = .ok (.iload 5, 2) := by decide +kernel
theorem dX5_look_99 : decode cX5_look 99 = .ok (.lload 6, 2) := by decide +kernel
theorem dX5_look_101 : decode cX5_look 101 = .ok (.lload 8, 2) := by decide +kernel
theorem dX5_look_103 : decode cX5_look 103 = .ok (.land, 1) := by decide +kernel
theorem dX5_look_104 : decode cX5_look 104 = .ok (.lastore, 1) := by decide +kernel
theorem dX5_look_105 : decode cX5_look 105 = .ok (.aload_n 0, 1) := by decide +kernel
theorem dX5_look_106 : decode cX5_look 106 = .ok (.dup, 1) := by decide +kernel
theorem dX5_look_107 : decode cX5_look 107 = .ok (.getfield 41, 3) := by decide +kernel
theorem dX5_look_110 : decode cX5_look 110 = .ok (.aload_n 0, 1) := by decide +kernel
theorem dX5_look_111 : decode cX5_look 111 = .ok (.getfield 18, 3) := by decide +kernel
theorem dX5_look_114 : decode cX5_look 114 = .ok (.iload 5, 2) := by decide +kernel
theorem dX5_look_116 : decode cX5_look 116 = .ok (.laload, 1) := by decide +kernel
theorem dX5_look_117 : decode cX5_look 117 = .ok (.invokestatic 63, 3) := by decide +kernel
theorem dX5_look_120 : decode cX5_look 120 = .ok (.iadd, 1) := by decide +kernel
theorem dX5_look_121 : decode cX5_look 121 = .ok (.putfield 41, 3) := by decide +kernel
theorem dX5_look_124 : decode cX5_look 124 = .ok (.aload_n 3, 1) := by decide +kernel
theorem dX5_look_125 : decode cX5_look 125 = .ok (.aload_n 0, 1) := by decide +kernel
theorem dX5_look_126 : decode cX5_look 126 = .ok (.getfield 40, 3) := by decide +kernel
theorem dX5_look_129 : decode cX5_look 129 = .ok (.iload_n 2, 1) := by decide +kernel
theorem dX5_look_130 : decode cX5_look 130 = .ok (.aload_n 0, 1) := by decide +kernel
theorem dX5_look_131 : decode cX5_look 131 = .ok (.getfield 9, 3) := by decide +kernel
theorem dX5_look_134 : decode cX5_look 134 = .ok (.iload 5, 2) := by decide +kernel
theorem dX5_look_136 : decode cX5_look 136 = .ok (.laload, 1) := by decide +kernel
theorem dX5_look_137 : decode cX5_look 137 = .ok (.invokevirtual 69, 3) := by decide +kernel
theorem dX5_look_140 : decode cX5_look 140 = .ok (.aload_n 0, 1) := by decide +kernel
theorem dX5_look_141 : decode cX5_look 141 = .ok (.getfield 24, 3) := by decide +kernel
theorem dX5_look_144 : decode cX5_look 144 = .ok (.iload 5, 2) := by decide +kernel
theorem dX5_look_146 : decode cX5_look 146 = .ok (.aload_n 3, 1) := by decide +kernel
theorem dX5_look_147 : decode cX5_look 147 = .ok (.getfield 75, 3) := by decide +kernel
theorem dX5_look_150 : decode cX5_look 150 = .ok (.iastore, 1) := by decide +kernel
theorem dX5_look_151 : decode cX5_look 151 = .ok (.aload_n 0, 1) := by decide +kernel
theorem dX5_look_152 : decode cX5_look 152 = .ok (.aload_n 3, 1) := by decide +kernel
theorem dX5_look_153 : decode cX5_look 153 = .ok (.iload 5, 2) := by decide +kernel
theorem dX5_look_155 : decode cX5_look 155 = .ok (.invokevirtual 78, 3) := by decide +kernel
theorem dX5_look_158 : decode cX5_look 158 = .ok (.iinc 5 1, 3) := by decide +kernel
theorem dX5_look_161 : decode cX5_look 161 = .ok (.goto (-132), 3) := by decide +kernel
theorem dX5_look_164 : decode cX5_look 164 = .ok (.aload_n 0, 1) := by decide +kernel
theorem dX5_look_165 : decode cX5_look 165 = .ok (.invokevirtual 82, 3) := by decide +kernel
theorem dX5_look_168 : decode cX5_look 168 = .ok (.return_, 1) := by decide +kernel
set_option maxRecDepth 20000 in
theorem ggX5_coverWith_X6_isOutput : GoodIn wsX5_coverWith wsX6_isOutput := goodIn_r _ [8] (by decide +kernel) (by decide +kernel)
set_option maxRecDepth 20000 in
theorem ggX5_coverWith_X1_bestFor : GoodIn wsX5_coverWith wsX1_bestFor := goodIn_r _ [13, 14, 15, 16, 17, 18, 19, 20, 21, 22, 23, 24, 25, 26, 27, 28, 29, 30, 43, 44, 45, 46] (by decide +kernel) (by decide +kernel)
set_option maxRecDepth 20000 in
theorem gX5_coverWith_X1_bestFor : GoodIn wsX5_coverWith (wsV RX5 89 RX1 yX1_bestFor wsX1_bestFor) := goodIn_app (goodIn_of _ (by decide +kernel)) ggX5_coverWith_X1_bestFor
theorem dX5_coverWith_0 : decode cX5_coverWith 0 = .ok (.iload_n 2, 1) := by decide +kernel
theorem dX5_coverWith_1 : decode cX5_coverWith 1 = .ok (.invokestatic 85, 3) := by decide +kernel
theorem dX5_coverWith_4 : decode cX5_coverWith 4 = .ok (.ifCond .ne 4, 3) := by decide +kernel
theorem dX5_coverWith_7 : decode cX5_coverWith 7 = .ok (.return_, 1) := by decide +kernel
theorem dX5_coverWith_8 : decode cX5_coverWith 8 = .ok (.aload_n 0, 1) := by decide +kernel
theorem dX5_coverWith_9 : decode cX5_coverWith 9 = .ok (.getfield 15, 3) := by decide +kernel
theorem dX5_coverWith_12 : decode cX5_coverWith 12 = .ok (.iload_n 2, 1) := by decide +kernel
theorem dX5_coverWith_13 : decode cX5_coverWith 13 = .ok (.laload, 1) := by decide +kernel
theorem dX5_coverWith_14 : decode cX5_coverWith 14 = .ok (.lstore_n 3, 1) := by decide +kernel
theorem dX5_coverWith_15 : decode cX5_coverWith 15 = .ok (.lconst 0, 1) := by decide +kernel
theorem dX5_coverWith_16 : decode cX5_coverWith 16 = .ok (.lstore 5, 2) := by decide +kernel
theorem dX5_coverWith_18 : decode cX5_coverWith 18 = .ok (.iconst 0, 1) := by decide +kernel
theorem dX5_coverWith_19 : decode cX5_coverWith 19 = .ok (.istore 7, 2) := by decide +kernel
theorem dX5_coverWith_21 : decode cX5_coverWith 21 = .ok (.iconst 0, 1) := by decide +kernel
theorem dX5_coverWith_22 : decode cX5_coverWith 22 = .ok (.istore 8, 2) := by decide +kernel
theorem dX5_coverWith_24 : decode cX5_coverWith 24 = .ok (.iload 8, 2) := by decide +kernel
theorem dX5_coverWith_26 : decode cX5_coverWith 26 = .ok (.bipush 64, 2) := by decide +kernel
theorem dX5_coverWith_28 : decode cX5_coverWith 28 = .ok (.if_icmp .ge 86, 3) := by decide +kernel
theorem dX5_coverWith_31 : decode cX5_coverWith 31 = .ok (.lload_n 3, 1) := by decide +kernel
theorem dX5_coverWith_32 : decode cX5_coverWith 32 = .ok (.lconst 0, 1) := by decide +kernel
theorem dX5_coverWith_33 : decode cX5_coverWith 33 = .ok (.lcmp, 1) := by decide +kernel
theorem dX5_coverWith_34 : decode cX5_coverWith 34 = .ok (.ifCond .eq 80, 3) := by decide +kernel
theorem dX5_coverWith_37 : decode cX5_coverWith 37 = .ok (.aload_n 1, 1) := by decide +kernel
theorem dX5_coverWith_38 : decode cX5_coverWith 38 = .ok (.lload_n 3, 1) := by decide +kernel
theorem dX5_coverWith_39 : decode cX5_coverWith 39 = .ok (.invokevirtual 89, 3) := by decide +kernel
theorem dX5_coverWith_42 : decode cX5_coverWith 42 = .ok (.istore 9, 2) := by decide +kernel
theorem dX5_coverWith_44 : decode cX5_coverWith 44 = .ok (.iload 9, 2) := by decide +kernel
theorem dX5_coverWith_46 : decode cX5_coverWith 46 = .ok (.ifCond .lt 68, 3) := by decide +kernel
theorem dX5_coverWith_49 : decode cX5_coverWith 49 = .ok (.iload 9, 2) := by decide +kernel
theorem dX5_coverWith_51 : decode cX5_coverWith 51 = .ok (.sipush 729, 3) := by decide +kernel
theorem dX5_coverWith_54 : decode cX5_coverWith 54 = .ok (.if_icmp .lt 6, 3) := by decide +kernel
theorem dX5_coverWith_57 : decode cX5_coverWith 57 = .ok (.goto 57, 3) := by decide +kernel
theorem dX5_coverWith_60 : decode cX5_coverWith 60 = .ok (.aload_n 0, 1) := by decide +kernel
theorem dX5_coverWith_61 : decode cX5_coverWith 61 = .ok (.getfield 31, 3) := by decide +kernel
theorem dX5_coverWith_64 : decode cX5_coverWith 64 = .ok (.iload_n 2, 1) := by decide +kernel
theorem dX5_coverWith_65 : decode cX5_coverWith 65 = .ok (.bipush 64, 2) := by decide +kernel
theorem dX5_coverWith_67 : decode cX5_coverWith 67 = .ok (.imul, 1) := by decide +kernel
theorem dX5_coverWith_68 : decode cX5_coverWith 68 = .ok (.iload 8, 2) := by decide +kernel
theorem dX5_coverWith_70 : decode cX5_coverWith 70 = .ok (.iadd, 1) := by decide +kernel
theorem dX5_coverWith_71 : decode cX5_coverWith 71 = .ok (.aload_n 1, 1) := by decide +kernel
theorem dX5_coverWith_72 : decode cX5_coverWith 72 = .ok (.getfield 92, 3) := by decide +kernel
theorem dX5_coverWith_75 : decode cX5_coverWith 75 = .ok (.iload 9, 2) := by decide +kernel
theorem dX5_coverWith_77 : decode cX5_coverWith 77 = .ok (.iaload, 1) := by decide +kernel
theorem dX5_coverWith_78 : decode cX5_coverWith 78 = .ok (.iastore, 1) := by decide +kernel
theorem dX5_coverWith_79 : decode cX5_coverWith 79 = .ok (.lload 5, 2) := by decide +kernel
theorem dX5_coverWith_81 : decode cX5_coverWith 81 = .ok (.aload_n 1, 1) := by decide +kernel
theorem dX5_coverWith_82 : decode cX5_coverWith 82 = .ok (.getfield 93, 3) := by decide +kernel
theorem dX5_coverWith_85 : decode cX5_coverWith 85 = .ok (.iload 9, 2) := by decide +kernel
theorem dX5_coverWith_87 : decode cX5_coverWith 87 = .ok (.laload, 1) := by decide +kernel
theorem dX5_coverWith_88 : decode cX5_coverWith 88 = .ok (.lor, 1) := by decide +kernel
theorem dX5_coverWith_89 : decode cX5_coverWith 89 = .ok (.lstore 5, 2) := by decide +kernel
theorem dX5_coverWith_91 : decode cX5_coverWith 91 = .ok (.lload_n 3, 1) := by decide +kernel
theorem dX5_coverWith_92 : decode cX5_coverWith 92 = .ok (.aload_n 1, 1) := by decide +kernel
theorem dX5_coverWith_93 : decode cX5_coverWith 93 = .ok (.getfield 93, 3) := by decide +kernel
theorem dX5_coverWith_96 : decode cX5_coverWith 96 = .ok (.iload 9, 2) := by decide +kernel
theorem dX5_coverWith_98 : decode cX5_coverWith 98 = .ok (.laload, 1) := by decide +kernel
theorem dX5_coverWith_99 : decode cX5_coverWith 99 = .ok (.ldc2_w 61, 3) := by decide +kernel
theorem dX5_coverWith_102 : decode cX5_coverWith 102 = .ok (.lxor, 1) := by decide +kernel
theorem dX5_coverWith_103 : decode cX5_coverWith 103 = .ok (.land, 1) := by decide +kernel
theorem dX5_coverWith_104 : decode cX5_coverWith 104 = .ok (.lstore_n 3, 1) := by decide +kernel
theorem dX5_coverWith_105 : decode cX5_coverWith 105 = .ok (.iinc 7 1, 3) := by decide +kernel
theorem dX5_coverWith_108 : decode cX5_coverWith 108 = .ok (.iinc 8 1, 3) := by decide +kernel
theorem dX5_coverWith_111 : decode cX5_coverWith 111 = .ok (.goto (-87), 3) := by decide +kernel
theorem dX5_coverWith_114 : decode cX5_coverWith 114 = .ok (.aload_n 0, 1) := by decide +kernel
theorem dX5_coverWith_115 : decode cX5_coverWith 115 = .ok (.getfield 21, 3) := by decide +kernel
theorem dX5_coverWith_118 : decode cX5_coverWith 118 = .ok (.iload_n 2, 1) := by decide +kernel
theorem dX5_coverWith_119 : decode cX5_coverWith 119 = .ok (.lload 5, 2) := by decide +kernel
theorem dX5_coverWith_121 : decode cX5_coverWith 121 = .ok (.lastore, 1) := by decide +kernel
theorem dX5_coverWith_122 : decode cX5_coverWith 122 = .ok (.aload_n 0, 1) := by decide +kernel
theorem dX5_coverWith_123 : decode cX5_coverWith 123 = .ok (.getfield 28, 3) := by decide +kernel
theorem dX5_coverWith_126 : decode cX5_coverWith 126 = .ok (.iload_n 2, 1) := by decide +kernel
theorem dX5_coverWith_127 : decode cX5_coverWith 127 = .ok (.iload 7, 2) := by decide +kernel
theorem dX5_coverWith_129 : decode cX5_coverWith 129 = .ok (.iastore, 1) := by decide +kernel
theorem dX5_coverWith_130 : decode cX5_coverWith 130 = .ok (.return_, 1) := by decide +kernel
set_option maxRecDepth 20000 in
theorem ggX5_countParts_X5_holdersOf : GoodIn wsX5_countParts wsX5_holdersOf := goodIn_r _ [10, 4, 5, 18, 19, 20, 21, 22, 23, 24, 25, 26, 27, 28, 29] (by decide +kernel) (by decide +kernel)
set_option maxRecDepth 20000 in
theorem gX5_countParts_X5_holdersOf : GoodIn wsX5_countParts (wsV RX5 105 RX5 yX5_holdersOf wsX5_holdersOf) := goodIn_app (goodIn_of _ (by decide +kernel)) ggX5_countParts_X5_holdersOf
set_option maxRecDepth 20000 in
theorem ggX5_countParts_J6_bitCount_0f7a4 : GoodIn wsX5_countParts wsJ6_bitCount_0f7a4 := goodIn_r _ [14, 15, 16, 17] (by decide +kernel) (by decide +kernel)
set_option maxRecDepth 20000 in
theorem gX5_countParts_J6_bitCount_0f7a4 : GoodIn wsX5_countParts (va_wsS RX5 108 yJ6_bitCount_0f7a4 wsJ6_bitCount_0f7a4) := goodIn_app (goodIn_of _ (by decide +kernel)) ggX5_countParts_J6_bitCount_0f7a4
theorem dX5_countParts_0 : decode cX5_countParts 0 = .ok (.aload_n 0, 1) := by decide +kernel
theorem dX5_countParts_1 : decode cX5_countParts 1 = .ok (.iconst 0, 1) := by decide +kernel
theorem dX5_countParts_2 : decode cX5_countParts 2 = .ok (.putfield 96, 3) := by decide +kernel
theorem dX5_countParts_5 : decode cX5_countParts 5 = .ok (.aload_n 0, 1) := by decide +kernel
theorem dX5_countParts_6 : decode cX5_countParts 6 = .ok (.iconst 0, 1) := by decide +kernel
theorem dX5_countParts_7 : decode cX5_countParts 7 = .ok (.putfield 99, 3) := by decide +kernel
theorem dX5_countParts_10 : decode cX5_countParts 10 = .ok (.aload_n 0, 1) := by decide +kernel
theorem dX5_countParts_11 : decode cX5_countParts 11 = .ok (.iconst 0, 1) := by decide +kernel
theorem dX5_countParts_12 : decode cX5_countParts 12 = .ok (.putfield 102, 3) := by decide +kernel
theorem dX5_countParts_15 : decode cX5_countParts 15 = .ok (.iconst 0, 1) := by decide +kernel
theorem dX5_countParts_16 : decode cX5_countParts 16 = .ok (.istore_n 1, 1) := by decide +kernel
theorem dX5_countParts_17 : decode cX5_countParts 17 = .ok (.iload_n 1, 1) := by decide +kernel
theorem dX5_countParts_18 : decode cX5_countParts 18 = .ok (.iconst 4, 1) := by decide +kernel
theorem dX5_countParts_19 : decode cX5_countParts 19 = .ok (.if_icmp .ge 115, 3) := by decide +kernel
theorem dX5_countParts_22 : decode cX5_countParts 22 = .ok (.iconst 0, 1) := by decide +kernel
theorem dX5_countParts_23 : decode cX5_countParts 23 = .ok (.istore_n 2, 1) := by decide +kernel
theorem dX5_countParts_24 : decode cX5_countParts 24 = .ok (.iload_n 2, 1) := by decide +kernel
theorem dX5_countParts_25 : decode cX5_countParts 25 = .ok (.aload_n 0, 1) := by decide +kernel
theorem dX5_countParts_26 : decode cX5_countParts 26 = .ok (.getfield 28, 3) := by decide +kernel
theorem dX5_countParts_29 : decode cX5_countParts 29 = .ok (.iload_n 1, 1) := by decide +kernel
theorem dX5_countParts_30 : decode cX5_countParts 30 = .ok (.iaload, 1) := by decide +kernel
theorem dX5_countParts_31 : decode cX5_countParts 31 = .ok (.if_icmp .ge 97, 3) := by decide +kernel
theorem dX5_countParts_34 : decode cX5_countParts 34 = .ok (.iload_n 2, 1) := by decide +kernel
theorem dX5_countParts_35 : decode cX5_countParts 35 = .ok (.bipush 64, 2) := by decide +kernel
theorem dX5_countParts_37 : decode cX5_countParts 37 = .ok (.if_icmp .ge 91, 3) := by decide +kernel
theorem dX5_countParts_40 : decode cX5_countParts 40 = .ok (.aload_n 0, 1) := by decide +kernel
theorem dX5_countParts_41 : decode cX5_countParts 41 = .ok (.getfield 31, 3) := by decide +kernel
theorem dX5_countParts_44 : decode cX5_countParts 44 = .ok (.iload_n 1, 1) := by decide +kernel
theorem dX5_countParts_45 : decode cX5_countParts 45 = .ok (.bipush 64, 2) := by decide +kernel
theorem dX5_countParts_47 : decode cX5_countParts 47 = .ok (.imul, 1) := by decide +kernel
theorem dX5_countParts_48 : decode cX5_countParts 48 = .ok (.iload_n 2, 1) := by decide +kernel
theorem dX5_countParts_49 : decode cX5_countParts 49 = .ok (.iadd, 1) := by decide +kernel
theorem dX5_countParts_50 : decode cX5_countParts 50 = .ok (.iaload, 1) := by decide +kernel
theorem dX5_countParts_51 : decode cX5_countParts 51 = .ok (.istore_n 3, 1) := by decide +kernel
theorem dX5_countParts_52 : decode cX5_countParts 52 = .ok (.aload_n 0, 1) := by decide +kernel
theorem dX5_countParts_53 : decode cX5_countParts 53 = .ok (.iload_n 3, 1) := by decide +kernel
theorem dX5_countParts_54 : decode cX5_countParts 54 = .ok (.invokevirtual 105, 3) := by decide +kernel
theorem dX5_countParts_57 : decode cX5_countParts 57 = .ok (.istore 4, 2) := by decide +kernel
theorem dX5_countParts_59 : decode cX5_countParts 59 = .ok (.iload 4, 2) := by decide +kernel
theorem dX5_countParts_61 : decode cX5_countParts 61 = .ok (.iconst 1, 1) := by decide +kernel
theorem dX5_countParts_62 : decode cX5_countParts 62 = .ok (.iload_n 1, 1) := by decide +kernel
theorem dX5_countParts_63 : decode cX5_countParts 63 = .ok (.ishl, 1) := by decide +kernel
theorem dX5_countParts_64 : decode cX5_countParts 64 = .ok (.iconst 1, 1) := by decide +kernel
theorem dX5_countParts_65 : decode cX5_countParts 65 = .ok (.isub, 1) := by decide +kernel
theorem dX5_countParts_66 : decode cX5_countParts 66 = .ok (.iand, 1) := by decide +kernel
theorem dX5_countParts_67 : decode cX5_countParts 67 = .ok (.istore 5, 2) := by decide +kernel
theorem dX5_countParts_69 : decode cX5_countParts 69 = .ok (.iload 5, 2) := by decide +kernel
theorem dX5_countParts_71 : decode cX5_countParts 71 = .ok (.ifCond .ne 51, 3) := by decide +kernel
theorem dX5_countParts_74 : decode cX5_countParts 74 = .ok (.aload_n 0, 1) := by decide +kernel
theorem dX5_countParts_75 : decode cX5_countParts 75 = .ok (.dup, 1) := by decide +kernel
theorem dX5_countParts_76 : decode cX5_countParts 76 = .ok (.getfield 96, 3) := by decide +kernel
theorem dX5_countParts_79 : decode cX5_countParts 79 = .ok (.iconst 1, 1) := by decide +kernel
theorem dX5_countParts_80 : decode cX5_countParts 80 = .ok (.iadd, 1) := by decide +kernel
theorem dX5_countParts_81 : decode cX5_countParts 81 = .ok (.putfield 96, 3) := by decide +kernel
theorem dX5_countParts_84 : decode cX5_countParts 84 = .ok (.aload_n 0, 1) := by decide +kernel
theorem dX5_countParts_85 : decode cX5_countParts 85 = .ok (.dup, 1) := by decide +kernel
theorem dX5_countParts_86 : decode cX5_countParts 86 = .ok (.getfield 102, 3) := by decide +kernel
theorem dX5_countParts_89 : decode cX5_countParts 89 = .ok (.iload_n 3, 1) := by decide +kernel
theorem dX5_countParts_90 : decode cX5_countParts 90 = .ok (.bipush 64, 2) := by decide +kernel
theorem dX5_countParts_92 : decode cX5_countParts 92 = .ok (.idiv, 1) := by decide +kernel
theorem dX5_countParts_93 : decode cX5_countParts 93 = .ok (.invokestatic 108, 3) := by decide +kernel
theorem dX5_countParts_96 : decode cX5_countParts 96 = .ok (.iadd, 1) := by decide +kernel
theorem dX5_countParts_97 : decode cX5_countParts 97 = .ok (.putfield 102, 3) := by decide +kernel
theorem dX5_countParts_100 : decode cX5_countParts 100 = .ok (.aload_n 0, 1) := by decide +kernel
theorem dX5_countParts_101 : decode cX5_countParts 101 = .ok (.dup, 1) := by decide +kernel
theorem dX5_countParts_102 : decode cX5_countParts 102 = .ok (.getfield 99, 3) := by decide +kernel
theorem dX5_countParts_105 : decode cX5_countParts 105 = .ok (.iload 4, 2) := by decide +kernel
theorem dX5_countParts_107 : decode cX5_countParts 107 = .ok (.iconst 1, 1) := by decide +kernel
theorem dX5_countParts_108 : decode cX5_countParts 108 = .ok (.iload_n 1, 1) := by decide +kernel
theorem dX5_countParts_109 : decode cX5_countParts 109 = .ok (.ishl, 1) := by decide +kernel
theorem dX5_countParts_110 : decode cX5_countParts 110 = .ok (.if_icmp .eq 7, 3) := by decide +kernel
theorem dX5_countParts_113 : decode cX5_countParts 113 = .ok (.iconst 1, 1) := by decide +kernel
theorem dX5_countParts_114 : decode cX5_countParts 114 = .ok (.goto 4, 3) := by decide +kernel
theorem dX5_countParts_117 : decode cX5_countParts 117 = .ok (.iconst 0, 1) := by decide +kernel
theorem dX5_countParts_118 : decode cX5_countParts 118 = .ok (.iadd, 1) := by decide +kernel
theorem dX5_countParts_119 : decode cX5_countParts 119 = .ok (.putfield 99, 3) := by decide +kernel
theorem dX5_countParts_122 : decode cX5_countParts 122 = .ok (.iinc 2 1, 3) := by decide +kernel
theorem dX5_countParts_125 : decode cX5_countParts 125 = .ok (.goto (-101), 3) := by decide +kernel
theorem dX5_countParts_128 : decode cX5_countParts 128 = .ok (.iinc 1 1, 3) := by decide +kernel
theorem dX5_countParts_131 : decode cX5_countParts 131 = .ok (.goto (-114), 3) := by decide +kernel
theorem dX5_countParts_134 : decode cX5_countParts 134 = .ok (.return_, 1) := by decide +kernel
theorem dX5_holdersOf_0 : decode cX5_holdersOf 0 = .ok (.iconst 0, 1) := by decide +kernel
theorem dX5_holdersOf_1 : decode cX5_holdersOf 1 = .ok (.istore_n 2, 1) := by decide +kernel
theorem dX5_holdersOf_2 : decode cX5_holdersOf 2 = .ok (.iconst 0, 1) := by decide +kernel
theorem dX5_holdersOf_3 : decode cX5_holdersOf 3 = .ok (.istore_n 3, 1) := by decide +kernel
theorem dX5_holdersOf_4 : decode cX5_holdersOf 4 = .ok (.iload_n 3, 1) := by decide +kernel
theorem dX5_holdersOf_5 : decode cX5_holdersOf 5 = .ok (.iconst 4, 1) := by decide +kernel
theorem dX5_holdersOf_6 : decode cX5_holdersOf 6 = .ok (.if_icmp .ge 58, 3) := by decide +kernel
theorem dX5_holdersOf_9 : decode cX5_holdersOf 9 = .ok (.iconst 0, 1) := by decide +kernel
theorem dX5_holdersOf_10 : decode cX5_holdersOf 10 = .ok (.istore 4, 2) := by decide +kernel
theorem dX5_holdersOf_12 : decode cX5_holdersOf 12 = .ok (.iload 4, 2) := by decide +kernel
theorem dX5_holdersOf_14 : decode cX5_holdersOf 14 = .ok (.aload_n 0, 1) := by decide +kernel
theorem dX5_holdersOf_15 : decode cX5_holdersOf 15 = .ok (.getfield 28, 3) := by decide +kernel
theorem dX5_holdersOf_18 : decode cX5_holdersOf 18 = .ok (.iload_n 3, 1) := by decide +kernel
theorem dX5_holdersOf_19 : decode cX5_holdersOf 19 = .ok (.iaload, 1) := by decide +kernel
theorem dX5_holdersOf_20 : decode cX5_holdersOf 20 = .ok (.if_icmp .ge 38, 3) := by decide +kernel
theorem dX5_holdersOf_23 : decode cX5_holdersOf 23 = .ok (.iload 4, 2) := by decide +kernel
theorem dX5_holdersOf_25 : decode cX5_holdersOf 25 = .ok (.bipush 64, 2) := by decide +kernel
theorem dX5_holdersOf_27 : decode cX5_holdersOf 27 = .ok (.if_icmp .ge 31, 3) := by decide +kernel
theorem dX5_holdersOf_30 : decode cX5_holdersOf 30 = .ok (.aload_n 0, 1) := by decide +kernel
theorem dX5_holdersOf_31 : decode cX5_holdersOf 31 = .ok (.getfield 31, 3) := by decide +kernel
theorem dX5_holdersOf_34 : decode cX5_holdersOf 34 = .ok (.iload_n 3, 1) := by decide +kernel
theorem dX5_holdersOf_35 : decode cX5_holdersOf 35 = .ok (.bipush 64, 2) := by decide +kernel
theorem dX5_holdersOf_37 : decode cX5_holdersOf 37 = .ok (.imul, 1) := by decide +kernel
theorem dX5_holdersOf_38 : decode cX5_holdersOf 38 = .ok (.iload 4, 2) := by decide +kernel
theorem dX5_holdersOf_40 : decode cX5_holdersOf 40 = .ok (.iadd, 1) := by decide +kernel
theorem dX5_holdersOf_41 : decode cX5_holdersOf 41 = .ok (.iaload, 1) := by decide +kernel
theorem dX5_holdersOf_42 : decode cX5_holdersOf 42 = .ok (.iload_n 1, 1) := by decide +kernel
theorem dX5_holdersOf_43 : decode cX5_holdersOf 43 = .ok (.if_icmp .ne 9, 3) := by decide +kernel
theorem dX5_holdersOf_46 : decode cX5_holdersOf 46 = .ok (.iload_n 2, 1) := by decide +kernel
theorem dX5_holdersOf_47 : decode cX5_holdersOf 47 = .ok (.iconst 1, 1) := by decide +kernel
theorem dX5_holdersOf_48 : decode cX5_holdersOf 48 = .ok (.iload_n 3, 1) := by decide +kernel
theorem dX5_holdersOf_49 : decode cX5_holdersOf 49 = .ok (.ishl, 1) := by decide +kernel
theorem dX5_holdersOf_50 : decode cX5_holdersOf 50 = .ok (.ior, 1) := by decide +kernel
theorem dX5_holdersOf_51 : decode cX5_holdersOf 51 = .ok (.istore_n 2, 1) := by decide +kernel
theorem dX5_holdersOf_52 : decode cX5_holdersOf 52 = .ok (.iinc 4 1, 3) := by decide +kernel
theorem dX5_holdersOf_55 : decode cX5_holdersOf 55 = .ok (.goto (-43), 3) := by decide +kernel
theorem dX5_holdersOf_58 : decode cX5_holdersOf 58 = .ok (.iinc 3 1, 3) := by decide +kernel
theorem dX5_holdersOf_61 : decode cX5_holdersOf 61 = .ok (.goto (-57), 3) := by decide +kernel
theorem dX5_holdersOf_64 : decode cX5_holdersOf 64 = .ok (.iload_n 2, 1) := by decide +kernel
theorem dX5_holdersOf_65 : decode cX5_holdersOf 65 = .ok (.ireturn, 1) := by decide +kernel
set_option maxRecDepth 20000 in
theorem ggX5_sizeOf_X6_isOutput : GoodIn wsX5_sizeOf wsX6_isOutput := goodIn_r _ [4] (by decide +kernel) (by decide +kernel)
theorem dX5_sizeOf_0 : decode cX5_sizeOf 0 = .ok (.iload_n 1, 1) := by decide +kernel
theorem dX5_sizeOf_1 : decode cX5_sizeOf 1 = .ok (.invokestatic 85, 3) := by decide +kernel
theorem dX5_sizeOf_4 : decode cX5_sizeOf 4 = .ok (.ifCond .eq 12, 3) := by decide +kernel
theorem dX5_sizeOf_7 : decode cX5_sizeOf 7 = .ok (.aload_n 0, 1) := by decide +kernel
theorem dX5_sizeOf_8 : decode cX5_sizeOf 8 = .ok (.getfield 28, 3) := by decide +kernel
theorem dX5_sizeOf_11 : decode cX5_sizeOf 11 = .ok (.iload_n 1, 1) := by decide +kernel
theorem dX5_sizeOf_12 : decode cX5_sizeOf 12 = .ok (.iaload, 1) := by decide +kernel
theorem dX5_sizeOf_13 : decode cX5_sizeOf 13 = .ok (.goto 4, 3) := by decide +kernel
theorem dX5_sizeOf_16 : decode cX5_sizeOf 16 = .ok (.iconst 0, 1) := by decide +kernel
theorem dX5_sizeOf_17 : decode cX5_sizeOf 17 = .ok (.ireturn, 1) := by decide +kernel
set_option maxRecDepth 20000 in
theorem ggX5_answersOf_X6_isOutput : GoodIn wsX5_answersOf wsX6_isOutput := goodIn_r _ [4] (by decide +kernel) (by decide +kernel)
theorem dX5_answersOf_0 : decode cX5_answersOf 0 = .ok (.iload_n 1, 1) := by decide +kernel
theorem dX5_answersOf_1 : decode cX5_answersOf 1 = .ok (.invokestatic 85, 3) := by decide +kernel
theorem dX5_answersOf_4 : decode cX5_answersOf 4 = .ok (.ifCond .eq 12, 3) := by decide +kernel
theorem dX5_answersOf_7 : decode cX5_answersOf 7 = .ok (.aload_n 0, 1) := by decide +kernel
theorem dX5_answersOf_8 : decode cX5_answersOf 8 = .ok (.getfield 21, 3) := by decide +kernel
theorem dX5_answersOf_11 : decode cX5_answersOf 11 = .ok (.iload_n 1, 1) := by decide +kernel
theorem dX5_answersOf_12 : decode cX5_answersOf 12 = .ok (.laload, 1) := by decide +kernel
theorem dX5_answersOf_13 : decode cX5_answersOf 13 = .ok (.goto 4, 3) := by decide +kernel
theorem dX5_answersOf_16 : decode cX5_answersOf 16 = .ok (.lconst 0, 1) := by decide +kernel
theorem dX5_answersOf_17 : decode cX5_answersOf 17 = .ok (.lreturn, 1) := by decide +kernel
set_option maxRecDepth 20000 in
theorem ggX5_codeAt_X6_isOutput : GoodIn wsX5_codeAt wsX6_isOutput := goodIn_r _ [5] (by decide +kernel) (by decide +kernel)
theorem dX5_codeAt_0 : decode cX5_codeAt 0 = .ok (.iload_n 1, 1) := by decide +kernel
theorem dX5_codeAt_1 : decode cX5_codeAt 1 = .ok (.invokestatic 85, 3) := by decide +kernel
theorem dX5_codeAt_4 : decode cX5_codeAt 4 = .ok (.ifCond .eq 23, 3) := by decide +kernel
theorem dX5_codeAt_7 : decode cX5_codeAt 7 = .ok (.iload_n 2, 1) := by decide +kernel
theorem dX5_codeAt_8 : decode cX5_codeAt 8 = .ok (.ifCond .lt 19, 3) := by decide +kernel
theorem dX5_codeAt_11 : decode cX5_codeAt 11 = .ok (.iload_n 2, 1) := by decide +kernel
theorem dX5_codeAt_12 : decode cX5_codeAt 12 = .ok (.bipush 64, 2) := by decide +kernel
theorem dX5_codeAt_14 : decode cX5_codeAt 14 = .ok (.if_icmp .ge 13, 3) := by decide +kernel
theorem dX5_codeAt_17 : decode cX5_codeAt 17 = .ok (.iload_n 2, 1) := by decide +kernel
theorem dX5_codeAt_18 : decode cX5_codeAt 18 = .ok (.aload_n 0, 1) := by decide +kernel
theorem dX5_codeAt_19 : decode cX5_codeAt 19 = .ok (.getfield 28, 3) := by decide +kernel
theorem dX5_codeAt_22 : decode cX5_codeAt 22 = .ok (.iload_n 1, 1) := by decide +kernel
theorem dX5_codeAt_23 : decode cX5_codeAt 23 = .ok (.iaload, 1) := by decide +kernel
theorem dX5_codeAt_24 : decode cX5_codeAt 24 = .ok (.if_icmp .lt 5, 3) := by decide +kernel
theorem dX5_codeAt_27 : decode cX5_codeAt 27 = .ok (.iconst (-1), 1) := by decide +kernel
theorem dX5_codeAt_28 : decode cX5_codeAt 28 = .ok (.ireturn, 1) := by decide +kernel
theorem dX5_codeAt_29 : decode cX5_codeAt 29 = .ok (.aload_n 0, 1) := by decide +kernel
theorem dX5_codeAt_30 : decode cX5_codeAt 30 = .ok (.getfield 31, 3) := by decide +kernel
theorem dX5_codeAt_33 : decode cX5_codeAt 33 = .ok (.iload_n 1, 1) := by decide +kernel
theorem dX5_codeAt_34 : decode cX5_codeAt 34 = .ok (.bipush 64, 2) := by decide +kernel
theorem dX5_codeAt_36 : decode cX5_codeAt 36 = .ok (.imul, 1) := by decide +kernel
theorem dX5_codeAt_37 : decode cX5_codeAt 37 = .ok (.iload_n 2, 1) := by decide +kernel
theorem dX5_codeAt_38 : decode cX5_codeAt 38 = .ok (.iadd, 1) := by decide +kernel
theorem dX5_codeAt_39 : decode cX5_codeAt 39 = .ok (.iaload, 1) := by decide +kernel
theorem dX5_codeAt_40 : decode cX5_codeAt 40 = .ok (.ireturn, 1) := by decide +kernel
set_option maxRecDepth 20000 in
theorem ggX5_decidedAt_X6_isOutput : GoodIn wsX5_decidedAt wsX6_isOutput := goodIn_r _ [6] (by decide +kernel) (by decide +kernel)
theorem dX5_decidedAt_0 : decode cX5_decidedAt 0 = .ok (.iload_n 1, 1) := by decide +kernel
theorem dX5_decidedAt_1 : decode cX5_decidedAt 1 = .ok (.invokestatic 85, 3) := by decide +kernel
theorem dX5_decidedAt_4 : decode cX5_decidedAt 4 = .ok (.ifCond .ne 5, 3) := by decide +kernel
theorem dX5_decidedAt_7 : decode cX5_decidedAt 7 = .ok (.iconst 2, 1) := by decide +kernel
theorem dX5_decidedAt_8 : decode cX5_decidedAt 8 = .ok (.ireturn, 1) := by decide +kernel
theorem dX5_decidedAt_9 : decode cX5_decidedAt 9 = .ok (.aload_n 0, 1) := by decide +kernel
theorem dX5_decidedAt_10 : decode cX5_decidedAt 10 = .ok (.getfield 18, 3) := by decide +kernel
theorem dX5_decidedAt_13 : decode cX5_decidedAt 13 = .ok (.iload_n 1, 1) := by decide +kernel
theorem dX5_decidedAt_14 : decode cX5_decidedAt 14 = .ok (.laload, 1) := by decide +kernel
theorem dX5_decidedAt_15 : decode cX5_decidedAt 15 = .ok (.iload_n 2, 1) := by decide +kernel
theorem dX5_decidedAt_16 : decode cX5_decidedAt 16 = .ok (.lushr, 1) := by decide +kernel
theorem dX5_decidedAt_17 : decode cX5_decidedAt 17 = .ok (.lconst 1, 1) := by decide +kernel
theorem dX5_decidedAt_18 : decode cX5_decidedAt 18 = .ok (.land, 1) := by decide +kernel
theorem dX5_decidedAt_19 : decode cX5_decidedAt 19 = .ok (.lconst 0, 1) := by decide +kernel
theorem dX5_decidedAt_20 : decode cX5_decidedAt 20 = .ok (.lcmp, 1) := by decide +kernel
theorem dX5_decidedAt_21 : decode cX5_decidedAt 21 = .ok (.ifCond .eq 5, 3) := by decide +kernel
theorem dX5_decidedAt_24 : decode cX5_decidedAt 24 = .ok (.iconst 3, 1) := by decide +kernel
theorem dX5_decidedAt_25 : decode cX5_decidedAt 25 = .ok (.ireturn, 1) := by decide +kernel
theorem dX5_decidedAt_26 : decode cX5_decidedAt 26 = .ok (.aload_n 0, 1) := by decide +kernel
theorem dX5_decidedAt_27 : decode cX5_decidedAt 27 = .ok (.getfield 15, 3) := by decide +kernel
theorem dX5_decidedAt_30 : decode cX5_decidedAt 30 = .ok (.iload_n 1, 1) := by decide +kernel
theorem dX5_decidedAt_31 : decode cX5_decidedAt 31 = .ok (.laload, 1) := by decide +kernel
theorem dX5_decidedAt_32 : decode cX5_decidedAt 32 = .ok (.iload_n 2, 1) := by decide +kernel
theorem dX5_decidedAt_33 : decode cX5_decidedAt 33 = .ok (.lushr, 1) := by decide +kernel
theorem dX5_decidedAt_34 : decode cX5_decidedAt 34 = .ok (.lconst 1, 1) := by decide +kernel
theorem dX5_decidedAt_35 : decode cX5_decidedAt 35 = .ok (.land, 1) := by decide +kernel
theorem dX5_decidedAt_36 : decode cX5_decidedAt 36 = .ok (.lconst 0, 1) := by decide +kernel
theorem dX5_decidedAt_37 : decode cX5_decidedAt 37 = .ok (.lcmp, 1) := by decide +kernel
theorem dX5_decidedAt_38 : decode cX5_decidedAt 38 = .ok (.ifCond .eq 5, 3) := by decide +kernel
theorem dX5_decidedAt_41 : decode cX5_decidedAt 41 = .ok (.iconst 1, 1) := by decide +kernel
theorem dX5_decidedAt_42 : decode cX5_decidedAt 42 = .ok (.ireturn, 1) := by decide +kernel
theorem dX5_decidedAt_43 : decode cX5_decidedAt 43 = .ok (.aload_n 0, 1) := by decide +kernel
theorem dX5_decidedAt_44 : decode cX5_decidedAt 44 = .ok (.getfield 9, 3) := by decide +kernel
theorem dX5_decidedAt_47 : decode cX5_decidedAt 47 = .ok (.iload_n 1, 1) := by decide +kernel
theorem dX5_decidedAt_48 : decode cX5_decidedAt 48 = .ok (.laload, 1) := by decide +kernel
theorem dX5_decidedAt_49 : decode cX5_decidedAt 49 = .ok (.iload_n 2, 1) := by decide +kernel
theorem dX5_decidedAt_50 : decode cX5_decidedAt 50 = .ok (.lushr, 1) := by decide +kernel
theorem dX5_decidedAt_51 : decode cX5_decidedAt 51 = .ok (.lconst 1, 1) := by decide +kernel
theorem dX5_decidedAt_52 : decode cX5_decidedAt 52 = .ok (.land, 1) := by decide +kernel
theorem dX5_decidedAt_53 : decode cX5_decidedAt 53 = .ok (.lconst 0, 1) := by decide +kernel
theorem dX5_decidedAt_54 : decode cX5_decidedAt 54 = .ok (.lcmp, 1) := by decide +kernel
theorem dX5_decidedAt_55 : decode cX5_decidedAt 55 = .ok (.ifCond .eq 7, 3) := by decide +kernel
theorem dX5_decidedAt_58 : decode cX5_decidedAt 58 = .ok (.iconst 0, 1) := by decide +kernel
theorem dX5_decidedAt_59 : decode cX5_decidedAt 59 = .ok (.goto 4, 3) := by decide +kernel
theorem dX5_decidedAt_62 : decode cX5_decidedAt 62 = .ok (.iconst 2, 1) := by decide +kernel
theorem dX5_decidedAt_63 : decode cX5_decidedAt 63 = .ok (.ireturn, 1) := by decide +kernel
set_option maxRecDepth 20000 in
theorem ggX5_answerAt_X5_answersOf : GoodIn wsX5_answerAt wsX5_answersOf := goodIn_r _ [5, 6, 7, 8, 9, 10, 11, 12, 13, 14, 15, 16, 17, 18, 19, 20, 21] (by decide +kernel) (by decide +kernel)
set_option maxRecDepth 20000 in
theorem gX5_answerAt_X5_answersOf : GoodIn wsX5_answerAt (wsV RX5 112 RX5 yX5_answersOf wsX5_answersOf) := goodIn_app (goodIn_of _ (by decide +kernel)) ggX5_answerAt_X5_answersOf
theorem dX5_answerAt_0 : decode cX5_answerAt 0 = .ok (.aload_n 0, 1) := by decide +kernel
theorem dX5_answerAt_1 : decode cX5_answerAt 1 = .ok (.iload_n 1, 1) := by decide +kernel
theorem dX5_answerAt_2 : decode cX5_answerAt 2 = .ok (.invokevirtual 112, 3) := by decide +kernel
theorem dX5_answerAt_5 : decode cX5_answerAt 5 = .ok (.iload_n 2, 1) := by decide +kernel
theorem dX5_answerAt_6 : decode cX5_answerAt 6 = .ok (.lushr, 1) := by decide +kernel
theorem dX5_answerAt_7 : decode cX5_answerAt 7 = .ok (.lconst 1, 1) := by decide +kernel
theorem dX5_answerAt_8 : decode cX5_answerAt 8 = .ok (.land, 1) := by decide +kernel
theorem dX5_answerAt_9 : decode cX5_answerAt 9 = .ok (.lconst 0, 1) := by decide +kernel
theorem dX5_answerAt_10 : decode cX5_answerAt 10 = .ok (.lcmp, 1) := by decide +kernel
theorem dX5_answerAt_11 : decode cX5_answerAt 11 = .ok (.ifCond .eq 7, 3) := by decide +kernel
theorem dX5_answerAt_14 : decode cX5_answerAt 14 = .ok (.iconst 1, 1) := by decide +kernel
theorem dX5_answerAt_15 : decode cX5_answerAt 15 = .ok (.goto 4, 3) := by decide +kernel
theorem dX5_answerAt_18 : decode cX5_answerAt 18 = .ok (.iconst 0, 1) := by decide +kernel
theorem dX5_answerAt_19 : decode cX5_answerAt 19 = .ok (.ireturn, 1) := by decide +kernel
set_option maxRecDepth 20000 in
theorem ggX5_outputNumber_X6_isOutput : GoodIn wsX5_outputNumber wsX6_isOutput := goodIn_r _ [9] (by decide +kernel) (by decide +kernel)
set_option maxRecDepth 20000 in
theorem ggX5_outputNumber_J13_bitCount_95d88 : GoodIn wsX5_outputNumber wsJ13_bitCount_95d88 := goodIn_r _ [13, 14, 15, 16] (by decide +kernel) (by decide +kernel)
set_option maxRecDepth 20000 in
theorem gX5_outputNumber_J13_bitCount_95d88 : GoodIn wsX5_outputNumber (va_wsS RX5 63 yJ13_bitCount_95d88 wsJ13_bitCount_95d88) := goodIn_app (goodIn_of _ (by decide +kernel)) ggX5_outputNumber_J13_bitCount_95d88
set_option maxRecDepth 20000 in
theorem ggX5_outputNumber_X5_caresCounted : GoodIn wsX5_outputNumber wsX5_caresCounted := goodIn_r _ [21, 22, 23, 24, 20, 25, 6, 7, 8, 9, 26, 27, 28, 29, 30, 31, 32, 33, 34, 35, 36, 37, 42, 43, 44, 45, 46, 47, 48, 49, 50, 51, 52, 53] (by decide +kernel) (by decide +kernel)
set_option maxRecDepth 20000 in
theorem gX5_outputNumber_X5_caresCounted : GoodIn wsX5_outputNumber (wsV RX5 115 RX5 yX5_caresCounted wsX5_caresCounted) := goodIn_app (goodIn_of _ (by decide +kernel)) ggX5_outputNumber_X5_caresCounted
set_option maxRecDepth 20000 in
theorem ggX5_outputNumber_X5_caresOfAny : GoodIn wsX5_outputNumber wsX5_caresOfAny := goodIn_r _ [41, 22, 23, 24, 20, 25, 6, 7, 8, 9, 26, 27, 28, 29, 30, 42, 43, 44, 45, 46, 47, 48, 49, 50, 51, 52, 53] (by decide +kernel) (by decide +kernel)
set_option maxRecDepth 20000 in
theorem gX5_outputNumber_X5_caresOfAny : GoodIn wsX5_outputNumber (wsV RX5 118 RX5 yX5_caresOfAny wsX5_caresOfAny) := goodIn_app (goodIn_of _ (by decide +kernel)) ggX5_outputNumber_X5_caresOfAny
theorem dX5_outputNumber_0 : decode cX5_outputNumber 0 = .ok (.iload_n 1, 1) := by decide +kernel
theorem dX5_outputNumber_1 : decode cX5_outputNumber 1 = .ok (.invokestatic 85, 3) := by decide +kernel
theorem dX5_outputNumber_4 : decode cX5_outputNumber 4 = .ok (.ifCond .ne 5, 3) := by decide +kernel
theorem dX5_outputNumber_7 : decode cX5_outputNumber 7 = .ok (.iconst 0, 1) := by decide +kernel
theorem dX5_outputNumber_8 : decode cX5_outputNumber 8 = .ok (.ireturn, 1) := by decide +kernel
theorem dX5_outputNumber_9 : decode cX5_outputNumber 9 = .ok (.iload_n 2, 1) := by decide +kernel
theorem dX5_outputNumber_10 : decode cX5_outputNumber 10 = .ok (.tableswitch 109 2 7 #[38, 48, 79, 89, 96, 103], 38) := by decide +kernel
theorem dX5_outputNumber_48 : decode cX5_outputNumber 48 = .ok (.aload_n 0, 1) := by decide +kernel
theorem dX5_outputNumber_49 : decode cX5_outputNumber 49 = .ok (.getfield 15, 3) := by decide +kernel
theorem dX5_outputNumber_52 : decode cX5_outputNumber 52 = .ok (.iload_n 1, 1) := by decide +kernel
theorem dX5_outputNumber_53 : decode cX5_outputNumber 53 = .ok (.laload, 1) := by decide +kernel
theorem dX5_outputNumber_54 : decode cX5_outputNumber 54 = .ok (.invokestatic 63, 3) := by decide +kernel
theorem dX5_outputNumber_57 : decode cX5_outputNumber 57 = .ok (.ireturn, 1) := by decide +kernel
theorem dX5_outputNumber_58 : decode cX5_outputNumber 58 = .ok (.iconst 1, 1) := by decide +kernel
theorem dX5_outputNumber_59 : decode cX5_outputNumber 59 = .ok (.aload_n 0, 1) := by decide +kernel
theorem dX5_outputNumber_60 : decode cX5_outputNumber 60 = .ok (.getfield 40, 3) := by decide +kernel
theorem dX5_outputNumber_63 : decode cX5_outputNumber 63 = .ok (.ishl, 1) := by decide +kernel
theorem dX5_outputNumber_64 : decode cX5_outputNumber 64 = .ok (.aload_n 0, 1) := by decide +kernel
theorem dX5_outputNumber_65 : decode cX5_outputNumber 65 = .ok (.getfield 15, 3) := by decide +kernel
theorem dX5_outputNumber_68 : decode cX5_outputNumber 68 = .ok (.iload_n 1, 1) := by decide +kernel
theorem dX5_outputNumber_69 : decode cX5_outputNumber 69 = .ok (.laload, 1) := by decide +kernel
theorem dX5_outputNumber_70 : decode cX5_outputNumber 70 = .ok (.aload_n 0, 1) := by decide +kernel
theorem dX5_outputNumber_71 : decode cX5_outputNumber 71 = .ok (.getfield 9, 3) := by decide +kernel
theorem dX5_outputNumber_74 : decode cX5_outputNumber 74 = .ok (.iload_n 1, 1) := by decide +kernel
theorem dX5_outputNumber_75 : decode cX5_outputNumber 75 = .ok (.laload, 1) := by decide +kernel
theorem dX5_outputNumber_76 : decode cX5_outputNumber 76 = .ok (.lor, 1) := by decide +kernel
theorem dX5_outputNumber_77 : decode cX5_outputNumber 77 = .ok (.aload_n 0, 1) := by decide +kernel
theorem dX5_outputNumber_78 : decode cX5_outputNumber 78 = .ok (.getfield 18, 3) := by decide +kernel
theorem dX5_outputNumber_81 : decode cX5_outputNumber 81 = .ok (.iload_n 1, 1) := by decide +kernel
theorem dX5_outputNumber_82 : decode cX5_outputNumber 82 = .ok (.laload, 1) := by decide +kernel
theorem dX5_outputNumber_83 : decode cX5_outputNumber 83 = .ok (.lor, 1) := by decide +kernel
theorem dX5_outputNumber_84 : decode cX5_outputNumber 84 = .ok (.invokestatic 63, 3) := by decide +kernel
theorem dX5_outputNumber_87 : decode cX5_outputNumber 87 = .ok (.isub, 1) := by decide +kernel
theorem dX5_outputNumber_88 : decode cX5_outputNumber 88 = .ok (.ireturn, 1) := by decide +kernel
theorem dX5_outputNumber_89 : decode cX5_outputNumber 89 = .ok (.aload_n 0, 1) := by decide +kernel
theorem dX5_outputNumber_90 : decode cX5_outputNumber 90 = .ok (.getfield 18, 3) := by decide +kernel
theorem dX5_outputNumber_93 : decode cX5_outputNumber 93 = .ok (.iload_n 1, 1) := by decide +kernel
theorem dX5_outputNumber_94 : decode cX5_outputNumber 94 = .ok (.laload, 1) := by decide +kernel
theorem dX5_outputNumber_95 : decode cX5_outputNumber 95 = .ok (.invokestatic 63, 3) := by decide +kernel
theorem dX5_outputNumber_98 : decode cX5_outputNumber 98 = .ok (.ireturn, 1) := by decide +kernel
theorem dX5_outputNumber_99 : decode cX5_outputNumber 99 = .ok (.aload_n 0, 1) := by decide +kernel
theorem dX5_outputNumber_100 : decode cX5_outputNumber 100 = .ok (.getfield 24, 3) := by decide +kernel
theorem dX5_outputNumber_103 : decode cX5_outputNumber 103 = .ok (.iload_n 1, 1) := by decide +kernel
theorem dX5_outputNumber_104 : decode cX5_outputNumber 104 = .ok (.iaload, 1) := by decide +kernel
theorem dX5_outputNumber_105 : decode cX5_outputNumber 105 = .ok (.ireturn, 1) := by decide +kernel
theorem dX5_outputNumber_106 : decode cX5_outputNumber 106 = .ok (.aload_n 0, 1) := by decide +kernel
theorem dX5_outputNumber_107 : decode cX5_outputNumber 107 = .ok (.getfield 28, 3) := by decide +kernel
theorem dX5_outputNumber_110 : decode cX5_outputNumber 110 = .ok (.iload_n 1, 1) := by decide +kernel
theorem dX5_outputNumber_111 : decode cX5_outputNumber 111 = .ok (.iaload, 1) := by decide +kernel
theorem dX5_outputNumber_112 : decode cX5_outputNumber 112 = .ok (.ireturn, 1) := by decide +kernel
theorem dX5_outputNumber_113 : decode cX5_outputNumber 113 = .ok (.aload_n 0, 1) := by decide +kernel
theorem dX5_outputNumber_114 : decode cX5_outputNumber 114 = .ok (.iload_n 1, 1) := by decide +kernel
theorem dX5_outputNumber_115 : decode cX5_outputNumber 115 = .ok (.invokevirtual 115, 3) := by decide +kernel
theorem dX5_outputNumber_118 : decode cX5_outputNumber 118 = .ok (.ireturn, 1) := by decide +kernel
theorem dX5_outputNumber_119 : decode cX5_outputNumber 119 = .ok (.aload_n 0, 1) := by decide +kernel
theorem dX5_outputNumber_120 : decode cX5_outputNumber 120 = .ok (.iload_n 1, 1) := by decide +kernel
theorem dX5_outputNumber_121 : decode cX5_outputNumber 121 = .ok (.invokevirtual 118, 3) := by decide +kernel
theorem dX5_outputNumber_124 : decode cX5_outputNumber 124 = .ok (.ireturn, 1) := by decide +kernel
set_option maxRecDepth 20000 in
theorem ggX5_caresCounted_X5_sizeOf : GoodIn wsX5_caresCounted wsX5_sizeOf := goodIn_r _ [5, 6, 7, 8, 9, 22, 23, 24, 25, 26, 27, 28, 29, 30, 31, 32, 33] (by decide +kernel) (by decide +kernel)
set_option maxRecDepth 20000 in
theorem gX5_caresCounted_X5_sizeOf : GoodIn wsX5_caresCounted (wsV RX5 121 RX5 yX5_sizeOf wsX5_sizeOf) := goodIn_app (goodIn_of _ (by decide +kernel)) ggX5_caresCounted_X5_sizeOf
set_option maxRecDepth 20000 in
theorem ggX5_caresCounted_X5_codeAt : GoodIn wsX5_caresCounted wsX5_codeAt := goodIn_r _ [13, 6, 14, 7, 8, 9, 22, 23, 24, 25, 26, 27, 28, 29, 30, 31, 32, 33] (by decide +kernel) (by decide +kernel)
set_option maxRecDepth 20000 in
theorem gX5_caresCounted_X5_codeAt : GoodIn wsX5_caresCounted (wsV RX5 124 RX5 yX5_codeAt wsX5_codeAt) := goodIn_app (goodIn_of _ (by decide +kernel)) ggX5_caresCounted_X5_codeAt
set_option maxRecDepth 20000 in
theorem ggX5_caresCounted_J6_bitCount_0f7a4 : GoodIn wsX5_caresCounted wsJ6_bitCount_0f7a4 := goodIn_r _ [18, 19, 20, 21] (by decide +kernel) (by decide +kernel)
set_option maxRecDepth 20000 in
theorem gX5_caresCounted_J6_bitCount_0f7a4 : GoodIn wsX5_caresCounted (va_wsS RX5 108 yJ6_bitCount_0f7a4 wsJ6_bitCount_0f7a4) := goodIn_app (goodIn_of _ (by decide +kernel)) ggX5_caresCounted_J6_bitCount_0f7a4
theorem dX5_caresCounted_0 : decode cX5_caresCounted 0 = .ok (.iconst 0, 1) := by decide +kernel
theorem dX5_caresCounted_1 : decode cX5_caresCounted 1 = .ok (.istore_n 2, 1) := by decide +kernel
theorem dX5_caresCounted_2 : decode cX5_caresCounted 2 = .ok (.aload_n 0, 1) := by decide +kernel
theorem dX5_caresCounted_3 : decode cX5_caresCounted 3 = .ok (.iload_n 1, 1) := by decide +kernel
theorem dX5_caresCounted_4 : decode cX5_caresCounted 4 = .ok (.invokevirtual 121, 3) := by decide +kernel
theorem dX5_caresCounted_7 : decode cX5_caresCounted 7 = .ok (.istore_n 3, 1) := by decide +kernel
theorem dX5_caresCounted_8 : decode cX5_caresCounted 8 = .ok (.iconst 0, 1) := by decide +kernel
theorem dX5_caresCounted_9 : decode cX5_caresCounted 9 = .ok (.istore 4, 2) := by decide +kernel
theorem dX5_caresCounted_11 : decode cX5_caresCounted 11 = .ok (.iload 4, 2) := by decide +kernel
theorem dX5_caresCounted_13 : decode cX5_caresCounted 13 = .ok (.iload_n 3, 1) := by decide +kernel
theorem dX5_caresCounted_14 : decode cX5_caresCounted 14 = .ok (.if_icmp .ge 25, 3) := by decide +kernel
theorem dX5_caresCounted_17 : decode cX5_caresCounted 17 = .ok (.iload_n 2, 1) := by decide +kernel
theorem dX5_caresCounted_18 : decode cX5_caresCounted 18 = .ok (.aload_n 0, 1) := by decide +kernel
theorem dX5_caresCounted_19 : decode cX5_caresCounted 19 = .ok (.iload_n 1, 1) := by decide +kernel
theorem dX5_caresCounted_20 : decode cX5_caresCounted 20 = .ok (.iload 4, 2) := by decide +kernel
theorem dX5_caresCounted_22 : decode cX5_caresCounted 22 = .ok (.invokevirtual 124, 3) := by decide +kernel
theorem dX5_caresCounted_25 : decode cX5_caresCounted 25 = .ok (.bipush 64, 2) := by decide +kernel
theorem dX5_caresCounted_27 : decode cX5_caresCounted 27 = .ok (.idiv, 1) := by decide +kernel
theorem dX5_caresCounted_28 : decode cX5_caresCounted 28 = .ok (.invokestatic 108, 3) := by decide +kernel
theorem dX5_caresCounted_31 : decode cX5_caresCounted 31 = .ok (.iadd, 1) := by decide +kernel
theorem dX5_caresCounted_32 : decode cX5_caresCounted 32 = .ok (.istore_n 2, 1) := by decide +kernel
theorem dX5_caresCounted_33 : decode cX5_caresCounted 33 = .ok (.iinc 4 1, 3) := by decide +kernel
theorem dX5_caresCounted_36 : decode cX5_caresCounted 36 = .ok (.goto (-25), 3) := by decide +kernel
theorem dX5_caresCounted_39 : decode cX5_caresCounted 39 = .ok (.iload_n 2, 1) := by decide +kernel
theorem dX5_caresCounted_40 : decode cX5_caresCounted 40 = .ok (.ireturn, 1) := by decide +kernel
set_option maxRecDepth 20000 in
theorem ggX5_caresOfAny_X5_sizeOf : GoodIn wsX5_caresOfAny wsX5_sizeOf := goodIn_r _ [5, 6, 7, 8, 9, 15, 16, 17, 18, 19, 20, 21, 22, 23, 24, 25, 26] (by decide +kernel) (by decide +kernel)
set_option maxRecDepth 20000 in
theorem gX5_caresOfAny_X5_sizeOf : GoodIn wsX5_caresOfAny (wsV RX5 121 RX5 yX5_sizeOf wsX5_sizeOf) := goodIn_app (goodIn_of _ (by decide +kernel)) ggX5_caresOfAny_X5_sizeOf
set_option maxRecDepth 20000 in
theorem ggX5_caresOfAny_X5_codeAt : GoodIn wsX5_caresOfAny wsX5_codeAt := goodIn_r _ [13, 6, 14, 7, 8, 9, 15, 16, 17, 18, 19, 20, 21, 22, 23, 24, 25, 26] (by decide +kernel) (by decide +kernel)
set_option maxRecDepth 20000 in
theorem gX5_caresOfAny_X5_codeAt : GoodIn wsX5_caresOfAny (wsV RX5 124 RX5 yX5_codeAt wsX5_codeAt) := goodIn_app (goodIn_of _ (by decide +kernel)) ggX5_caresOfAny_X5_codeAt
theorem dX5_caresOfAny_0 : decode cX5_caresOfAny 0 = .ok (.iconst 0, 1) := by decide +kernel
theorem dX5_caresOfAny_1 : decode cX5_caresOfAny 1 = .ok (.istore_n 2, 1) := by decide +kernel
theorem dX5_caresOfAny_2 : decode cX5_caresOfAny 2 = .ok (.aload_n 0, 1) := by decide +kernel
theorem dX5_caresOfAny_3 : decode cX5_caresOfAny 3 = .ok (.iload_n 1, 1) := by decide +kernel
theorem dX5_caresOfAny_4 : decode cX5_caresOfAny 4 = .ok (.invokevirtual 121, 3) := by decide +kernel
theorem dX5_caresOfAny_7 : decode cX5_caresOfAny 7 = .ok (.istore_n 3, 1) := by decide +kernel
theorem dX5_caresOfAny_8 : decode cX5_caresOfAny 8 = .ok (.iconst 0, 1) := by decide +kernel
theorem dX5_caresOfAny_9 : decode cX5_caresOfAny 9 = .ok (.istore 4, 2) := by decide +kernel
theorem dX5_caresOfAny_11 : decode cX5_caresOfAny 11 = .ok (.iload 4, 2) := by decide +kernel
theorem dX5_caresOfAny_13 : decode cX5_caresOfAny 13 = .ok (.iload_n 3, 1) := by decide +kernel
theorem dX5_caresOfAny_14 : decode cX5_caresOfAny 14 = .ok (.if_icmp .ge 22, 3) := by decide +kernel
theorem dX5_caresOfAny_17 : decode cX5_caresOfAny 17 = .ok (.iload_n 2, 1) := by decide +kernel
theorem dX5_caresOfAny_18 : decode cX5_caresOfAny 18 = .ok (.aload_n 0, 1) := by decide +kernel
theorem dX5_caresOfAny_19 : decode cX5_caresOfAny 19 = .ok (.iload_n 1, 1) := by decide +kernel
theorem dX5_caresOfAny_20 : decode cX5_caresOfAny 20 = .ok (.iload 4, 2) := by decide +kernel
theorem dX5_caresOfAny_22 : decode cX5_caresOfAny 22 = .ok (.invokevirtual 124, 3) := by decide +kernel
theorem dX5_caresOfAny_25 : decode cX5_caresOfAny 25 = .ok (.bipush 64, 2) := by decide +kernel
theorem dX5_caresOfAny_27 : decode cX5_caresOfAny 27 = .ok (.idiv, 1) := by decide +kernel
theorem dX5_caresOfAny_28 : decode cX5_caresOfAny 28 = .ok (.ior, 1) := by decide +kernel
theorem dX5_caresOfAny_29 : decode cX5_caresOfAny 29 = .ok (.istore_n 2, 1) := by decide +kernel
theorem dX5_caresOfAny_30 : decode cX5_caresOfAny 30 = .ok (.iinc 4 1, 3) := by decide +kernel
theorem dX5_caresOfAny_33 : decode cX5_caresOfAny 33 = .ok (.goto (-22), 3) := by decide +kernel
theorem dX5_caresOfAny_36 : decode cX5_caresOfAny 36 = .ok (.iload_n 2, 1) := by decide +kernel
theorem dX5_caresOfAny_37 : decode cX5_caresOfAny 37 = .ok (.ireturn, 1) := by decide +kernel
set_option maxRecDepth 20000 in
theorem ggX5_productNumber_X5_codeAt : GoodIn wsX5_productNumber wsX5_codeAt := goodIn_r _ [6, 7, 8, 9, 10, 11, 42, 43, 44, 45, 46, 47, 48, 49, 50, 51, 52, 53] (by decide +kernel) (by decide +kernel)
set_option maxRecDepth 20000 in
theorem gX5_productNumber_X5_codeAt : GoodIn wsX5_productNumber (wsV RX5 124 RX5 yX5_codeAt wsX5_codeAt) := goodIn_app (goodIn_of _ (by decide +kernel)) ggX5_productNumber_X5_codeAt
set_option maxRecDepth 20000 in
theorem ggX5_productNumber_X2_inProduct : GoodIn wsX5_productNumber wsX2_inProduct := goodIn_r _ [15, 16, 17, 14, 18, 19, 20, 21, 22, 23] (by decide +kernel) (by decide +kernel)
set_option maxRecDepth 20000 in
theorem gX5_productNumber_X2_inProduct : GoodIn wsX5_productNumber (va_wsS RX5 128 yX2_inProduct wsX2_inProduct) := goodIn_app (goodIn_of _ (by decide +kernel)) ggX5_productNumber_X2_inProduct
set_option maxRecDepth 20000 in
theorem ggX5_productNumber_J13_bitCount_95d88 : GoodIn wsX5_productNumber wsJ13_bitCount_95d88 := goodIn_r _ [27, 28, 29, 30] (by decide +kernel) (by decide +kernel)
set_option maxRecDepth 20000 in
theorem gX5_productNumber_J13_bitCount_95d88 : GoodIn wsX5_productNumber (va_wsS RX5 63 yJ13_bitCount_95d88 wsJ13_bitCount_95d88) := goodIn_app (goodIn_of _ (by decide +kernel)) ggX5_productNumber_J13_bitCount_95d88
set_option maxRecDepth 20000 in
theorem ggX5_productNumber_X5_holdersOf : GoodIn wsX5_productNumber wsX5_holdersOf := goodIn_r _ [34, 7, 8, 42, 43, 44, 45, 46, 47, 48, 49, 50, 51, 52, 53] (by decide +kernel) (by decide +kernel)
set_option maxRecDepth 20000 in
theorem gX5_productNumber_X5_holdersOf : GoodIn wsX5_productNumber (wsV RX5 105 RX5 yX5_holdersOf wsX5_holdersOf) := goodIn_app (goodIn_of _ (by decide +kernel)) ggX5_productNumber_X5_holdersOf
set_option maxRecDepth 20000 in
theorem ggX5_productNumber_J6_bitCount_0f7a4 : GoodIn wsX5_productNumber wsJ6_bitCount_0f7a4 := goodIn_r _ [38, 39, 40, 41] (by decide +kernel) (by decide +kernel)
set_option maxRecDepth 20000 in
theorem gX5_productNumber_J6_bitCount_0f7a4 : GoodIn wsX5_productNumber (va_wsS RX5 108 yJ6_bitCount_0f7a4 wsJ6_bitCount_0f7a4) := goodIn_app (goodIn_of _ (by decide +kernel)) ggX5_productNumber_J6_bitCount_0f7a4
theorem dX5_productNumber_0 : decode cX5_productNumber 0 = .ok (.aload_n 0, 1) := by decide +kernel
theorem dX5_productNumber_1 : decode cX5_productNumber 1 = .ok (.iload_n 1, 1) := by decide +kernel
theorem dX5_productNumber_2 : decode cX5_productNumber 2 = .ok (.iload_n 2, 1) := by decide +kernel
theorem dX5_productNumber_3 : decode cX5_productNumber 3 = .ok (.invokevirtual 124, 3) := by decide +kernel
theorem dX5_productNumber_6 : decode cX5_productNumber 6 = .ok (.istore 4, 2) := by decide +kernel
theorem dX5_productNumber_8 : decode cX5_productNumber 8 = .ok (.iload 4, 2) := by decide +kernel
theorem dX5_productNumber_10 : decode cX5_productNumber 10 = .ok (.iconst (-1), 1) := by decide +kernel
theorem dX5_productNumber_11 : decode cX5_productNumber 11 = .ok (.if_icmp .ne 5, 3) := by decide +kernel
theorem dX5_productNumber_14 : decode cX5_productNumber 14 = .ok (.iconst (-1), 1) := by decide +kernel
theorem dX5_productNumber_15 : decode cX5_productNumber 15 = .ok (.ireturn, 1) := by decide +kernel
theorem dX5_productNumber_16 : decode cX5_productNumber 16 = .ok (.iload 4, 2) := by decide +kernel
theorem dX5_productNumber_18 : decode cX5_productNumber 18 = .ok (.bipush 64, 2) := by decide +kernel
theorem dX5_productNumber_20 : decode cX5_productNumber 20 = .ok (.idiv, 1) := by decide +kernel
theorem dX5_productNumber_21 : decode cX5_productNumber 21 = .ok (.istore 5, 2) := by decide +kernel
theorem dX5_productNumber_23 : decode cX5_productNumber 23 = .ok (.iload 4, 2) := by decide +kernel
theorem dX5_productNumber_25 : decode cX5_productNumber 25 = .ok (.bipush 64, 2) := by decide +kernel
theorem dX5_productNumber_27 : decode cX5_productNumber 27 = .ok (.irem, 1) := by decide +kernel
theorem dX5_productNumber_28 : decode cX5_productNumber 28 = .ok (.istore 6, 2) := by decide +kernel
theorem dX5_productNumber_30 : decode cX5_productNumber 30 = .ok (.iload_n 3, 1) := by decide +kernel
theorem dX5_productNumber_31 : decode cX5_productNumber 31 = .ok (.tableswitch 46 0 2 #[25, 28, 31], 25) := by decide +kernel
theorem dX5_productNumber_56 : decode cX5_productNumber 56 = .ok (.iload 5, 2) := by decide +kernel
theorem dX5_productNumber_58 : decode cX5_productNumber 58 = .ok (.ireturn, 1) := by decide +kernel
theorem dX5_productNumber_59 : decode cX5_productNumber 59 = .ok (.iload 6, 2) := by decide +kernel
theorem dX5_productNumber_61 : decode cX5_productNumber 61 = .ok (.ireturn, 1) := by decide +kernel
theorem dX5_productNumber_62 : decode cX5_productNumber 62 = .ok (.aload_n 0, 1) := by decide +kernel
theorem dX5_productNumber_63 : decode cX5_productNumber 63 = .ok (.getfield 40, 3) := by decide +kernel
theorem dX5_productNumber_66 : decode cX5_productNumber 66 = .ok (.iload 5, 2) := by decide +kernel
theorem dX5_productNumber_68 : decode cX5_productNumber 68 = .ok (.iload 6, 2) := by decide +kernel
theorem dX5_productNumber_70 : decode cX5_productNumber 70 = .ok (.invokestatic 128, 3) := by decide +kernel
theorem dX5_productNumber_73 : decode cX5_productNumber 73 = .ok (.invokestatic 63, 3) := by decide +kernel
theorem dX5_productNumber_76 : decode cX5_productNumber 76 = .ok (.ireturn, 1) := by decide +kernel
theorem dX5_productNumber_77 : decode cX5_productNumber 77 = .ok (.aload_n 0, 1) := by decide +kernel
theorem dX5_productNumber_78 : decode cX5_productNumber 78 = .ok (.iload 4, 2) := by decide +kernel
theorem dX5_productNumber_80 : decode cX5_productNumber 80 = .ok (.invokevirtual 105, 3) := by decide +kernel
theorem dX5_productNumber_83 : decode cX5_productNumber 83 = .ok (.invokestatic 108, 3) := by decide +kernel
theorem dX5_productNumber_86 : decode cX5_productNumber 86 = .ok (.ireturn, 1) := by decide +kernel
theorem dJ6_bitCount_0f7a4_0 : decode cJ6_bitCount_0f7a4 0 = .ok (.iload_n 0, 1) := by decide +kernel
theorem dJ6_bitCount_0f7a4_1 : decode cJ6_bitCount_0f7a4 1 = .ok (.iload_n 0, 1) := by decide +kernel
theorem dJ6_bitCount_0f7a4_2 : decode cJ6_bitCount_0f7a4 2 = .ok (.iconst 1, 1) := by decide +kernel
theorem dJ6_bitCount_0f7a4_3 : decode cJ6_bitCount_0f7a4 3 = .ok (.iushr, 1) := by decide +kernel
theorem dJ6_bitCount_0f7a4_4 : decode cJ6_bitCount_0f7a4 4 = .ok (.ldc_w 265, 3) := by decide +kernel
theorem dJ6_bitCount_0f7a4_7 : decode cJ6_bitCount_0f7a4 7 = .ok (.iand, 1) := by decide +kernel
theorem dJ6_bitCount_0f7a4_8 : decode cJ6_bitCount_0f7a4 8 = .ok (.isub, 1) := by decide +kernel
theorem dJ6_bitCount_0f7a4_9 : decode cJ6_bitCount_0f7a4 9 = .ok (.istore_n 0, 1) := by decide +kernel
theorem dJ6_bitCount_0f7a4_10 : decode cJ6_bitCount_0f7a4 10 = .ok (.iload_n 0, 1) := by decide +kernel
theorem dJ6_bitCount_0f7a4_11 : decode cJ6_bitCount_0f7a4 11 = .ok (.ldc_w 266, 3) := by decide +kernel
theorem dJ6_bitCount_0f7a4_14 : decode cJ6_bitCount_0f7a4 14 = .ok (.iand, 1) := by decide +kernel
theorem dJ6_bitCount_0f7a4_15 : decode cJ6_bitCount_0f7a4 15 = .ok (.iload_n 0, 1) := by decide +kernel
theorem dJ6_bitCount_0f7a4_16 : decode cJ6_bitCount_0f7a4 16 = .ok (.iconst 2, 1) := by decide +kernel
theorem dJ6_bitCount_0f7a4_17 : decode cJ6_bitCount_0f7a4 17 = .ok (.iushr, 1) := by decide +kernel
theorem dJ6_bitCount_0f7a4_18 : decode cJ6_bitCount_0f7a4 18 = .ok (.ldc_w 266, 3) := by decide +kernel
theorem dJ6_bitCount_0f7a4_21 : decode cJ6_bitCount_0f7a4 21 = .ok (.iand, 1) := by decide +kernel
theorem dJ6_bitCount_0f7a4_22 : decode cJ6_bitCount_0f7a4 22 = .ok (.iadd, 1) := by decide +kernel
theorem dJ6_bitCount_0f7a4_23 : decode cJ6_bitCount_0f7a4 23 = .ok (.istore_n 0, 1) := by decide +kernel
theorem dJ6_bitCount_0f7a4_24 : decode cJ6_bitCount_0f7a4 24 = .ok (.iload_n 0, 1) := by decide +kernel
theorem dJ6_bitCount_0f7a4_25 : decode cJ6_bitCount_0f7a4 25 = .ok (.iload_n 0, 1) := by decide +kernel
theorem dJ6_bitCount_0f7a4_26 : decode cJ6_bitCount_0f7a4 26 = .ok (.iconst 4, 1) := by decide +kernel
theorem dJ6_bitCount_0f7a4_27 : decode cJ6_bitCount_0f7a4 27 = .ok (.iushr, 1) := by decide +kernel
theorem dJ6_bitCount_0f7a4_28 : decode cJ6_bitCount_0f7a4 28 = .ok (.iadd, 1) := by decide +kernel
theorem dJ6_bitCount_0f7a4_29 : decode cJ6_bitCount_0f7a4 29 = .ok (.ldc_w 267, 3) := by decide +kernel
theorem dJ6_bitCount_0f7a4_32 : decode cJ6_bitCount_0f7a4 32 = .ok (.iand, 1) := by decide +kernel
theorem dJ6_bitCount_0f7a4_33 : decode cJ6_bitCount_0f7a4 33 = .ok (.istore_n 0, 1) := by decide +kernel
theorem dJ6_bitCount_0f7a4_34 : decode cJ6_bitCount_0f7a4 34 = .ok (.iload_n 0, 1) := by decide +kernel
theorem dJ6_bitCount_0f7a4_35 : decode cJ6_bitCount_0f7a4 35 = .ok (.iload_n 0, 1) := by decide +kernel
theorem dJ6_bitCount_0f7a4_36 : decode cJ6_bitCount_0f7a4 36 = .ok (.bipush 8, 2) := by decide +kernel
theorem dJ6_bitCount_0f7a4_38 : decode cJ6_bitCount_0f7a4 38 = .ok (.iushr, 1) := by decide +kernel
theorem dJ6_bitCount_0f7a4_39 : decode cJ6_bitCount_0f7a4 39 = .ok (.iadd, 1) := by decide +kernel
theorem dJ6_bitCount_0f7a4_40 : decode cJ6_bitCount_0f7a4 40 = .ok (.istore_n 0, 1) := by decide +kernel
theorem dJ6_bitCount_0f7a4_41 : decode cJ6_bitCount_0f7a4 41 = .ok (.iload_n 0, 1) := by decide +kernel
theorem dJ6_bitCount_0f7a4_42 : decode cJ6_bitCount_0f7a4 42 = .ok (.iload_n 0, 1) := by decide +kernel
theorem dJ6_bitCount_0f7a4_43 : decode cJ6_bitCount_0f7a4 43 = .ok (.bipush 16, 2) := by decide +kernel
theorem dJ6_bitCount_0f7a4_45 : decode cJ6_bitCount_0f7a4 45 = .ok (.iushr, 1) := by decide +kernel
theorem dJ6_bitCount_0f7a4_46 : decode cJ6_bitCount_0f7a4 46 = .ok (.iadd, 1) := by decide +kernel
theorem dJ6_bitCount_0f7a4_47 : decode cJ6_bitCount_0f7a4 47 = .ok (.istore_n 0, 1) := by decide +kernel
theorem dJ6_bitCount_0f7a4_48 : decode cJ6_bitCount_0f7a4 48 = .ok (.iload_n 0, 1) := by decide +kernel
theorem dJ6_bitCount_0f7a4_49 : decode cJ6_bitCount_0f7a4 49 = .ok (.bipush 63, 2) := by decide +kernel
theorem dJ6_bitCount_0f7a4_51 : decode cJ6_bitCount_0f7a4 51 = .ok (.iand, 1) := by decide +kernel
theorem dJ6_bitCount_0f7a4_52 : decode cJ6_bitCount_0f7a4 52 = .ok (.ireturn, 1) := by decide +kernel
theorem dJ13_bitCount_95d88_0 : decode cJ13_bitCount_95d88 0 = .ok (.lload_n 0, 1) := by decide +kernel
theorem dJ13_bitCount_95d88_1 : decode cJ13_bitCount_95d88 1 = .ok (.lload_n 0, 1) := by decide +kernel
theorem dJ13_bitCount_95d88_2 : decode cJ13_bitCount_95d88 2 = .ok (.iconst 1, 1) := by decide +kernel
theorem dJ13_bitCount_95d88_3 : decode cJ13_bitCount_95d88 3 = .ok (.lushr, 1) := by decide +kernel
theorem dJ13_bitCount_95d88_4 : decode cJ13_bitCount_95d88 4 = .ok (.ldc2_w 314, 3) := by decide +kernel
theorem dJ13_bitCount_95d88_7 : decode cJ13_bitCount_95d88 7 = .ok (.land, 1) := by decide +kernel
theorem dJ13_bitCount_95d88_8 : decode cJ13_bitCount_95d88 8 = .ok (.lsub, 1) := by decide +kernel
theorem dJ13_bitCount_95d88_9 : decode cJ13_bitCount_95d88 9 = .ok (.lstore_n 0, 1) := by decide +kernel
theorem dJ13_bitCount_95d88_10 : decode cJ13_bitCount_95d88 10 = .ok (.lload_n 0, 1) := by decide +kernel
theorem dJ13_bitCount_95d88_11 : decode cJ13_bitCount_95d88 11 = .ok (.ldc2_w 316, 3) := by decide +kernel
theorem dJ13_bitCount_95d88_14 : decode cJ13_bitCount_95d88 14 = .ok (.land, 1) := by decide +kernel
theorem dJ13_bitCount_95d88_15 : decode cJ13_bitCount_95d88 15 = .ok (.lload_n 0, 1) := by decide +kernel
theorem dJ13_bitCount_95d88_16 : decode cJ13_bitCount_95d88 16 = .ok (.iconst 2, 1) := by decide +kernel
theorem dJ13_bitCount_95d88_17 : decode cJ13_bitCount_95d88 17 = .ok (.lushr, 1) := by decide +kernel
theorem dJ13_bitCount_95d88_18 : decode cJ13_bitCount_95d88 18 = .ok (.ldc2_w 316, 3) := by decide +kernel
theorem dJ13_bitCount_95d88_21 : decode cJ13_bitCount_95d88 21 = .ok (.land, 1) := by decide +kernel
theorem dJ13_bitCount_95d88_22 : decode cJ13_bitCount_95d88 22 = .ok (.ladd, 1) := by decide +kernel
theorem dJ13_bitCount_95d88_23 : decode cJ13_bitCount_95d88 23 = .ok (.lstore_n 0, 1) := by decide +kernel
theorem dJ13_bitCount_95d88_24 : decode cJ13_bitCount_95d88 24 = .ok (.lload_n 0, 1) := by decide +kernel
theorem dJ13_bitCount_95d88_25 : decode cJ13_bitCount_95d88 25 = .ok (.lload_n 0, 1) := by decide +kernel
theorem dJ13_bitCount_95d88_26 : decode cJ13_bitCount_95d88 26 = .ok (.iconst 4, 1) := by decide +kernel
theorem dJ13_bitCount_95d88_27 : decode cJ13_bitCount_95d88 27 = .ok (.lushr, 1) := by decide +kernel
theorem dJ13_bitCount_95d88_28 : decode cJ13_bitCount_95d88 28 = .ok (.ladd, 1) := by decide +kernel
theorem dJ13_bitCount_95d88_29 : decode cJ13_bitCount_95d88 29 = .ok (.ldc2_w 318, 3) := by decide +kernel
theorem dJ13_bitCount_95d88_32 : decode cJ13_bitCount_95d88 32 = .ok (.land, 1) := by decide +kernel
theorem dJ13_bitCount_95d88_33 : decode cJ13_bitCount_95d88 33 = .ok (.lstore_n 0, 1) := by decide +kernel
theorem dJ13_bitCount_95d88_34 : decode cJ13_bitCount_95d88 34 = .ok (.lload_n 0, 1) := by decide +kernel
theorem dJ13_bitCount_95d88_35 : decode cJ13_bitCount_95d88 35 = .ok (.lload_n 0, 1) := by decide +kernel
theorem dJ13_bitCount_95d88_36 : decode cJ13_bitCount_95d88 36 = .ok (.bipush 8, 2) := by decide +kernel
theorem dJ13_bitCount_95d88_38 : decode cJ13_bitCount_95d88 38 = .ok (.lushr, 1) := by decide +kernel
theorem dJ13_bitCount_95d88_39 : decode cJ13_bitCount_95d88 39 = .ok (.ladd, 1) := by decide +kernel
theorem dJ13_bitCount_95d88_40 : decode cJ13_bitCount_95d88 40 = .ok (.lstore_n 0, 1) := by decide +kernel
theorem dJ13_bitCount_95d88_41 : decode cJ13_bitCount_95d88 41 = .ok (.lload_n 0, 1) := by decide +kernel
theorem dJ13_bitCount_95d88_42 : decode cJ13_bitCount_95d88 42 = .ok (.lload_n 0, 1) := by decide +kernel
theorem dJ13_bitCount_95d88_43 : decode cJ13_bitCount_95d88 43 = .ok (.bipush 16, 2) := by decide +kernel
theorem dJ13_bitCount_95d88_45 : decode cJ13_bitCount_95d88 45 = .ok (.lushr, 1) := by decide +kernel
theorem dJ13_bitCount_95d88_46 : decode cJ13_bitCount_95d88 46 = .ok (.ladd, 1) := by decide +kernel
theorem dJ13_bitCount_95d88_47 : decode cJ13_bitCount_95d88 47 = .ok (.lstore_n 0, 1) := by decide +kernel
theorem dJ13_bitCount_95d88_48 : decode cJ13_bitCount_95d88 48 = .ok (.lload_n 0, 1) := by decide +kernel
theorem dJ13_bitCount_95d88_49 : decode cJ13_bitCount_95d88 49 = .ok (.lload_n 0, 1) := by decide +kernel
theorem dJ13_bitCount_95d88_50 : decode cJ13_bitCount_95d88 50 = .ok (.bipush 32, 2) := by decide +kernel
theorem dJ13_bitCount_95d88_52 : decode cJ13_bitCount_95d88 52 = .ok (.lushr, 1) := by decide +kernel
theorem dJ13_bitCount_95d88_53 : decode cJ13_bitCount_95d88 53 = .ok (.ladd, 1) := by decide +kernel
theorem dJ13_bitCount_95d88_54 : decode cJ13_bitCount_95d88 54 = .ok (.lstore_n 0, 1) := by decide +kernel
theorem dJ13_bitCount_95d88_55 : decode cJ13_bitCount_95d88 55 = .ok (.lload_n 0, 1) := by decide +kernel
theorem dJ13_bitCount_95d88_56 : decode cJ13_bitCount_95d88 56 = .ok (.l2i, 1) := by decide +kernel
theorem dJ13_bitCount_95d88_57 : decode cJ13_bitCount_95d88 57 = .ok (.bipush 127, 2) := by decide +kernel
theorem dJ13_bitCount_95d88_59 : decode cJ13_bitCount_95d88 59 = .ok (.iand, 1) := by decide +kernel
theorem dJ13_bitCount_95d88_60 : decode cJ13_bitCount_95d88 60 = .ok (.ireturn, 1) := by decide +kernel
abbrev vwCl : List vw_C := [(RX0, TX0, 2), (RX1, TX1, 4), (RX3, TX3, 8), (RX4, TX4, 2), (RX5, TX5, 12), (RX6, TX6, 7)]
