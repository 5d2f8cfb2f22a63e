/-! ===== BEGIN printed: names, fields, word lists, decode rows ===== -/
def RX0 : String := "BoardNotation$Board"
def TX0 : u_T := fun k => match k with
  | 0 => ("BoardNotation$Board", "kinds", "LBoardNotation$Kinds;", true)
  | _ => ("BoardNotation$Board", "pieces", "[I", true)
def tyX0 : Nat → FieldType := fun k => match k with
  | 0 => .object "BoardNotation$Kinds"
  | _ => .array .int
abbrev wsX00 : List Cond := u_ws RX0 TX0 2
theorem nmX0 : ∀ a, a < 2 → ∀ b, b < 2 → a ≠ b → (TX0 a).2.1 ≠ (TX0 b).2.1 := by decide +kernel
theorem tyX0_ok : ∀ k, k < 2 → parseFieldDescriptor (TX0 k).2.2.1 = some (tyX0 k) := by decide +kernel
abbrev cX0_init : ByteArray := prog_2_method_1_code
def yX0_init : MethodName := ⟨RX0, "<init>", "(LBoardNotation$Kinds;)V"⟩
abbrev cX0_pieceOn : ByteArray := prog_2_method_2_code
def yX0_pieceOn : MethodName := ⟨RX0, "pieceOn", "(I)I"⟩
abbrev cX0_isTaken : ByteArray := prog_2_method_3_code
def yX0_isTaken : MethodName := ⟨RX0, "isTaken", "(I)Z"⟩
abbrev cX0_isOf : ByteArray := prog_2_method_4_code
def yX0_isOf : MethodName := ⟨RX0, "isOf", "(II)Z"⟩
abbrev cX0_replace : ByteArray := prog_2_method_5_code
def yX0_replace : MethodName := ⟨RX0, "replace", "(II)I"⟩
abbrev cX0_move : ByteArray := prog_2_method_6_code
def yX0_move : MethodName := ⟨RX0, "move", "(II)I"⟩
abbrev cX0_takeBack : ByteArray := prog_2_method_7_code
def yX0_takeBack : MethodName := ⟨RX0, "takeBack", "(III)V"⟩
abbrev cX0_reaches : ByteArray := prog_2_method_8_code
def yX0_reaches : MethodName := ⟨RX0, "reaches", "(II)Z"⟩
abbrev cX0_reachedFrom : ByteArray := prog_2_method_9_code
def yX0_reachedFrom : MethodName := ⟨RX0, "reachedFrom", "(I)J"⟩
abbrev cX0_royalsOf : ByteArray := prog_2_method_10_code
def yX0_royalsOf : MethodName := ⟨RX0, "royalsOf", "(I)J"⟩
abbrev cX0_inCheck : ByteArray := prog_2_method_11_code
def yX0_inCheck : MethodName := ⟨RX0, "inCheck", "(I)Z"⟩
abbrev cX0_keepsRoyalsSafe : ByteArray := prog_2_method_12_code
def yX0_keepsRoyalsSafe : MethodName := ⟨RX0, "keepsRoyalsSafe", "(II)Z"⟩
abbrev cX0_countLegalMoves : ByteArray := prog_2_method_13_code
def yX0_countLegalMoves : MethodName := ⟨RX0, "countLegalMoves", "(II)I"⟩
abbrev cX0_signBehind : ByteArray := prog_2_method_14_code
def yX0_signBehind : MethodName := ⟨RX0, "signBehind", "(II)I"⟩
def RX1 : String := "BoardNotation$Kinds"
def TX1 : u_T := fun k => match k with
  | 0 => ("BoardNotation$Kinds", "letters", "[I", true)
  | 1 => ("BoardNotation$Kinds", "stepCounts", "[I", true)
  | 2 => ("BoardNotation$Kinds", "stepX", "[I", true)
  | 3 => ("BoardNotation$Kinds", "stepY", "[I", true)
  | 4 => ("BoardNotation$Kinds", "stepReach", "[I", true)
  | _ => ("BoardNotation$Kinds", "size", "I", false)
def tyX1 : Nat → FieldType := fun k => match k with
  | 0 => .array .int
  | 1 => .array .int
  | 2 => .array .int
  | 3 => .array .int
  | 4 => .array .int
  | _ => .int
abbrev wsX10 : List Cond := u_ws RX1 TX1 6
theorem nmX1 : ∀ a, a < 6 → ∀ b, b < 6 → a ≠ b → (TX1 a).2.1 ≠ (TX1 b).2.1 := by decide +kernel
theorem tyX1_ok : ∀ k, k < 6 → parseFieldDescriptor (TX1 k).2.2.1 = some (tyX1 k) := by decide +kernel
abbrev cX1_init : ByteArray := prog_3_method_1_code
def yX1_init : MethodName := ⟨RX1, "<init>", "()V"⟩
abbrev cX1_size : ByteArray := prog_3_method_2_code
def yX1_size : MethodName := ⟨RX1, "size", "()I"⟩
abbrev cX1_has : ByteArray := prog_3_method_3_code
def yX1_has : MethodName := ⟨RX1, "has", "(I)Z"⟩
abbrev cX1_letter : ByteArray := prog_3_method_4_code
def yX1_letter : MethodName := ⟨RX1, "letter", "(I)I"⟩
abbrev cX1_stepCount : ByteArray := prog_3_method_5_code
def yX1_stepCount : MethodName := ⟨RX1, "stepCount", "(I)I"⟩
abbrev cX1_withLetter : ByteArray := prog_3_method_6_code
def yX1_withLetter : MethodName := ⟨RX1, "withLetter", "(I)I"⟩
abbrev cX1_include : ByteArray := prog_3_method_7_code
def yX1_include : MethodName := ⟨RX1, "include", "(I)I"⟩
abbrev cX1_includeStep : ByteArray := prog_3_method_8_code
def yX1_includeStep : MethodName := ⟨RX1, "includeStep", "(IIII)I"⟩
def RX2 : String := "BoardNotation$ShortForm"
def TX2 : u_T := fun k => match k with
  | 0 => ("BoardNotation$ShortForm", "misfit", "I", false)
  | 1 => ("BoardNotation$ShortForm", "letter", "I", false)
  | 2 => ("BoardNotation$ShortForm", "fromFile", "I", false)
  | 3 => ("BoardNotation$ShortForm", "fromRank", "I", false)
  | 4 => ("BoardNotation$ShortForm", "toFile", "I", false)
  | 5 => ("BoardNotation$ShortForm", "toRank", "I", false)
  | 6 => ("BoardNotation$ShortForm", "sign", "I", false)
  | _ => ("BoardNotation$ShortForm", "captures", "Z", false)
def tyX2 : Nat → FieldType := fun k => match k with
  | 0 => .int
  | 1 => .int
  | 2 => .int
  | 3 => .int
  | 4 => .int
  | 5 => .int
  | 6 => .int
  | _ => .boolean
abbrev wsX20 : List Cond := u_ws RX2 TX2 8
theorem nmX2 : ∀ a, a < 8 → ∀ b, b < 8 → a ≠ b → (TX2 a).2.1 ≠ (TX2 b).2.1 := by decide +kernel
theorem tyX2_ok : ∀ k, k < 8 → parseFieldDescriptor (TX2 k).2.2.1 = some (tyX2 k) := by decide +kernel
abbrev cX2_init : ByteArray := prog_4_method_1_code
def yX2_init : MethodName := ⟨RX2, "<init>", "()V"⟩
abbrev cX2_misfit : ByteArray := prog_4_method_2_code
def yX2_misfit : MethodName := ⟨RX2, "misfit", "()I"⟩
abbrev cX2_letter : ByteArray := prog_4_method_3_code
def yX2_letter : MethodName := ⟨RX2, "letter", "()I"⟩
abbrev cX2_to : ByteArray := prog_4_method_4_code
def yX2_to : MethodName := ⟨RX2, "to", "()I"⟩
abbrev cX2_sign : ByteArray := prog_4_method_5_code
def yX2_sign : MethodName := ⟨RX2, "sign", "()I"⟩
abbrev cX2_captures : ByteArray := prog_4_method_6_code
def yX2_captures : MethodName := ⟨RX2, "captures", "()Z"⟩
abbrev cX2_allowsFrom : ByteArray := prog_4_method_7_code
def yX2_allowsFrom : MethodName := ⟨RX2, "allowsFrom", "(I)Z"⟩
abbrev cX2_fits : ByteArray := prog_4_method_8_code
def yX2_fits : MethodName := ⟨RX2, "fits", "(LBoardNotation$Text;II)Z"⟩
abbrev cX2_forget : ByteArray := prog_4_method_9_code
def yX2_forget : MethodName := ⟨RX2, "forget", "()V"⟩
abbrev cX2_keep : ByteArray := prog_4_method_10_code
def yX2_keep : MethodName := ⟨RX2, "keep", "(I)V"⟩
abbrev cX2_stateBehind : ByteArray := prog_4_method_11_code
def yX2_stateBehind : MethodName := ⟨RX2, "stateBehind", "(II)I"⟩
abbrev cX2_stateBehindOrigin : ByteArray := prog_4_method_12_code
def yX2_stateBehindOrigin : MethodName := ⟨RX2, "stateBehindOrigin", "(I)I"⟩
abbrev cX2_isFile : ByteArray := prog_4_method_13_code
def yX2_isFile : MethodName := ⟨RX2, "isFile", "(I)Z"⟩
abbrev cX2_isRank : ByteArray := prog_4_method_14_code
def yX2_isRank : MethodName := ⟨RX2, "isRank", "(I)Z"⟩
abbrev cX2_isSign : ByteArray := prog_4_method_15_code
def yX2_isSign : MethodName := ⟨RX2, "isSign", "(I)Z"⟩
def RX3 : String := "BoardNotation$Text"
def TX3 : u_T := fun k => match k with
  | 0 => ("BoardNotation$Text", "bytes", "[I", true)
  | 1 => ("BoardNotation$Text", "size", "I", false)
  | _ => ("BoardNotation$Text", "spilled", "Z", false)
def tyX3 : Nat → FieldType := fun k => match k with
  | 0 => .array .int
  | 1 => .int
  | _ => .boolean
abbrev wsX30 : List Cond := u_ws RX3 TX3 3
theorem nmX3 : ∀ a, a < 3 → ∀ b, b < 3 → a ≠ b → (TX3 a).2.1 ≠ (TX3 b).2.1 := by decide +kernel
theorem tyX3_ok : ∀ k, k < 3 → parseFieldDescriptor (TX3 k).2.2.1 = some (tyX3 k) := by decide +kernel
abbrev cX3_init : ByteArray := prog_5_method_1_code
def yX3_init : MethodName := ⟨RX3, "<init>", "()V"⟩
abbrev cX3_size : ByteArray := prog_5_method_2_code
def yX3_size : MethodName := ⟨RX3, "size", "()I"⟩
abbrev cX3_hasSpilled : ByteArray := prog_5_method_3_code
def yX3_hasSpilled : MethodName := ⟨RX3, "hasSpilled", "()Z"⟩
abbrev cX3_get : ByteArray := prog_5_method_4_code
def yX3_get : MethodName := ⟨RX3, "get", "(I)I"⟩
abbrev cX3_wipe : ByteArray := prog_5_method_5_code
def yX3_wipe : MethodName := ⟨RX3, "wipe", "()V"⟩
abbrev cX3_append : ByteArray := prog_5_method_6_code
def yX3_append : MethodName := ⟨RX3, "append", "(I)V"⟩
abbrev cX3_separate : ByteArray := prog_5_method_7_code
def yX3_separate : MethodName := ⟨RX3, "separate", "()V"⟩
abbrev cX3_isOfWord : ByteArray := prog_5_method_8_code
def yX3_isOfWord : MethodName := ⟨RX3, "isOfWord", "(I)Z"⟩
abbrev cX3_isWordStart : ByteArray := prog_5_method_9_code
def yX3_isWordStart : MethodName := ⟨RX3, "isWordStart", "(I)Z"⟩
abbrev cX3_wordEnd : ByteArray := prog_5_method_10_code
def yX3_wordEnd : MethodName := ⟨RX3, "wordEnd", "(I)I"⟩
def RX4 : String := "BoardNotation$Tree"
def TX4 : u_T := fun k => match k with
  | 0 => ("BoardNotation$Tree", "above", "[I", true)
  | 1 => ("BoardNotation$Tree", "from", "[I", true)
  | 2 => ("BoardNotation$Tree", "to", "[I", true)
  | 3 => ("BoardNotation$Tree", "taken", "[I", true)
  | 4 => ("BoardNotation$Tree", "depth", "[I", true)
  | 5 => ("BoardNotation$Tree", "childCount", "[I", true)
  | 6 => ("BoardNotation$Tree", "firstChild", "[I", true)
  | 7 => ("BoardNotation$Tree", "nextBeside", "[I", true)
  | _ => ("BoardNotation$Tree", "size", "I", false)
def tyX4 : Nat → FieldType := fun k => match k with
  | 0 => .array .int
  | 1 => .array .int
  | 2 => .array .int
  | 3 => .array .int
  | 4 => .array .int
  | 5 => .array .int
  | 6 => .array .int
  | 7 => .array .int
  | _ => .int
abbrev wsX40 : List Cond := u_ws RX4 TX4 9
theorem nmX4 : ∀ a, a < 9 → ∀ b, b < 9 → a ≠ b → (TX4 a).2.1 ≠ (TX4 b).2.1 := by decide +kernel
theorem tyX4_ok : ∀ k, k < 9 → parseFieldDescriptor (TX4 k).2.2.1 = some (tyX4 k) := by decide +kernel
abbrev cX4_init : ByteArray := prog_6_method_1_code
def yX4_init : MethodName := ⟨RX4, "<init>", "()V"⟩
abbrev cX4_occupy : ByteArray := prog_6_method_2_code
def yX4_occupy : MethodName := ⟨RX4, "occupy", "(IIII)I"⟩
abbrev cX4_size : ByteArray := prog_6_method_3_code
def yX4_size : MethodName := ⟨RX4, "size", "()I"⟩
abbrev cX4_has : ByteArray := prog_6_method_4_code
def yX4_has : MethodName := ⟨RX4, "has", "(I)Z"⟩
abbrev cX4_above : ByteArray := prog_6_method_5_code
def yX4_above : MethodName := ⟨RX4, "above", "(I)I"⟩
abbrev cX4_from : ByteArray := prog_6_method_6_code
def yX4_from : MethodName := ⟨RX4, "from", "(I)I"⟩
abbrev cX4_to : ByteArray := prog_6_method_7_code
def yX4_to : MethodName := ⟨RX4, "to", "(I)I"⟩
abbrev cX4_taken : ByteArray := prog_6_method_8_code
def yX4_taken : MethodName := ⟨RX4, "taken", "(I)I"⟩
abbrev cX4_depth : ByteArray := prog_6_method_9_code
def yX4_depth : MethodName := ⟨RX4, "depth", "(I)I"⟩
abbrev cX4_childCount : ByteArray := prog_6_method_10_code
def yX4_childCount : MethodName := ⟨RX4, "childCount", "(I)I"⟩
abbrev cX4_keepTaken : ByteArray := prog_6_method_11_code
def yX4_keepTaken : MethodName := ⟨RX4, "keepTaken", "(II)V"⟩
abbrev cX4_fact : ByteArray := prog_6_method_12_code
def yX4_fact : MethodName := ⟨RX4, "fact", "(II)I"⟩
abbrev cX4_child : ByteArray := prog_6_method_13_code
def yX4_child : MethodName := ⟨RX4, "child", "(II)I"⟩
abbrev cX4_childOfMove : ByteArray := prog_6_method_14_code
def yX4_childOfMove : MethodName := ⟨RX4, "childOfMove", "(III)I"⟩
abbrev cX4_grow : ByteArray := prog_6_method_15_code
def yX4_grow : MethodName := ⟨RX4, "grow", "(III)I"⟩
abbrev cX4_placeOf : ByteArray := prog_6_method_16_code
def yX4_placeOf : MethodName := ⟨RX4, "placeOf", "(I)I"⟩
abbrev cX4_makeMain : ByteArray := prog_6_method_17_code
def yX4_makeMain : MethodName := ⟨RX4, "makeMain", "(I)I"⟩
abbrev cX4_cutToRoot : ByteArray := prog_6_method_18_code
def yX4_cutToRoot : MethodName := ⟨RX4, "cutToRoot", "()V"⟩
def RX5 : String := "BoardNotation"
def TX5 : u_T := fun k => match k with
  | 0 => ("BoardNotation", "kinds", "LBoardNotation$Kinds;", true)
  | 1 => ("BoardNotation", "board", "LBoardNotation$Board;", true)
  | 2 => ("BoardNotation", "tree", "LBoardNotation$Tree;", true)
  | 3 => ("BoardNotation", "form", "LBoardNotation$ShortForm;", true)
  | 4 => ("BoardNotation", "path", "[I", true)
  | 5 => ("BoardNotation", "bracketNodes", "[I", true)
  | 6 => ("BoardNotation", "tape", "LBoardNotation$Text;", false)
  | 7 => ("BoardNotation", "draft", "LBoardNotation$Text;", false)
  | 8 => ("BoardNotation", "present", "I", false)
  | 9 => ("BoardNotation", "openBrackets", "I", false)
  | 10 => ("BoardNotation", "moveIsDue", "Z", false)
  | 11 => ("BoardNotation", "judgedFrom", "I", false)
  | 12 => ("BoardNotation", "judgedTo", "I", false)
  | 13 => ("BoardNotation", "errorPlace", "I", false)
  | 14 => ("BoardNotation", "foundFrom", "I", false)
  | _ => ("BoardNotation", "foundTo", "I", false)
def tyX5 : Nat → FieldType := fun k => match k with
  | 0 => .object "BoardNotation$Kinds"
  | 1 => .object "BoardNotation$Board"
  | 2 => .object "BoardNotation$Tree"
  | 3 => .object "BoardNotation$ShortForm"
  | 4 => .array .int
  | 5 => .array .int
  | 6 => .object "BoardNotation$Text"
  | 7 => .object "BoardNotation$Text"
  | 8 => .int
  | 9 => .int
  | 10 => .boolean
  | 11 => .int
  | 12 => .int
  | 13 => .int
  | 14 => .int
  | _ => .int
abbrev wsX50 : List Cond := u_ws RX5 TX5 16
theorem nmX5 : ∀ a, a < 16 → ∀ b, b < 16 → a ≠ b → (TX5 a).2.1 ≠ (TX5 b).2.1 := by decide +kernel
theorem tyX5_ok : ∀ k, k < 16 → parseFieldDescriptor (TX5 k).2.2.1 = some (tyX5 k) := by decide +kernel
abbrev cX5_init : ByteArray := prog_1_method_1_code
def yX5_init : MethodName := ⟨RX5, "<init>", "()V"⟩
abbrev cX5_addKind : ByteArray := prog_1_method_2_code
def yX5_addKind : MethodName := ⟨RX5, "addKind", "(I)I"⟩
abbrev cX5_addStep : ByteArray := prog_1_method_3_code
def yX5_addStep : MethodName := ⟨RX5, "addStep", "(IIII)I"⟩
abbrev cX5_put : ByteArray := prog_1_method_4_code
def yX5_put : MethodName := ⟨RX5, "put", "(III)I"⟩
abbrev cX5_at : ByteArray := prog_1_method_5_code
def yX5_at : MethodName := ⟨RX5, "at", "(I)I"⟩
abbrev cX5_state : ByteArray := prog_1_method_6_code
def yX5_state : MethodName := ⟨RX5, "state", "(I)I"⟩
abbrev cX5_reason : ByteArray := prog_1_method_7_code
def yX5_reason : MethodName := ⟨RX5, "reason", "(II)I"⟩
abbrev cX5_play : ByteArray := prog_1_method_8_code
def yX5_play : MethodName := ⟨RX5, "play", "(II)I"⟩
abbrev cX5_feed : ByteArray := prog_1_method_9_code
def yX5_feed : MethodName := ⟨RX5, "feed", "(IIII)I"⟩
abbrev cX5_empty : ByteArray := prog_1_method_10_code
def yX5_empty : MethodName := ⟨RX5, "empty", "()I"⟩
abbrev cX5_read : ByteArray := prog_1_method_11_code
def yX5_read : MethodName := ⟨RX5, "read", "()I"⟩
abbrev cX5_found : ByteArray := prog_1_method_12_code
def yX5_found : MethodName := ⟨RX5, "found", "(I)I"⟩
abbrev cX5_write : ByteArray := prog_1_method_13_code
def yX5_write : MethodName := ⟨RX5, "write", "(II)I"⟩
abbrev cX5_byteAt : ByteArray := prog_1_method_14_code
def yX5_byteAt : MethodName := ⟨RX5, "byteAt", "(I)I"⟩
abbrev cX5_node : ByteArray := prog_1_method_15_code
def yX5_node : MethodName := ⟨RX5, "node", "(II)I"⟩
abbrev cX5_continuation : ByteArray := prog_1_method_16_code
def yX5_continuation : MethodName := ⟨RX5, "continuation", "(II)I"⟩
abbrev cX5_goTo : ByteArray := prog_1_method_17_code
def yX5_goTo : MethodName := ⟨RX5, "goTo", "(I)I"⟩
abbrev cX5_promote : ByteArray := prog_1_method_18_code
def yX5_promote : MethodName := ⟨RX5, "promote", "(I)I"⟩
abbrev cX5_writeGame : ByteArray := prog_1_method_19_code
def yX5_writeGame : MethodName := ⟨RX5, "writeGame", "()I"⟩
abbrev cX5_readGame : ByteArray := prog_1_method_20_code
def yX5_readGame : MethodName := ⟨RX5, "readGame", "()I"⟩
abbrev cX5_clear : ByteArray := prog_1_method_21_code
def yX5_clear : MethodName := ⟨RX5, "clear", "()I"⟩
abbrev cX5_branching : ByteArray := prog_1_method_22_code
def yX5_branching : MethodName := ⟨RX5, "branching", "()D"⟩
abbrev cX5_digest : ByteArray := prog_1_method_23_code
def yX5_digest : MethodName := ⟨RX5, "digest", "()J"⟩
abbrev cX5_isSquare : ByteArray := prog_1_method_24_code
def yX5_isSquare : MethodName := ⟨RX5, "isSquare", "(I)Z"⟩
abbrev cX5_isStep : ByteArray := prog_1_method_25_code
def yX5_isStep : MethodName := ⟨RX5, "isStep", "(II)Z"⟩
abbrev cX5_isByteOrNothing : ByteArray := prog_1_method_26_code
def yX5_isByteOrNothing : MethodName := ⟨RX5, "isByteOrNothing", "(I)Z"⟩
abbrev cX5_countByte : ByteArray := prog_1_method_27_code
def yX5_countByte : MethodName := ⟨RX5, "countByte", "(I)I"⟩
abbrev cX5_appendUnlessNothing : ByteArray := prog_1_method_28_code
def yX5_appendUnlessNothing : MethodName := ⟨RX5, "appendUnlessNothing", "(I)V"⟩
abbrev cX5_turn : ByteArray := prog_1_method_29_code
def yX5_turn : MethodName := ⟨RX5, "turn", "()I"⟩
abbrev cX5_reasonAgainst : ByteArray := prog_1_method_30_code
def yX5_reasonAgainst : MethodName := ⟨RX5, "reasonAgainst", "(II)I"⟩
abbrev cX5_stepDown : ByteArray := prog_1_method_31_code
def yX5_stepDown : MethodName := ⟨RX5, "stepDown", "(I)V"⟩
abbrev cX5_stepUp : ByteArray := prog_1_method_32_code
def yX5_stepUp : MethodName := ⟨RX5, "stepUp", "()V"⟩
abbrev cX5_visit : ByteArray := prog_1_method_33_code
def yX5_visit : MethodName := ⟨RX5, "visit", "(I)V"⟩
abbrev cX5_beginAnew : ByteArray := prog_1_method_34_code
def yX5_beginAnew : MethodName := ⟨RX5, "beginAnew", "()V"⟩
abbrev cX5_follow : ByteArray := prog_1_method_35_code
def yX5_follow : MethodName := ⟨RX5, "follow", "(II)Z"⟩
abbrev cX5_judge : ByteArray := prog_1_method_36_code
def yX5_judge : MethodName := ⟨RX5, "judge", "(II)I"⟩
abbrev cX5_openVariation : ByteArray := prog_1_method_37_code
def yX5_openVariation : MethodName := ⟨RX5, "openVariation", "()I"⟩
abbrev cX5_closeVariation : ByteArray := prog_1_method_38_code
def yX5_closeVariation : MethodName := ⟨RX5, "closeVariation", "()I"⟩
abbrev cX5_writeMove : ByteArray := prog_1_method_39_code
def yX5_writeMove : MethodName := ⟨RX5, "writeMove", "(LBoardNotation$Text;II)V"⟩
abbrev cX5_writeOrigin : ByteArray := prog_1_method_40_code
def yX5_writeOrigin : MethodName := ⟨RX5, "writeOrigin", "(LBoardNotation$Text;III)V"⟩
abbrev cX5_writeOpening : ByteArray := prog_1_method_41_code
def yX5_writeOpening : MethodName := ⟨RX5, "writeOpening", "(I)V"⟩
abbrev cX5_goOn : ByteArray := prog_1_method_42_code
def yX5_goOn : MethodName := ⟨RX5, "goOn", "(II)I"⟩
abbrev cX5_leaveLine : ByteArray := prog_1_method_43_code
def yX5_leaveLine : MethodName := ⟨RX5, "leaveLine", "()I"⟩
abbrev cX5_digestNode : ByteArray := prog_1_method_44_code
def yX5_digestNode : MethodName := ⟨RX5, "digestNode", "(JI)J"⟩
def RX6 : String := "BoardNotationModel"
def TX6 : u_T := fun k => match k with
  | 0 => ("BoardNotationModel", "thrown", "I", false)
  | 1 => ("BoardNotationModel", "kinds", "I", false)
  | 2 => ("BoardNotationModel", "letters", "[I", true)
  | 3 => ("BoardNotationModel", "manySteps", "[I", true)
  | 4 => ("BoardNotationModel", "steps", "[I", true)
  | 5 => ("BoardNotationModel", "first", "[I", true)
  | 6 => ("BoardNotationModel", "board", "[I", true)
  | 7 => ("BoardNotationModel", "trial", "[I", true)
  | 8 => ("BoardNotationModel", "nodes", "I", false)
  | 9 => ("BoardNotationModel", "present", "I", false)
  | 10 => ("BoardNotationModel", "table", "[I", true)
  | 11 => ("BoardNotationModel", "continuations", "[I", true)
  | 12 => ("BoardNotationModel", "tape", "[I", true)
  | 13 => ("BoardNotationModel", "taped", "I", false)
  | 14 => ("BoardNotationModel", "errorAt", "I", false)
  | 15 => ("BoardNotationModel", "readFrom", "I", false)
  | 16 => ("BoardNotationModel", "readTo", "I", false)
  | 17 => ("BoardNotationModel", "way", "[I", true)
  | 18 => ("BoardNotationModel", "form", "I", false)
  | 19 => ("BoardNotationModel", "from", "I", false)
  | 20 => ("BoardNotationModel", "to", "I", false)
  | 21 => ("BoardNotationModel", "badAt", "I", false)
  | 22 => ("BoardNotationModel", "paper", "[I", true)
  | 23 => ("BoardNotationModel", "written", "I", false)
  | 24 => ("BoardNotationModel", "isTooLong", "Z", false)
  | _ => ("BoardNotationModel", "pile", "[I", true)
def tyX6 : Nat → FieldType := fun k => match k with
  | 0 => .int
  | 1 => .int
  | 2 => .array .int
  | 3 => .array .int
  | 4 => .array .int
  | 5 => .array .int
  | 6 => .array .int
  | 7 => .array .int
  | 8 => .int
  | 9 => .int
  | 10 => .array .int
  | 11 => .array .int
  | 12 => .array .int
  | 13 => .int
  | 14 => .int
  | 15 => .int
  | 16 => .int
  | 17 => .array .int
  | 18 => .int
  | 19 => .int
  | 20 => .int
  | 21 => .int
  | 22 => .array .int
  | 23 => .int
  | 24 => .boolean
  | _ => .array .int
abbrev wsX60 : List Cond := u_ws RX6 TX6 26
theorem nmX6 : ∀ a, a < 26 → ∀ b, b < 26 → a ≠ b → (TX6 a).2.1 ≠ (TX6 b).2.1 := by decide +kernel
theorem tyX6_ok : ∀ k, k < 26 → parseFieldDescriptor (TX6 k).2.2.1 = some (tyX6 k) := by decide +kernel
abbrev cX6_init : ByteArray := prog_8_method_1_code
def yX6_init : MethodName := ⟨RX6, "<init>", "()V"⟩
abbrev cX6_thrown : ByteArray := prog_8_method_2_code
def yX6_thrown : MethodName := ⟨RX6, "thrown", "()I"⟩
abbrev cX6_fail : ByteArray := prog_8_method_3_code
def yX6_fail : MethodName := ⟨RX6, "fail", "(I)I"⟩
abbrev cX6_isIn : ByteArray := prog_8_method_4_code
def yX6_isIn : MethodName := ⟨RX6, "isIn", "(III)Z"⟩
abbrev cX6_isSquare : ByteArray := prog_8_method_5_code
def yX6_isSquare : MethodName := ⟨RX6, "isSquare", "(I)Z"⟩
abbrev cX6_isNode : ByteArray := prog_8_method_6_code
def yX6_isNode : MethodName := ⟨RX6, "isNode", "(I)Z"⟩
abbrev cX6_addKind : ByteArray := prog_8_method_7_code
def yX6_addKind : MethodName := ⟨RX6, "addKind", "(I)I"⟩
abbrev cX6_kindOf : ByteArray := prog_8_method_8_code
def yX6_kindOf : MethodName := ⟨RX6, "kindOf", "(I)I"⟩
abbrev cX6_addStep : ByteArray := prog_8_method_9_code
def yX6_addStep : MethodName := ⟨RX6, "addStep", "(IIII)I"⟩
abbrev cX6_put : ByteArray := prog_8_method_10_code
def yX6_put : MethodName := ⟨RX6, "put", "(III)I"⟩
abbrev cX6_get : ByteArray := prog_8_method_11_code
def yX6_get : MethodName := ⟨RX6, "get", "(II)I"⟩
abbrev cX6_sideOf : ByteArray := prog_8_method_12_code
def yX6_sideOf : MethodName := ⟨RX6, "sideOf", "(I)I"⟩
abbrev cX6_play : ByteArray := prog_8_method_13_code
def yX6_play : MethodName := ⟨RX6, "play", "([III)V"⟩
abbrev cX6_set : ByteArray := prog_8_method_14_code
def yX6_set : MethodName := ⟨RX6, "set", "(I)V"⟩
abbrev cX6_turn : ByteArray := prog_8_method_15_code
def yX6_turn : MethodName := ⟨RX6, "turn", "()I"⟩
abbrev cX6_target : ByteArray := prog_8_method_16_code
def yX6_target : MethodName := ⟨RX6, "target", "(IIII)I"⟩
abbrev cX6_reach : ByteArray := prog_8_method_17_code
def yX6_reach : MethodName := ⟨RX6, "reach", "(II)I"⟩
abbrev cX6_reaches : ByteArray := prog_8_method_18_code
def yX6_reaches : MethodName := ⟨RX6, "reaches", "([III)Z"⟩
abbrev cX6_isChecked : ByteArray := prog_8_method_19_code
def yX6_isChecked : MethodName := ⟨RX6, "isChecked", "([II)Z"⟩
abbrev cX6_isLegal : ByteArray := prog_8_method_20_code
def yX6_isLegal : MethodName := ⟨RX6, "isLegal", "(II)Z"⟩
abbrev cX6_legalMoves : ByteArray := prog_8_method_21_code
def yX6_legalMoves : MethodName := ⟨RX6, "legalMoves", "(II)I"⟩
abbrev cX6_at : ByteArray := prog_8_method_22_code
def yX6_at : MethodName := ⟨RX6, "at", "(I)I"⟩
abbrev cX6_stateTold : ByteArray := prog_8_method_23_code
def yX6_stateTold : MethodName := ⟨RX6, "stateTold", "(I)I"⟩
abbrev cX6_state : ByteArray := prog_8_method_24_code
def yX6_state : MethodName := ⟨RX6, "state", "(I)I"⟩
abbrev cX6_why : ByteArray := prog_8_method_25_code
def yX6_why : MethodName := ⟨RX6, "why", "(II)I"⟩
abbrev cX6_reason : ByteArray := prog_8_method_26_code
def yX6_reason : MethodName := ⟨RX6, "reason", "(II)I"⟩
abbrev cX6_continuation0 : ByteArray := prog_8_method_27_code
def yX6_continuation0 : MethodName := ⟨RX6, "continuation0", "(II)I"⟩
abbrev cX6_known : ByteArray := prog_8_method_28_code
def yX6_known : MethodName := ⟨RX6, "known", "(II)I"⟩
abbrev cX6_playOn : ByteArray := prog_8_method_29_code
def yX6_playOn : MethodName := ⟨RX6, "playOn", "(II)V"⟩
abbrev cX6_play_ : ByteArray := prog_8_method_30_code
def yX6_play_ : MethodName := ⟨RX6, "play", "(II)I"⟩
abbrev cX6_feed : ByteArray := prog_8_method_31_code
def yX6_feed : MethodName := ⟨RX6, "feed", "(IIII)I"⟩
abbrev cX6_empty : ByteArray := prog_8_method_32_code
def yX6_empty : MethodName := ⟨RX6, "empty", "()I"⟩
abbrev cX6_fits : ByteArray := prog_8_method_33_code
def yX6_fits : MethodName := ⟨RX6, "fits", "(IC)Z"⟩
abbrev cX6_findForm : ByteArray := prog_8_method_34_code
def yX6_findForm : MethodName := ⟨RX6, "findForm", "(II)Z"⟩
abbrev cX6_early : ByteArray := prog_8_method_35_code
def yX6_early : MethodName := ⟨RX6, "early", "(IC)I"⟩
abbrev cX6_late : ByteArray := prog_8_method_36_code
def yX6_late : MethodName := ⟨RX6, "late", "(IC)I"⟩
abbrev cX6_sign : ByteArray := prog_8_method_37_code
def yX6_sign : MethodName := ⟨RX6, "sign", "(II)I"⟩
abbrev cX6_readMove : ByteArray := prog_8_method_38_code
def yX6_readMove : MethodName := ⟨RX6, "readMove", "(II)I"⟩
abbrev cX6_read : ByteArray := prog_8_method_39_code
def yX6_read : MethodName := ⟨RX6, "read", "()I"⟩
abbrev cX6_found : ByteArray := prog_8_method_40_code
def yX6_found : MethodName := ⟨RX6, "found", "(I)I"⟩
abbrev cX6_put_ : ByteArray := prog_8_method_41_code
def yX6_put_ : MethodName := ⟨RX6, "put", "(I)V"⟩
abbrev cX6_putMove : ByteArray := prog_8_method_42_code
def yX6_putMove : MethodName := ⟨RX6, "putMove", "(II)V"⟩
abbrev cX6_toTape : ByteArray := prog_8_method_43_code
def yX6_toTape : MethodName := ⟨RX6, "toTape", "()I"⟩
abbrev cX6_write : ByteArray := prog_8_method_44_code
def yX6_write : MethodName := ⟨RX6, "write", "(II)I"⟩
abbrev cX6_byteAt : ByteArray := prog_8_method_45_code
def yX6_byteAt : MethodName := ⟨RX6, "byteAt", "(I)I"⟩
abbrev cX6_node : ByteArray := prog_8_method_46_code
def yX6_node : MethodName := ⟨RX6, "node", "(II)I"⟩
abbrev cX6_continuation : ByteArray := prog_8_method_47_code
def yX6_continuation : MethodName := ⟨RX6, "continuation", "(II)I"⟩
abbrev cX6_goTo : ByteArray := prog_8_method_48_code
def yX6_goTo : MethodName := ⟨RX6, "goTo", "(I)I"⟩
abbrev cX6_promote : ByteArray := prog_8_method_49_code
def yX6_promote : MethodName := ⟨RX6, "promote", "(I)I"⟩
abbrev cX6_blank : ByteArray := prog_8_method_50_code
def yX6_blank : MethodName := ⟨RX6, "blank", "()V"⟩
abbrev cX6_putNode : ByteArray := prog_8_method_51_code
def yX6_putNode : MethodName := ⟨RX6, "putNode", "(I)V"⟩
abbrev cX6_putBelow : ByteArray := prog_8_method_52_code
def yX6_putBelow : MethodName := ⟨RX6, "putBelow", "(I)V"⟩
abbrev cX6_writeGame : ByteArray := prog_8_method_53_code
def yX6_writeGame : MethodName := ⟨RX6, "writeGame", "()I"⟩
abbrev cX6_clearNodes : ByteArray := prog_8_method_54_code
def yX6_clearNodes : MethodName := ⟨RX6, "clearNodes", "()V"⟩
abbrev cX6_stop : ByteArray := prog_8_method_55_code
def yX6_stop : MethodName := ⟨RX6, "stop", "(II)I"⟩
abbrev cX6_isWord : ByteArray := prog_8_method_56_code
def yX6_isWord : MethodName := ⟨RX6, "isWord", "(I)Z"⟩
abbrev cX6_readGame : ByteArray := prog_8_method_57_code
def yX6_readGame : MethodName := ⟨RX6, "readGame", "()I"⟩
abbrev cX6_clear : ByteArray := prog_8_method_58_code
def yX6_clear : MethodName := ⟨RX6, "clear", "()I"⟩
abbrev cX6_branching : ByteArray := prog_8_method_59_code
def yX6_branching : MethodName := ⟨RX6, "branching", "()D"⟩
abbrev cX6_digest : ByteArray := prog_8_method_60_code
def yX6_digest : MethodName := ⟨RX6, "digest", "()J"⟩
def RJx145de : String := "java/io/Serializable"
def TJx145de : u_T := fun k => match k with
  | _ => ("", "", "", false)
def tyJx145de : Nat → FieldType := fun k => match k with
  | _ => .int
abbrev wsJx145de0 : List Cond := u_ws RJx145de TJx145de 0
theorem nmJx145de : ∀ a, a < 0 → ∀ b, b < 0 → a ≠ b → (TJx145de a).2.1 ≠ (TJx145de b).2.1 := by decide +kernel
theorem tyJx145de_ok : ∀ k, k < 0 → parseFieldDescriptor (TJx145de k).2.2.1 = some (tyJx145de k) := by decide +kernel
def RJx9f9b0 : String := "java/lang/CharSequence"
def TJx9f9b0 : u_T := fun k => match k with
  | _ => ("", "", "", false)
def tyJx9f9b0 : Nat → FieldType := fun k => match k with
  | _ => .int
abbrev wsJx9f9b00 : List Cond := u_ws RJx9f9b0 TJx9f9b0 0
theorem nmJx9f9b0 : ∀ a, a < 0 → ∀ b, b < 0 → a ≠ b → (TJx9f9b0 a).2.1 ≠ (TJx9f9b0 b).2.1 := by decide +kernel
theorem tyJx9f9b0_ok : ∀ k, k < 0 → parseFieldDescriptor (TJx9f9b0 k).2.2.1 = some (tyJx9f9b0 k) := by decide +kernel
def RJ11 : String := "java/lang/Character"
def TJ11 : u_T := fun k => match k with
  | _ => ("", "", "", false)
def tyJ11 : Nat → FieldType := fun k => match k with
  | _ => .int
abbrev wsJ110 : List Cond := u_ws RJ11 TJ11 0
theorem nmJ11 : ∀ a, a < 0 → ∀ b, b < 0 → a ≠ b → (TJ11 a).2.1 ≠ (TJ11 b).2.1 := by decide +kernel
theorem tyJ11_ok : ∀ k, k < 0 → parseFieldDescriptor (TJ11 k).2.2.1 = some (tyJ11 k) := by decide +kernel
abbrev cJ11_isValidCodePoint_9a6ad : ByteArray := prog_9_method_11_code
def yJ11_isValidCodePoint_9a6ad : MethodName := ⟨RJ11, "isValidCodePoint", "(I)Z"⟩
abbrev cJ11_highSurrogate_5068e : ByteArray := prog_9_method_28_code
def yJ11_highSurrogate_5068e : MethodName := ⟨RJ11, "highSurrogate", "(I)C"⟩
abbrev cJ11_lowSurrogate_5068e : ByteArray := prog_9_method_29_code
def yJ11_lowSurrogate_5068e : MethodName := ⟨RJ11, "lowSurrogate", "(I)C"⟩
def RJxb160c : String := "java/lang/Comparable"
def TJxb160c : u_T := fun k => match k with
  | _ => ("", "", "", false)
def tyJxb160c : Nat → FieldType := fun k => match k with
  | _ => .int
abbrev wsJxb160c0 : List Cond := u_ws RJxb160c TJxb160c 0
theorem nmJxb160c : ∀ a, a < 0 → ∀ b, b < 0 → a ≠ b → (TJxb160c a).2.1 ≠ (TJxb160c b).2.1 := by decide +kernel
theorem tyJxb160c_ok : ∀ k, k < 0 → parseFieldDescriptor (TJxb160c k).2.2.1 = some (tyJxb160c k) := by decide +kernel
def RJ9 : String := "java/lang/Math"
def TJ9 : u_T := fun k => match k with
  | _ => ("", "", "", false)
def tyJ9 : Nat → FieldType := fun k => match k with
  | _ => .int
abbrev wsJ90 : List Cond := u_ws RJ9 TJ9 0
theorem nmJ9 : ∀ a, a < 0 → ∀ b, b < 0 → a ≠ b → (TJ9 a).2.1 ≠ (TJ9 b).2.1 := by decide +kernel
theorem tyJ9_ok : ∀ k, k < 0 → parseFieldDescriptor (TJ9 k).2.2.1 = some (tyJ9 k) := by decide +kernel
abbrev cJ9_max_7cf53 : ByteArray := prog_14_method_65_code
def yJ9_max_7cf53 : MethodName := ⟨RJ9, "max", "(II)I"⟩
abbrev cJ9_min_7cf53 : ByteArray := prog_14_method_69_code
def yJ9_min_7cf53 : MethodName := ⟨RJ9, "min", "(II)I"⟩
def RJ0 : String := "java/lang/String"
def TJ0 : u_T := fun k => match k with
  | _ => ("", "", "", false)
def tyJ0 : Nat → FieldType := fun k => match k with
  | _ => .int
abbrev wsJ00 : List Cond := u_ws RJ0 TJ0 0
theorem nmJ0 : ∀ a, a < 0 → ∀ b, b < 0 → a ≠ b → (TJ0 a).2.1 ≠ (TJ0 b).2.1 := by decide +kernel
theorem tyJ0_ok : ∀ k, k < 0 → parseFieldDescriptor (TJ0 k).2.2.1 = some (tyJ0 k) := by decide +kernel
abbrev cJ0_length_8abf5 : ByteArray := prog_16_method_54_code
def yJ0_length_8abf5 : MethodName := ⟨RJ0, "length", "()I"⟩
abbrev cJ0_charAt_5068e : ByteArray := prog_16_method_56_code
def yJ0_charAt_5068e : MethodName := ⟨RJ0, "charAt", "(I)C"⟩
abbrev cJ0_indexOf_0f7a4 : ByteArray := prog_16_method_79_code
def yJ0_indexOf_0f7a4 : MethodName := ⟨RJ0, "indexOf", "(I)I"⟩
abbrev cJ0_indexOf_7cf53 : ByteArray := prog_16_method_80_code
def yJ0_indexOf_7cf53 : MethodName := ⟨RJ0, "indexOf", "(II)I"⟩
abbrev cJ0_lastIndexOf_0f7a4 : ByteArray := prog_16_method_82_code
def yJ0_lastIndexOf_0f7a4 : MethodName := ⟨RJ0, "lastIndexOf", "(I)I"⟩
abbrev cJ0_lastIndexOf_7cf53 : ByteArray := prog_16_method_83_code
def yJ0_lastIndexOf_7cf53 : MethodName := ⟨RJ0, "lastIndexOf", "(II)I"⟩
abbrev cJ0_coder_7d493 : ByteArray := prog_16_method_152_code
def yJ0_coder_7d493 : MethodName := ⟨RJ0, "coder", "()B"⟩
abbrev cJ0_isLatin1_aae02 : ByteArray := prog_16_method_154_code
def yJ0_isLatin1_aae02 : MethodName := ⟨RJ0, "isLatin1", "()Z"⟩
abbrev cJ0_checkIndex_df160 : ByteArray := prog_16_method_155_code
def yJ0_checkIndex_df160 : MethodName := ⟨RJ0, "checkIndex", "(II)V"⟩
abbrev cJ0_checkBoundsBeginEnd_23922 : ByteArray := prog_16_method_158_code
def yJ0_checkBoundsBeginEnd_23922 : MethodName := ⟨RJ0, "checkBoundsBeginEnd", "(III)V"⟩
def RJ1 : String := "java/lang/StringLatin1"
def TJ1 : u_T := fun k => match k with
  | _ => ("", "", "", false)
def tyJ1 : Nat → FieldType := fun k => match k with
  | _ => .int
abbrev wsJ10 : List Cond := u_ws RJ1 TJ1 0
theorem nmJ1 : ∀ a, a < 0 → ∀ b, b < 0 → a ≠ b → (TJ1 a).2.1 ≠ (TJ1 b).2.1 := by decide +kernel
theorem tyJ1_ok : ∀ k, k < 0 → parseFieldDescriptor (TJ1 k).2.2.1 = some (tyJ1 k) := by decide +kernel
abbrev cJ1_charAt_3b067 : ByteArray := prog_17_method_2_code
def yJ1_charAt_3b067 : MethodName := ⟨RJ1, "charAt", "([BI)C"⟩
abbrev cJ1_canEncode_9a6ad : ByteArray := prog_17_method_4_code
def yJ1_canEncode_9a6ad : MethodName := ⟨RJ1, "canEncode", "(I)Z"⟩
abbrev cJ1_indexOf_4cfef : ByteArray := prog_17_method_22_code
def yJ1_indexOf_4cfef : MethodName := ⟨RJ1, "indexOf", "([BIII)I"⟩
abbrev cJ1_indexOfChar_4cfef : ByteArray := prog_17_method_23_code
def yJ1_indexOfChar_4cfef : MethodName := ⟨RJ1, "indexOfChar", "([BIII)I"⟩
abbrev cJ1_lastIndexOf_7d655 : ByteArray := prog_17_method_27_code
def yJ1_lastIndexOf_7d655 : MethodName := ⟨RJ1, "lastIndexOf", "([BII)I"⟩
def RJ2 : String := "java/lang/StringUTF16"
def TJ2 : u_T := fun k => match k with
  | _ => ("", "", "", false)
def tyJ2 : Nat → FieldType := fun k => match k with
  | _ => .int
abbrev wsJ20 : List Cond := u_ws RJ2 TJ2 0
theorem nmJ2 : ∀ a, a < 0 → ∀ b, b < 0 → a ≠ b → (TJ2 a).2.1 ≠ (TJ2 b).2.1 := by decide +kernel
theorem tyJ2_ok : ∀ k, k < 0 → parseFieldDescriptor (TJ2 k).2.2.1 = some (tyJ2 k) := by decide +kernel
abbrev cJ2_getChar_3b067 : ByteArray := prog_18_method_5_code
def yJ2_getChar_3b067 : MethodName := ⟨RJ2, "getChar", "([BI)C"⟩
abbrev cJ2_length_9d52b : ByteArray := prog_18_method_6_code
def yJ2_length_9d52b : MethodName := ⟨RJ2, "length", "([B)I"⟩
abbrev cJ2_indexOf_4cfef : ByteArray := prog_18_method_40_code
def yJ2_indexOf_4cfef : MethodName := ⟨RJ2, "indexOf", "([BIII)I"⟩
abbrev cJ2_indexOfChar_4cfef : ByteArray := prog_18_method_47_code
def yJ2_indexOfChar_4cfef : MethodName := ⟨RJ2, "indexOfChar", "([BIII)I"⟩
abbrev cJ2_indexOfCharUnsafe_4cfef : ByteArray := prog_18_method_48_code
def yJ2_indexOfCharUnsafe_4cfef : MethodName := ⟨RJ2, "indexOfCharUnsafe", "([BIII)I"⟩
abbrev cJ2_indexOfSupplementary_4cfef : ByteArray := prog_18_method_49_code
def yJ2_indexOfSupplementary_4cfef : MethodName := ⟨RJ2, "indexOfSupplementary", "([BIII)I"⟩
abbrev cJ2_lastIndexOf_7d655 : ByteArray := prog_18_method_51_code
def yJ2_lastIndexOf_7d655 : MethodName := ⟨RJ2, "lastIndexOf", "([BII)I"⟩
abbrev cJ2_lastIndexOfSupplementary_7d655 : ByteArray := prog_18_method_52_code
def yJ2_lastIndexOfSupplementary_7d655 : MethodName := ⟨RJ2, "lastIndexOfSupplementary", "([BII)I"⟩
abbrev cJ2_charAt_3b067 : ByteArray := prog_18_method_83_code
def yJ2_charAt_3b067 : MethodName := ⟨RJ2, "charAt", "([BI)C"⟩
abbrev cJ2_checkIndex_2214a : ByteArray := prog_18_method_91_code
def yJ2_checkIndex_2214a : MethodName := ⟨RJ2, "checkIndex", "(I[B)V"⟩
abbrev cJ2_checkBoundsBeginEnd_d044e : ByteArray := prog_18_method_93_code
def yJ2_checkBoundsBeginEnd_d044e : MethodName := ⟨RJ2, "checkBoundsBeginEnd", "(II[B)V"⟩
def RJ10 : String := "java/lang/System"
def TJ10 : u_T := fun k => match k with
  | _ => ("", "", "", false)
def tyJ10 : Nat → FieldType := fun k => match k with
  | _ => .int
abbrev wsJ100 : List Cond := u_ws RJ10 TJ10 0
theorem nmJ10 : ∀ a, a < 0 → ∀ b, b < 0 → a ≠ b → (TJ10 a).2.1 ≠ (TJ10 b).2.1 := by decide +kernel
theorem tyJ10_ok : ∀ k, k < 0 → parseFieldDescriptor (TJ10 k).2.2.1 = some (tyJ10 k) := by decide +kernel
def RJxfd54e : String := "java/lang/constant/Constable"
def TJxfd54e : u_T := fun k => match k with
  | _ => ("", "", "", false)
def tyJxfd54e : Nat → FieldType := fun k => match k with
  | _ => .int
abbrev wsJxfd54e0 : List Cond := u_ws RJxfd54e TJxfd54e 0
theorem nmJxfd54e : ∀ a, a < 0 → ∀ b, b < 0 → a ≠ b → (TJxfd54e a).2.1 ≠ (TJxfd54e b).2.1 := by decide +kernel
theorem tyJxfd54e_ok : ∀ k, k < 0 → parseFieldDescriptor (TJxfd54e k).2.2.1 = some (tyJxfd54e k) := by decide +kernel
def RJx3cf43 : String := "java/lang/constant/ConstantDesc"
def TJx3cf43 : u_T := fun k => match k with
  | _ => ("", "", "", false)
def tyJx3cf43 : Nat → FieldType := fun k => match k with
  | _ => .int
abbrev wsJx3cf430 : List Cond := u_ws RJx3cf43 TJx3cf43 0
theorem nmJx3cf43 : ∀ a, a < 0 → ∀ b, b < 0 → a ≠ b → (TJx3cf43 a).2.1 ≠ (TJx3cf43 b).2.1 := by decide +kernel
theorem tyJx3cf43_ok : ∀ k, k < 0 → parseFieldDescriptor (TJx3cf43 k).2.2.1 = some (tyJx3cf43 k) := by decide +kernel
def RJ7 : String := "java/util/Arrays"
def TJ7 : u_T := fun k => match k with
  | _ => ("", "", "", false)
def tyJ7 : Nat → FieldType := fun k => match k with
  | _ => .int
abbrev wsJ70 : List Cond := u_ws RJ7 TJ7 0
theorem nmJ7 : ∀ a, a < 0 → ∀ b, b < 0 → a ≠ b → (TJ7 a).2.1 ≠ (TJ7 b).2.1 := by decide +kernel
theorem tyJ7_ok : ∀ k, k < 0 → parseFieldDescriptor (TJ7 k).2.2.1 = some (tyJ7 k) := by decide +kernel
abbrev cJ7_fill_53178 : ByteArray := prog_21_method_103_code
def yJ7_fill_53178 : MethodName := ⟨RJ7, "fill", "([II)V"⟩
def RJ3 : String := "jdk/internal/util/Preconditions"
def TJ3 : u_T := fun k => match k with
  | _ => ("", "", "", false)
def tyJ3 : Nat → FieldType := fun k => match k with
  | _ => .int
abbrev wsJ30 : List Cond := u_ws RJ3 TJ3 0
theorem nmJ3 : ∀ a, a < 0 → ∀ b, b < 0 → a ≠ b → (TJ3 a).2.1 ≠ (TJ3 b).2.1 := by decide +kernel
theorem tyJ3_ok : ∀ k, k < 0 → parseFieldDescriptor (TJ3 k).2.2.1 = some (tyJ3 k) := by decide +kernel
abbrev cJ3_checkIndex_8e157 : ByteArray := prog_22_method_11_code
def yJ3_checkIndex_8e157 : MethodName := ⟨RJ3, "checkIndex", "(IILjava/util/function/BiFunction;)I"⟩
abbrev cJ3_checkFromToIndex_8c36e : ByteArray := prog_22_method_12_code
def yJ3_checkFromToIndex_8c36e : MethodName := ⟨RJ3, "checkFromToIndex", "(IIILjava/util/function/BiFunction;)I"⟩
def RL : String := "BoardNotationLaw"
abbrev cL_addKind : ByteArray := method_3_code
def yL_addKind : MethodName := ⟨RL, "addKind", "(LBoardNotation;I[J)I"⟩
abbrev cL_addStep : ByteArray := method_4_code
def yL_addStep : MethodName := ⟨RL, "addStep", "(LBoardNotation;IIII[J)I"⟩
abbrev cL_put : ByteArray := method_5_code
def yL_put : MethodName := ⟨RL, "put", "(LBoardNotation;III[J)I"⟩
abbrev cL_at : ByteArray := method_6_code
def yL_at : MethodName := ⟨RL, "at", "(LBoardNotation;I[J)I"⟩
abbrev cL_state : ByteArray := method_7_code
def yL_state : MethodName := ⟨RL, "state", "(LBoardNotation;I[J)I"⟩
abbrev cL_reason : ByteArray := method_8_code
def yL_reason : MethodName := ⟨RL, "reason", "(LBoardNotation;II[J)I"⟩
abbrev cL_play : ByteArray := method_9_code
def yL_play : MethodName := ⟨RL, "play", "(LBoardNotation;II[J)I"⟩
abbrev cL_feed : ByteArray := method_10_code
def yL_feed : MethodName := ⟨RL, "feed", "(LBoardNotation;IIII[J)I"⟩
abbrev cL_found : ByteArray := method_11_code
def yL_found : MethodName := ⟨RL, "found", "(LBoardNotation;I[J)I"⟩
abbrev cL_write : ByteArray := method_12_code
def yL_write : MethodName := ⟨RL, "write", "(LBoardNotation;II[J)I"⟩
abbrev cL_byteAt : ByteArray := method_13_code
def yL_byteAt : MethodName := ⟨RL, "byteAt", "(LBoardNotation;I[J)I"⟩
abbrev cL_node : ByteArray := method_14_code
def yL_node : MethodName := ⟨RL, "node", "(LBoardNotation;II[J)I"⟩
abbrev cL_continuation : ByteArray := method_15_code
def yL_continuation : MethodName := ⟨RL, "continuation", "(LBoardNotation;II[J)I"⟩
abbrev cL_goTo : ByteArray := method_16_code
def yL_goTo : MethodName := ⟨RL, "goTo", "(LBoardNotation;I[J)I"⟩
abbrev cL_promote : ByteArray := method_17_code
def yL_promote : MethodName := ⟨RL, "promote", "(LBoardNotation;I[J)I"⟩
abbrev cL_writeGame : ByteArray := method_18_code
def yL_writeGame : MethodName := ⟨RL, "writeGame", "(LBoardNotation;[J)I"⟩
abbrev cL_law : ByteArray := code
def yL_law : MethodName := ⟨RL, "law", "([I)Z"⟩
def wsJ7_fill_53178 : List Cond := .code yJ7_fill_53178 cJ7_fill_53178 4 none :: ([])
def wsX0_init : List Cond := .code yX0_init cX0_init 2 none :: ([.methodLink RX0 3 objectInit, .instanceMethod objectInit, .code objectInit ⟨#[0xb1]⟩ 1 none, .arrayClass .int, .fieldLink RX0 9 "BoardNotation$Board" "pieces" "[I", .fieldLink RX0 15 "BoardNotation$Board" "kinds" "LBoardNotation$Kinds;", .methodLink RX0 19 yJ7_fill_53178, .static yJ7_fill_53178, .initialized RJ7, .code yJ7_fill_53178 cJ7_fill_53178 4 none] ++ wsX00)
def wsX5_isSquare : List Cond := .code yX5_isSquare cX5_isSquare 1 (some .boolean) :: ([])
def wsX0_pieceOn : List Cond := .code yX0_pieceOn cX0_pieceOn 2 (some .int) :: ([.fieldLink RX0 9 "BoardNotation$Board" "pieces" "[I", .static yX5_isSquare, .initialized RX5, .code yX5_isSquare cX5_isSquare 1 (some .boolean)] ++ wsX00)
def wsX0_isTaken : List Cond := .code yX0_isTaken cX0_isTaken 2 (some .boolean) :: ([.methodLink RX0 29 yX0_pieceOn, .instanceMethod yX0_pieceOn, .selects RX0 yX0_pieceOn yX0_pieceOn, .initialized RX0, .code yX0_pieceOn cX0_pieceOn 2 (some .int), .fieldLink RX0 9 "BoardNotation$Board" "pieces" "[I", .static yX5_isSquare, .initialized RX5, .code yX5_isSquare cX5_isSquare 1 (some .boolean)] ++ wsX00)
def wsX0_isOf : List Cond := .code yX0_isOf cX0_isOf 3 (some .boolean) :: ([.methodLink RX0 33 yX0_isTaken, .instanceMethod yX0_isTaken, .selects RX0 yX0_isTaken yX0_isTaken, .initialized RX0, .code yX0_isTaken cX0_isTaken 2 (some .boolean), .methodLink RX0 29 yX0_pieceOn, .instanceMethod yX0_pieceOn, .selects RX0 yX0_pieceOn yX0_pieceOn, .code yX0_pieceOn cX0_pieceOn 2 (some .int), .fieldLink RX0 9 "BoardNotation$Board" "pieces" "[I", .static yX5_isSquare, .initialized RX5, .code yX5_isSquare cX5_isSquare 1 (some .boolean)] ++ wsX00)
def wsX0_replace : List Cond := .code yX0_replace cX0_replace 4 (some .int) :: ([.fieldLink RX0 9 "BoardNotation$Board" "pieces" "[I", .static yX5_isSquare, .initialized RX5, .code yX5_isSquare cX5_isSquare 1 (some .boolean)] ++ wsX00)
def wsX0_move : List Cond := .code yX0_move cX0_move 4 (some .int) :: ([.fieldLink RX0 9 "BoardNotation$Board" "pieces" "[I", .static yX5_isSquare, .initialized RX5, .code yX5_isSquare cX5_isSquare 1 (some .boolean)] ++ wsX00)
def wsX0_takeBack : List Cond := .code yX0_takeBack cX0_takeBack 4 none :: ([.fieldLink RX0 9 "BoardNotation$Board" "pieces" "[I", .static yX5_isSquare, .initialized RX5, .code yX5_isSquare cX5_isSquare 1 (some .boolean)] ++ wsX00)
def wsX0_reachedFrom : List Cond := .code yX0_reachedFrom cX0_reachedFrom 16 (some .long) :: ([.fieldLink RX0 9 "BoardNotation$Board" "pieces" "[I", .fieldLink RX0 15 "BoardNotation$Board" "kinds" "LBoardNotation$Kinds;"] ++ wsX00 ++ wsX10)
def wsX0_reaches : List Cond := .code yX0_reaches cX0_reaches 3 (some .boolean) :: ([.static yX5_isSquare, .initialized RX5, .code yX5_isSquare cX5_isSquare 1 (some .boolean), .methodLink RX0 36 yX0_reachedFrom, .instanceMethod yX0_reachedFrom, .selects RX0 yX0_reachedFrom yX0_reachedFrom, .initialized RX0, .code yX0_reachedFrom cX0_reachedFrom 16 (some .long), .fieldLink RX0 9 "BoardNotation$Board" "pieces" "[I", .fieldLink RX0 15 "BoardNotation$Board" "kinds" "LBoardNotation$Kinds;"] ++ wsX00 ++ wsX10)
def wsX0_royalsOf : List Cond := .code yX0_royalsOf cX0_royalsOf 5 (some .long) :: ([.fieldLink RX0 9 "BoardNotation$Board" "pieces" "[I"] ++ wsX00)
def wsX0_inCheck : List Cond := .code yX0_inCheck cX0_inCheck 6 (some .boolean) :: ([.fieldLink RX0 9 "BoardNotation$Board" "pieces" "[I", .methodLink RX0 58 yX0_royalsOf, .instanceMethod yX0_royalsOf, .selects RX0 yX0_royalsOf yX0_royalsOf, .initialized RX0, .code yX0_royalsOf cX0_royalsOf 5 (some .long), .methodLink RX0 36 yX0_reachedFrom, .instanceMethod yX0_reachedFrom, .selects RX0 yX0_reachedFrom yX0_reachedFrom, .code yX0_reachedFrom cX0_reachedFrom 16 (some .long), .fieldLink RX0 15 "BoardNotation$Board" "kinds" "LBoardNotation$Kinds;"] ++ wsX00 ++ wsX10)
def wsX0_keepsRoyalsSafe_r1 : List Cond := [Cond.methodLink RX0 29 yX0_pieceOn, Cond.instanceMethod yX0_pieceOn, Cond.selects RX0 yX0_pieceOn yX0_pieceOn, Cond.initialized RX0, Cond.code yX0_pieceOn cX0_pieceOn 2 (some .int), Cond.fieldLink RX0 9 "BoardNotation$Board" "pieces" "[I", Cond.static yX5_isSquare, Cond.initialized RX5, Cond.code yX5_isSquare cX5_isSquare 1 (some .boolean), Cond.methodLink RX0 61 yX0_move, Cond.instanceMethod yX0_move, Cond.selects RX0 yX0_move yX0_move, Cond.code yX0_move cX0_move 4 (some .int), Cond.methodLink RX0 65 yX0_inCheck, Cond.instanceMethod yX0_inCheck, Cond.selects RX0 yX0_inCheck yX0_inCheck, Cond.code yX0_inCheck cX0_inCheck 6 (some .boolean), Cond.methodLink RX0 58 yX0_royalsOf, Cond.instanceMethod yX0_royalsOf, Cond.selects RX0 yX0_royalsOf yX0_royalsOf, Cond.code yX0_royalsOf cX0_royalsOf 5 (some .long), Cond.methodLink RX0 36 yX0_reachedFrom, Cond.instanceMethod yX0_reachedFrom, Cond.selects RX0 yX0_reachedFrom yX0_reachedFrom]
def wsX0_keepsRoyalsSafe_r2 : List Cond := [Cond.code yX0_reachedFrom cX0_reachedFrom 16 (some .long), Cond.fieldLink RX0 15 "BoardNotation$Board" "kinds" "LBoardNotation$Kinds;", Cond.methodLink RX0 68 yX0_takeBack, Cond.instanceMethod yX0_takeBack, Cond.selects RX0 yX0_takeBack yX0_takeBack, Cond.code yX0_takeBack cX0_takeBack 4 none]
def wsX0_keepsRoyalsSafe : List Cond := .code yX0_keepsRoyalsSafe cX0_keepsRoyalsSafe 6 (some .boolean) :: ((wsX0_keepsRoyalsSafe_r1 ++ wsX0_keepsRoyalsSafe_r2) ++ wsX00 ++ wsX10)
def wsX0_countLegalMoves_r1 : List Cond := [Cond.fieldLink RX0 9 "BoardNotation$Board" "pieces" "[I", Cond.methodLink RX0 36 yX0_reachedFrom, Cond.instanceMethod yX0_reachedFrom, Cond.selects RX0 yX0_reachedFrom yX0_reachedFrom, Cond.initialized RX0, Cond.code yX0_reachedFrom cX0_reachedFrom 16 (some .long), Cond.fieldLink RX0 15 "BoardNotation$Board" "kinds" "LBoardNotation$Kinds;", Cond.methodLink RX0 72 yX0_keepsRoyalsSafe, Cond.instanceMethod yX0_keepsRoyalsSafe, Cond.selects RX0 yX0_keepsRoyalsSafe yX0_keepsRoyalsSafe, Cond.code yX0_keepsRoyalsSafe cX0_keepsRoyalsSafe 6 (some .boolean), Cond.methodLink RX0 29 yX0_pieceOn, Cond.instanceMethod yX0_pieceOn, Cond.selects RX0 yX0_pieceOn yX0_pieceOn, Cond.code yX0_pieceOn cX0_pieceOn 2 (some .int), Cond.static yX5_isSquare, Cond.initialized RX5, Cond.code yX5_isSquare cX5_isSquare 1 (some .boolean), Cond.methodLink RX0 61 yX0_move, Cond.instanceMethod yX0_move, Cond.selects RX0 yX0_move yX0_move, Cond.code yX0_move cX0_move 4 (some .int), Cond.methodLink RX0 65 yX0_inCheck, Cond.instanceMethod yX0_inCheck]
def wsX0_countLegalMoves_r2 : List Cond := [Cond.selects RX0 yX0_inCheck yX0_inCheck, Cond.code yX0_inCheck cX0_inCheck 6 (some .boolean), Cond.methodLink RX0 58 yX0_royalsOf, Cond.instanceMethod yX0_royalsOf, Cond.selects RX0 yX0_royalsOf yX0_royalsOf, Cond.code yX0_royalsOf cX0_royalsOf 5 (some .long), Cond.methodLink RX0 68 yX0_takeBack, Cond.instanceMethod yX0_takeBack, Cond.selects RX0 yX0_takeBack yX0_takeBack, Cond.code yX0_takeBack cX0_takeBack 4 none]
def wsX0_countLegalMoves : List Cond := .code yX0_countLegalMoves cX0_countLegalMoves 8 (some .int) :: ((wsX0_countLegalMoves_r1 ++ wsX0_countLegalMoves_r2) ++ wsX00 ++ wsX10)
def wsX0_signBehind_r1 : List Cond := [Cond.methodLink RX0 29 yX0_pieceOn, Cond.instanceMethod yX0_pieceOn, Cond.selects RX0 yX0_pieceOn yX0_pieceOn, Cond.initialized RX0, Cond.code yX0_pieceOn cX0_pieceOn 2 (some .int), Cond.fieldLink RX0 9 "BoardNotation$Board" "pieces" "[I", Cond.static yX5_isSquare, Cond.initialized RX5, Cond.code yX5_isSquare cX5_isSquare 1 (some .boolean), Cond.methodLink RX0 61 yX0_move, Cond.instanceMethod yX0_move, Cond.selects RX0 yX0_move yX0_move, Cond.code yX0_move cX0_move 4 (some .int), Cond.methodLink RX0 65 yX0_inCheck, Cond.instanceMethod yX0_inCheck, Cond.selects RX0 yX0_inCheck yX0_inCheck, Cond.code yX0_inCheck cX0_inCheck 6 (some .boolean), Cond.methodLink RX0 58 yX0_royalsOf, Cond.instanceMethod yX0_royalsOf, Cond.selects RX0 yX0_royalsOf yX0_royalsOf, Cond.code yX0_royalsOf cX0_royalsOf 5 (some .long), Cond.methodLink RX0 36 yX0_reachedFrom, Cond.instanceMethod yX0_reachedFrom, Cond.selects RX0 yX0_reachedFrom yX0_reachedFrom]
def wsX0_signBehind_r2 : List Cond := [Cond.code yX0_reachedFrom cX0_reachedFrom 16 (some .long), Cond.fieldLink RX0 15 "BoardNotation$Board" "kinds" "LBoardNotation$Kinds;", Cond.methodLink RX0 76 yX0_countLegalMoves, Cond.instanceMethod yX0_countLegalMoves, Cond.selects RX0 yX0_countLegalMoves yX0_countLegalMoves, Cond.code yX0_countLegalMoves cX0_countLegalMoves 8 (some .int), Cond.methodLink RX0 72 yX0_keepsRoyalsSafe, Cond.instanceMethod yX0_keepsRoyalsSafe, Cond.selects RX0 yX0_keepsRoyalsSafe yX0_keepsRoyalsSafe, Cond.code yX0_keepsRoyalsSafe cX0_keepsRoyalsSafe 6 (some .boolean), Cond.methodLink RX0 68 yX0_takeBack, Cond.instanceMethod yX0_takeBack, Cond.selects RX0 yX0_takeBack yX0_takeBack, Cond.code yX0_takeBack cX0_takeBack 4 none]
def wsX0_signBehind : List Cond := .code yX0_signBehind cX0_signBehind 6 (some .int) :: ((wsX0_signBehind_r1 ++ wsX0_signBehind_r2) ++ wsX00 ++ wsX10)
def wsX1_init : List Cond := .code yX1_init cX1_init 1 none :: ([.methodLink RX1 3 objectInit, .instanceMethod objectInit, .code objectInit ⟨#[0xb1]⟩ 1 none, .arrayClass .int, .fieldLink RX1 9 "BoardNotation$Kinds" "letters" "[I", .fieldLink RX1 15 "BoardNotation$Kinds" "stepCounts" "[I", .fieldLink RX1 18 "BoardNotation$Kinds" "stepX" "[I", .fieldLink RX1 21 "BoardNotation$Kinds" "stepY" "[I", .fieldLink RX1 24 "BoardNotation$Kinds" "stepReach" "[I", .fieldLink RX1 27 "BoardNotation$Kinds" "size" "I"] ++ wsX10)
def wsX1_size : List Cond := .code yX1_size cX1_size 1 (some .int) :: ([.fieldLink RX1 27 "BoardNotation$Kinds" "size" "I"] ++ wsX10)
def wsX1_has : List Cond := .code yX1_has cX1_has 2 (some .boolean) :: ([.fieldLink RX1 27 "BoardNotation$Kinds" "size" "I"] ++ wsX10)
def wsX1_letter : List Cond := .code yX1_letter cX1_letter 2 (some .int) :: ([.fieldLink RX1 9 "BoardNotation$Kinds" "letters" "[I", .methodLink RX1 31 yX1_has, .instanceMethod yX1_has, .selects RX1 yX1_has yX1_has, .initialized RX1, .code yX1_has cX1_has 2 (some .boolean), .fieldLink RX1 27 "BoardNotation$Kinds" "size" "I"] ++ wsX10)
def wsX1_stepCount : List Cond := .code yX1_stepCount cX1_stepCount 2 (some .int) :: ([.fieldLink RX1 15 "BoardNotation$Kinds" "stepCounts" "[I", .methodLink RX1 31 yX1_has, .instanceMethod yX1_has, .selects RX1 yX1_has yX1_has, .initialized RX1, .code yX1_has cX1_has 2 (some .boolean), .fieldLink RX1 27 "BoardNotation$Kinds" "size" "I"] ++ wsX10)
def wsX1_withLetter : List Cond := .code yX1_withLetter cX1_withLetter 3 (some .int) :: ([.fieldLink RX1 27 "BoardNotation$Kinds" "size" "I", .fieldLink RX1 9 "BoardNotation$Kinds" "letters" "[I"] ++ wsX10)
def wsX1_include : List Cond := .code yX1_include cX1_include 2 (some .int) :: ([.fieldLink RX1 27 "BoardNotation$Kinds" "size" "I", .fieldLink RX1 9 "BoardNotation$Kinds" "letters" "[I"] ++ wsX10)
def wsX1_includeStep : List Cond := .code yX1_includeStep cX1_includeStep 6 (some .int) :: ([.fieldLink RX1 15 "BoardNotation$Kinds" "stepCounts" "[I", .fieldLink RX1 18 "BoardNotation$Kinds" "stepX" "[I", .fieldLink RX1 21 "BoardNotation$Kinds" "stepY" "[I", .fieldLink RX1 24 "BoardNotation$Kinds" "stepReach" "[I", .methodLink RX1 31 yX1_has, .instanceMethod yX1_has, .selects RX1 yX1_has yX1_has, .initialized RX1, .code yX1_has cX1_has 2 (some .boolean), .fieldLink RX1 27 "BoardNotation$Kinds" "size" "I"] ++ wsX10)
def wsX2_init : List Cond := .code yX2_init cX2_init 1 none :: ([.methodLink RX2 3 objectInit, .instanceMethod objectInit, .code objectInit ⟨#[0xb1]⟩ 1 none, .fieldLink RX2 9 "BoardNotation$ShortForm" "misfit" "I", .fieldLink RX2 15 "BoardNotation$ShortForm" "letter" "I", .fieldLink RX2 18 "BoardNotation$ShortForm" "fromFile" "I", .fieldLink RX2 21 "BoardNotation$ShortForm" "fromRank" "I", .fieldLink RX2 24 "BoardNotation$ShortForm" "toFile" "I", .fieldLink RX2 27 "BoardNotation$ShortForm" "toRank" "I", .fieldLink RX2 30 "BoardNotation$ShortForm" "sign" "I", .fieldLink RX2 33 "BoardNotation$ShortForm" "captures" "Z"] ++ wsX20)
def wsX2_misfit : List Cond := .code yX2_misfit cX2_misfit 1 (some .int) :: ([.fieldLink RX2 9 "BoardNotation$ShortForm" "misfit" "I"] ++ wsX20)
def wsX2_letter : List Cond := .code yX2_letter cX2_letter 1 (some .int) :: ([.fieldLink RX2 15 "BoardNotation$ShortForm" "letter" "I"] ++ wsX20)
def wsX2_to : List Cond := .code yX2_to cX2_to 1 (some .int) :: ([.fieldLink RX2 27 "BoardNotation$ShortForm" "toRank" "I", .fieldLink RX2 24 "BoardNotation$ShortForm" "toFile" "I"] ++ wsX20)
def wsX2_sign : List Cond := .code yX2_sign cX2_sign 1 (some .int) :: ([.fieldLink RX2 30 "BoardNotation$ShortForm" "sign" "I"] ++ wsX20)
def wsX2_captures : List Cond := .code yX2_captures cX2_captures 1 (some .boolean) :: ([.fieldLink RX2 33 "BoardNotation$ShortForm" "captures" "Z"] ++ wsX20)
def wsX2_allowsFrom : List Cond := .code yX2_allowsFrom cX2_allowsFrom 2 (some .boolean) :: ([.fieldLink RX2 18 "BoardNotation$ShortForm" "fromFile" "I", .fieldLink RX2 21 "BoardNotation$ShortForm" "fromRank" "I"] ++ wsX20)
def wsX2_forget : List Cond := .code yX2_forget cX2_forget 1 none :: ([.fieldLink RX2 9 "BoardNotation$ShortForm" "misfit" "I", .fieldLink RX2 15 "BoardNotation$ShortForm" "letter" "I", .fieldLink RX2 18 "BoardNotation$ShortForm" "fromFile" "I", .fieldLink RX2 21 "BoardNotation$ShortForm" "fromRank" "I", .fieldLink RX2 24 "BoardNotation$ShortForm" "toFile" "I", .fieldLink RX2 27 "BoardNotation$ShortForm" "toRank" "I", .fieldLink RX2 30 "BoardNotation$ShortForm" "sign" "I", .fieldLink RX2 33 "BoardNotation$ShortForm" "captures" "Z"] ++ wsX20)
def wsX3_get : List Cond := .code yX3_get cX3_get 2 (some .int) :: ([.fieldLink RX3 15 "BoardNotation$Text" "size" "I", .fieldLink RX3 9 "BoardNotation$Text" "bytes" "[I"] ++ wsX30)
def wsX2_isFile : List Cond := .code yX2_isFile cX2_isFile 1 (some .boolean) :: ([])
def wsX2_isRank : List Cond := .code yX2_isRank cX2_isRank 1 (some .boolean) :: ([])
def wsX2_stateBehindOrigin : List Cond := .code yX2_stateBehindOrigin cX2_stateBehindOrigin 1 (some .int) :: ([.methodLink RX2 54 yX2_isFile, .static yX2_isFile, .initialized RX2, .code yX2_isFile cX2_isFile 1 (some .boolean)])
def wsX2_isSign : List Cond := .code yX2_isSign cX2_isSign 1 (some .boolean) :: ([])
def wsX2_stateBehind : List Cond := .code yX2_stateBehind cX2_stateBehind 2 (some .int) :: ([.methodLink RX2 54 yX2_isFile, .static yX2_isFile, .initialized RX2, .code yX2_isFile cX2_isFile 1 (some .boolean), .methodLink RX2 58 yX2_isRank, .static yX2_isRank, .code yX2_isRank cX2_isRank 1 (some .boolean), .methodLink RX2 64 yX2_stateBehindOrigin, .static yX2_stateBehindOrigin, .code yX2_stateBehindOrigin cX2_stateBehindOrigin 1 (some .int), .methodLink RX2 61 yX2_isSign, .static yX2_isSign, .code yX2_isSign cX2_isSign 1 (some .boolean)])
def wsX2_keep : List Cond := .code yX2_keep cX2_keep 2 none :: ([.fieldLink RX2 24 "BoardNotation$ShortForm" "toFile" "I", .fieldLink RX2 18 "BoardNotation$ShortForm" "fromFile" "I", .fieldLink RX2 27 "BoardNotation$ShortForm" "toRank" "I", .fieldLink RX2 21 "BoardNotation$ShortForm" "fromRank" "I", .fieldLink RX2 30 "BoardNotation$ShortForm" "sign" "I", .fieldLink RX2 33 "BoardNotation$ShortForm" "captures" "Z", .fieldLink RX2 15 "BoardNotation$ShortForm" "letter" "I", .methodLink RX2 54 yX2_isFile, .static yX2_isFile, .initialized RX2, .code yX2_isFile cX2_isFile 1 (some .boolean), .methodLink RX2 58 yX2_isRank, .static yX2_isRank, .code yX2_isRank cX2_isRank 1 (some .boolean), .methodLink RX2 61 yX2_isSign, .static yX2_isSign, .code yX2_isSign cX2_isSign 1 (some .boolean)] ++ wsX20)
def wsX2_fits_r1 : List Cond := [Cond.fieldLink RX2 9 "BoardNotation$ShortForm" "misfit" "I", Cond.methodLink RX2 37 yX2_forget, Cond.instanceMethod yX2_forget, Cond.selects RX2 yX2_forget yX2_forget, Cond.initialized RX2, Cond.code yX2_forget cX2_forget 1 none, Cond.fieldLink RX2 15 "BoardNotation$ShortForm" "letter" "I", Cond.fieldLink RX2 18 "BoardNotation$ShortForm" "fromFile" "I", Cond.fieldLink RX2 21 "BoardNotation$ShortForm" "fromRank" "I", Cond.fieldLink RX2 24 "BoardNotation$ShortForm" "toFile" "I", Cond.fieldLink RX2 27 "BoardNotation$ShortForm" "toRank" "I", Cond.fieldLink RX2 30 "BoardNotation$ShortForm" "sign" "I", Cond.fieldLink RX2 33 "BoardNotation$ShortForm" "captures" "Z", Cond.methodLink RX2 40 yX3_get, Cond.instanceMethod yX3_get, Cond.selects RX3 yX3_get yX3_get, Cond.initialized RX3, Cond.code yX3_get cX3_get 2 (some .int), Cond.fieldLink RX3 15 "BoardNotation$Text" "size" "I", Cond.fieldLink RX3 9 "BoardNotation$Text" "bytes" "[I", Cond.methodLink RX2 46 yX2_stateBehind, Cond.static yX2_stateBehind, Cond.code yX2_stateBehind cX2_stateBehind 2 (some .int), Cond.methodLink RX2 54 yX2_isFile]
def wsX2_fits_r2 : List Cond := [Cond.static yX2_isFile, Cond.code yX2_isFile cX2_isFile 1 (some .boolean), Cond.methodLink RX2 58 yX2_isRank, Cond.static yX2_isRank, Cond.code yX2_isRank cX2_isRank 1 (some .boolean), Cond.methodLink RX2 64 yX2_stateBehindOrigin, Cond.static yX2_stateBehindOrigin, Cond.code yX2_stateBehindOrigin cX2_stateBehindOrigin 1 (some .int), Cond.methodLink RX2 61 yX2_isSign, Cond.static yX2_isSign, Cond.code yX2_isSign cX2_isSign 1 (some .boolean), Cond.methodLink RX2 50 yX2_keep, Cond.instanceMethod yX2_keep, Cond.selects RX2 yX2_keep yX2_keep, Cond.code yX2_keep cX2_keep 2 none]
def wsX2_fits : List Cond := .code yX2_fits cX2_fits 6 (some .boolean) :: ((wsX2_fits_r1 ++ wsX2_fits_r2) ++ wsX20 ++ wsX30)
def wsX3_init : List Cond := .code yX3_init cX3_init 1 none :: ([.methodLink RX3 3 objectInit, .instanceMethod objectInit, .code objectInit ⟨#[0xb1]⟩ 1 none, .arrayClass .int, .fieldLink RX3 9 "BoardNotation$Text" "bytes" "[I", .fieldLink RX3 15 "BoardNotation$Text" "size" "I", .fieldLink RX3 19 "BoardNotation$Text" "spilled" "Z"] ++ wsX30)
def wsX3_size : List Cond := .code yX3_size cX3_size 1 (some .int) :: ([.fieldLink RX3 15 "BoardNotation$Text" "size" "I"] ++ wsX30)
def wsX3_hasSpilled : List Cond := .code yX3_hasSpilled cX3_hasSpilled 1 (some .boolean) :: ([.fieldLink RX3 19 "BoardNotation$Text" "spilled" "Z"] ++ wsX30)
def wsX3_wipe : List Cond := .code yX3_wipe cX3_wipe 1 none :: ([.fieldLink RX3 15 "BoardNotation$Text" "size" "I", .fieldLink RX3 19 "BoardNotation$Text" "spilled" "Z"] ++ wsX30)
def wsX3_append : List Cond := .code yX3_append cX3_append 2 none :: ([.fieldLink RX3 15 "BoardNotation$Text" "size" "I", .fieldLink RX3 9 "BoardNotation$Text" "bytes" "[I", .fieldLink RX3 19 "BoardNotation$Text" "spilled" "Z"] ++ wsX30)
def wsX3_separate : List Cond := .code yX3_separate cX3_separate 1 none :: ([.fieldLink RX3 15 "BoardNotation$Text" "size" "I", .methodLink RX3 23 yX3_get, .instanceMethod yX3_get, .selects RX3 yX3_get yX3_get, .initialized RX3, .code yX3_get cX3_get 2 (some .int), .fieldLink RX3 9 "BoardNotation$Text" "bytes" "[I", .methodLink RX3 27 yX3_append, .instanceMethod yX3_append, .selects RX3 yX3_append yX3_append, .code yX3_append cX3_append 2 none, .fieldLink RX3 19 "BoardNotation$Text" "spilled" "Z"] ++ wsX30)
def wsX3_isOfWord : List Cond := .code yX3_isOfWord cX3_isOfWord 3 (some .boolean) :: ([.methodLink RX3 23 yX3_get, .instanceMethod yX3_get, .selects RX3 yX3_get yX3_get, .initialized RX3, .code yX3_get cX3_get 2 (some .int), .fieldLink RX3 15 "BoardNotation$Text" "size" "I", .fieldLink RX3 9 "BoardNotation$Text" "bytes" "[I"] ++ wsX30)
def wsX3_isWordStart : List Cond := .code yX3_isWordStart cX3_isWordStart 2 (some .boolean) :: ([.methodLink RX3 31 yX3_isOfWord, .instanceMethod yX3_isOfWord, .selects RX3 yX3_isOfWord yX3_isOfWord, .initialized RX3, .code yX3_isOfWord cX3_isOfWord 3 (some .boolean), .methodLink RX3 23 yX3_get, .instanceMethod yX3_get, .selects RX3 yX3_get yX3_get, .code yX3_get cX3_get 2 (some .int), .fieldLink RX3 15 "BoardNotation$Text" "size" "I", .fieldLink RX3 9 "BoardNotation$Text" "bytes" "[I"] ++ wsX30)
def wsX3_wordEnd : List Cond := .code yX3_wordEnd cX3_wordEnd 3 (some .int) :: ([.fieldLink RX3 15 "BoardNotation$Text" "size" "I", .methodLink RX3 31 yX3_isOfWord, .instanceMethod yX3_isOfWord, .selects RX3 yX3_isOfWord yX3_isOfWord, .initialized RX3, .code yX3_isOfWord cX3_isOfWord 3 (some .boolean), .methodLink RX3 23 yX3_get, .instanceMethod yX3_get, .selects RX3 yX3_get yX3_get, .code yX3_get cX3_get 2 (some .int), .fieldLink RX3 9 "BoardNotation$Text" "bytes" "[I"] ++ wsX30)
def wsX4_occupy : List Cond := .code yX4_occupy cX4_occupy 5 (some .int) :: ([.fieldLink RX4 36 "BoardNotation$Tree" "size" "I", .fieldLink RX4 9 "BoardNotation$Tree" "above" "[I", .fieldLink RX4 15 "BoardNotation$Tree" "from" "[I", .fieldLink RX4 18 "BoardNotation$Tree" "to" "[I", .fieldLink RX4 21 "BoardNotation$Tree" "taken" "[I", .fieldLink RX4 24 "BoardNotation$Tree" "depth" "[I", .fieldLink RX4 27 "BoardNotation$Tree" "childCount" "[I", .fieldLink RX4 30 "BoardNotation$Tree" "firstChild" "[I", .fieldLink RX4 33 "BoardNotation$Tree" "nextBeside" "[I"] ++ wsX40)
def wsX4_init : List Cond := .code yX4_init cX4_init 1 none :: ([.methodLink RX4 3 objectInit, .instanceMethod objectInit, .code objectInit ⟨#[0xb1]⟩ 1 none, .arrayClass .int, .fieldLink RX4 9 "BoardNotation$Tree" "above" "[I", .fieldLink RX4 15 "BoardNotation$Tree" "from" "[I", .fieldLink RX4 18 "BoardNotation$Tree" "to" "[I", .fieldLink RX4 21 "BoardNotation$Tree" "taken" "[I", .fieldLink RX4 24 "BoardNotation$Tree" "depth" "[I", .fieldLink RX4 27 "BoardNotation$Tree" "childCount" "[I", .fieldLink RX4 30 "BoardNotation$Tree" "firstChild" "[I", .fieldLink RX4 33 "BoardNotation$Tree" "nextBeside" "[I", .fieldLink RX4 36 "BoardNotation$Tree" "size" "I", .methodLink RX4 40 yX4_occupy, .instanceMethod yX4_occupy, .selects RX4 yX4_occupy yX4_occupy, .initialized RX4, .code yX4_occupy cX4_occupy 5 (some .int)] ++ wsX40)
def wsX4_size : List Cond := .code yX4_size cX4_size 1 (some .int) :: ([.fieldLink RX4 36 "BoardNotation$Tree" "size" "I"] ++ wsX40)
def wsX4_has : List Cond := .code yX4_has cX4_has 2 (some .boolean) :: ([.fieldLink RX4 36 "BoardNotation$Tree" "size" "I"] ++ wsX40)
def wsX4_above : List Cond := .code yX4_above cX4_above 2 (some .int) :: ([.fieldLink RX4 9 "BoardNotation$Tree" "above" "[I", .methodLink RX4 44 yX4_has, .instanceMethod yX4_has, .selects RX4 yX4_has yX4_has, .initialized RX4, .code yX4_has cX4_has 2 (some .boolean), .fieldLink RX4 36 "BoardNotation$Tree" "size" "I"] ++ wsX40)
def wsX4_from : List Cond := .code yX4_from cX4_from 2 (some .int) :: ([.fieldLink RX4 15 "BoardNotation$Tree" "from" "[I", .methodLink RX4 44 yX4_has, .instanceMethod yX4_has, .selects RX4 yX4_has yX4_has, .initialized RX4, .code yX4_has cX4_has 2 (some .boolean), .fieldLink RX4 36 "BoardNotation$Tree" "size" "I"] ++ wsX40)
def wsX4_to : List Cond := .code yX4_to cX4_to 2 (some .int) :: ([.fieldLink RX4 18 "BoardNotation$Tree" "to" "[I", .methodLink RX4 44 yX4_has, .instanceMethod yX4_has, .selects RX4 yX4_has yX4_has, .initialized RX4, .code yX4_has cX4_has 2 (some .boolean), .fieldLink RX4 36 "BoardNotation$Tree" "size" "I"] ++ wsX40)
def wsX4_taken : List Cond := .code yX4_taken cX4_taken 2 (some .int) :: ([.fieldLink RX4 21 "BoardNotation$Tree" "taken" "[I", .methodLink RX4 44 yX4_has, .instanceMethod yX4_has, .selects RX4 yX4_has yX4_has, .initialized RX4, .code yX4_has cX4_has 2 (some .boolean), .fieldLink RX4 36 "BoardNotation$Tree" "size" "I"] ++ wsX40)
def wsX4_depth : List Cond := .code yX4_depth cX4_depth 2 (some .int) :: ([.fieldLink RX4 24 "BoardNotation$Tree" "depth" "[I", .methodLink RX4 44 yX4_has, .instanceMethod yX4_has, .selects RX4 yX4_has yX4_has, .initialized RX4, .code yX4_has cX4_has 2 (some .boolean), .fieldLink RX4 36 "BoardNotation$Tree" "size" "I"] ++ wsX40)
def wsX4_childCount : List Cond := .code yX4_childCount cX4_childCount 2 (some .int) :: ([.fieldLink RX4 27 "BoardNotation$Tree" "childCount" "[I", .methodLink RX4 44 yX4_has, .instanceMethod yX4_has, .selects RX4 yX4_has yX4_has, .initialized RX4, .code yX4_has cX4_has 2 (some .boolean), .fieldLink RX4 36 "BoardNotation$Tree" "size" "I"] ++ wsX40)
def wsX4_keepTaken : List Cond := .code yX4_keepTaken cX4_keepTaken 3 none :: ([.fieldLink RX4 21 "BoardNotation$Tree" "taken" "[I", .methodLink RX4 44 yX4_has, .instanceMethod yX4_has, .selects RX4 yX4_has yX4_has, .initialized RX4, .code yX4_has cX4_has 2 (some .boolean), .fieldLink RX4 36 "BoardNotation$Tree" "size" "I"] ++ wsX40)
def wsX4_fact_r1 : List Cond := [Cond.methodLink RX4 48 yX4_above, Cond.instanceMethod yX4_above, Cond.selects RX4 yX4_above yX4_above, Cond.initialized RX4, Cond.code yX4_above cX4_above 2 (some .int), Cond.fieldLink RX4 9 "BoardNotation$Tree" "above" "[I", Cond.methodLink RX4 44 yX4_has, Cond.instanceMethod yX4_has, Cond.selects RX4 yX4_has yX4_has, Cond.code yX4_has cX4_has 2 (some .boolean), Cond.fieldLink RX4 36 "BoardNotation$Tree" "size" "I", Cond.methodLink RX4 51 yX4_from, Cond.instanceMethod yX4_from, Cond.selects RX4 yX4_from yX4_from, Cond.code yX4_from cX4_from 2 (some .int), Cond.fieldLink RX4 15 "BoardNotation$Tree" "from" "[I", Cond.methodLink RX4 53 yX4_to, Cond.instanceMethod yX4_to, Cond.selects RX4 yX4_to yX4_to, Cond.code yX4_to cX4_to 2 (some .int), Cond.fieldLink RX4 18 "BoardNotation$Tree" "to" "[I", Cond.methodLink RX4 55 yX4_depth, Cond.instanceMethod yX4_depth, Cond.selects RX4 yX4_depth yX4_depth]
def wsX4_fact_r2 : List Cond := [Cond.code yX4_depth cX4_depth 2 (some .int), Cond.fieldLink RX4 24 "BoardNotation$Tree" "depth" "[I", Cond.methodLink RX4 57 yX4_childCount, Cond.instanceMethod yX4_childCount, Cond.selects RX4 yX4_childCount yX4_childCount, Cond.code yX4_childCount cX4_childCount 2 (some .int), Cond.fieldLink RX4 27 "BoardNotation$Tree" "childCount" "[I"]
def wsX4_fact : List Cond := .code yX4_fact cX4_fact 3 (some .int) :: ((wsX4_fact_r1 ++ wsX4_fact_r2) ++ wsX40)
def wsX4_child : List Cond := .code yX4_child cX4_child 5 (some .int) :: ([.fieldLink RX4 27 "BoardNotation$Tree" "childCount" "[I", .fieldLink RX4 30 "BoardNotation$Tree" "firstChild" "[I", .fieldLink RX4 33 "BoardNotation$Tree" "nextBeside" "[I", .methodLink RX4 44 yX4_has, .instanceMethod yX4_has, .selects RX4 yX4_has yX4_has, .initialized RX4, .code yX4_has cX4_has 2 (some .boolean), .fieldLink RX4 36 "BoardNotation$Tree" "size" "I"] ++ wsX40)
def wsX4_childOfMove : List Cond := .code yX4_childOfMove cX4_childOfMove 6 (some .int) :: ([.fieldLink RX4 15 "BoardNotation$Tree" "from" "[I", .fieldLink RX4 18 "BoardNotation$Tree" "to" "[I", .fieldLink RX4 33 "BoardNotation$Tree" "nextBeside" "[I", .methodLink RX4 59 yX4_child, .instanceMethod yX4_child, .selects RX4 yX4_child yX4_child, .initialized RX4, .code yX4_child cX4_child 5 (some .int), .fieldLink RX4 27 "BoardNotation$Tree" "childCount" "[I", .fieldLink RX4 30 "BoardNotation$Tree" "firstChild" "[I", .methodLink RX4 44 yX4_has, .instanceMethod yX4_has, .selects RX4 yX4_has yX4_has, .code yX4_has cX4_has 2 (some .boolean), .fieldLink RX4 36 "BoardNotation$Tree" "size" "I", .methodLink RX4 57 yX4_childCount, .instanceMethod yX4_childCount, .selects RX4 yX4_childCount yX4_childCount, .code yX4_childCount cX4_childCount 2 (some .int)] ++ wsX40)
def wsX4_grow_r1 : List Cond := [Cond.fieldLink RX4 24 "BoardNotation$Tree" "depth" "[I", Cond.fieldLink RX4 33 "BoardNotation$Tree" "nextBeside" "[I", Cond.fieldLink RX4 30 "BoardNotation$Tree" "firstChild" "[I", Cond.fieldLink RX4 27 "BoardNotation$Tree" "childCount" "[I", Cond.methodLink RX4 57 yX4_childCount, Cond.instanceMethod yX4_childCount, Cond.selects RX4 yX4_childCount yX4_childCount, Cond.initialized RX4, Cond.code yX4_childCount cX4_childCount 2 (some .int), Cond.methodLink RX4 44 yX4_has, Cond.instanceMethod yX4_has, Cond.selects RX4 yX4_has yX4_has, Cond.code yX4_has cX4_has 2 (some .boolean), Cond.fieldLink RX4 36 "BoardNotation$Tree" "size" "I", Cond.methodLink RX4 59 yX4_child, Cond.instanceMethod yX4_child, Cond.selects RX4 yX4_child yX4_child, Cond.code yX4_child cX4_child 5 (some .int), Cond.methodLink RX4 40 yX4_occupy, Cond.instanceMethod yX4_occupy, Cond.selects RX4 yX4_occupy yX4_occupy, Cond.code yX4_occupy cX4_occupy 5 (some .int), Cond.fieldLink RX4 9 "BoardNotation$Tree" "above" "[I", Cond.fieldLink RX4 15 "BoardNotation$Tree" "from" "[I"]
def wsX4_grow_r2 : List Cond := [Cond.fieldLink RX4 18 "BoardNotation$Tree" "to" "[I", Cond.fieldLink RX4 21 "BoardNotation$Tree" "taken" "[I"]
def wsX4_grow : List Cond := .code yX4_grow cX4_grow 6 (some .int) :: ((wsX4_grow_r1 ++ wsX4_grow_r2) ++ wsX40)
def wsX4_placeOf : List Cond := .code yX4_placeOf cX4_placeOf 4 (some .int) :: ([.fieldLink RX4 33 "BoardNotation$Tree" "nextBeside" "[I", .methodLink RX4 48 yX4_above, .instanceMethod yX4_above, .selects RX4 yX4_above yX4_above, .initialized RX4, .code yX4_above cX4_above 2 (some .int), .fieldLink RX4 9 "BoardNotation$Tree" "above" "[I", .methodLink RX4 44 yX4_has, .instanceMethod yX4_has, .selects RX4 yX4_has yX4_has, .code yX4_has cX4_has 2 (some .boolean), .fieldLink RX4 36 "BoardNotation$Tree" "size" "I", .methodLink RX4 59 yX4_child, .instanceMethod yX4_child, .selects RX4 yX4_child yX4_child, .code yX4_child cX4_child 5 (some .int), .fieldLink RX4 27 "BoardNotation$Tree" "childCount" "[I", .fieldLink RX4 30 "BoardNotation$Tree" "firstChild" "[I", .methodLink RX4 57 yX4_childCount, .instanceMethod yX4_childCount, .selects RX4 yX4_childCount yX4_childCount, .code yX4_childCount cX4_childCount 2 (some .int)] ++ wsX40)
def wsX4_makeMain_r1 : List Cond := [Cond.fieldLink RX4 33 "BoardNotation$Tree" "nextBeside" "[I", Cond.fieldLink RX4 30 "BoardNotation$Tree" "firstChild" "[I", Cond.methodLink RX4 63 yX4_placeOf, Cond.instanceMethod yX4_placeOf, Cond.selects RX4 yX4_placeOf yX4_placeOf, Cond.initialized RX4, Cond.code yX4_placeOf cX4_placeOf 4 (some .int), Cond.methodLink RX4 48 yX4_above, Cond.instanceMethod yX4_above, Cond.selects RX4 yX4_above yX4_above, Cond.code yX4_above cX4_above 2 (some .int), Cond.fieldLink RX4 9 "BoardNotation$Tree" "above" "[I", Cond.methodLink RX4 44 yX4_has, Cond.instanceMethod yX4_has, Cond.selects RX4 yX4_has yX4_has, Cond.code yX4_has cX4_has 2 (some .boolean), Cond.fieldLink RX4 36 "BoardNotation$Tree" "size" "I", Cond.methodLink RX4 59 yX4_child, Cond.instanceMethod yX4_child, Cond.selects RX4 yX4_child yX4_child, Cond.code yX4_child cX4_child 5 (some .int), Cond.fieldLink RX4 27 "BoardNotation$Tree" "childCount" "[I", Cond.methodLink RX4 57 yX4_childCount, Cond.instanceMethod yX4_childCount]
def wsX4_makeMain_r2 : List Cond := [Cond.selects RX4 yX4_childCount yX4_childCount, Cond.code yX4_childCount cX4_childCount 2 (some .int)]
def wsX4_makeMain : List Cond := .code yX4_makeMain cX4_makeMain 5 (some .int) :: ((wsX4_makeMain_r1 ++ wsX4_makeMain_r2) ++ wsX40)
def wsX4_cutToRoot : List Cond := .code yX4_cutToRoot cX4_cutToRoot 1 none :: ([.fieldLink RX4 36 "BoardNotation$Tree" "size" "I", .methodLink RX4 40 yX4_occupy, .instanceMethod yX4_occupy, .selects RX4 yX4_occupy yX4_occupy, .initialized RX4, .code yX4_occupy cX4_occupy 5 (some .int), .fieldLink RX4 9 "BoardNotation$Tree" "above" "[I", .fieldLink RX4 15 "BoardNotation$Tree" "from" "[I", .fieldLink RX4 18 "BoardNotation$Tree" "to" "[I", .fieldLink RX4 21 "BoardNotation$Tree" "taken" "[I", .fieldLink RX4 24 "BoardNotation$Tree" "depth" "[I", .fieldLink RX4 27 "BoardNotation$Tree" "childCount" "[I", .fieldLink RX4 30 "BoardNotation$Tree" "firstChild" "[I", .fieldLink RX4 33 "BoardNotation$Tree" "nextBeside" "[I"] ++ wsX40)
def wsX5_init_r1 : List Cond := [Cond.methodLink RX5 3 objectInit, Cond.instanceMethod objectInit, Cond.code objectInit ⟨#[0xb1]⟩ 1 none, Cond.classLink RX5 9 RX1, Cond.instantiable RX1 6, Cond.initialized RX1, Cond.fieldLink RX5 12 "BoardNotation" "kinds" "LBoardNotation$Kinds;", Cond.classLink RX5 16 RX0, Cond.instantiable RX0 2, Cond.initialized RX0, Cond.fieldLink RX5 21 "BoardNotation" "board" "LBoardNotation$Board;", Cond.classLink RX5 25 RX4, Cond.instantiable RX4 9, Cond.initialized RX4, Cond.fieldLink RX5 28 "BoardNotation" "tree" "LBoardNotation$Tree;", Cond.classLink RX5 32 RX2, Cond.instantiable RX2 8, Cond.initialized RX2, Cond.fieldLink RX5 35 "BoardNotation" "form" "LBoardNotation$ShortForm;", Cond.arrayClass .int, Cond.fieldLink RX5 39 "BoardNotation" "path" "[I", Cond.fieldLink RX5 43 "BoardNotation" "bracketNodes" "[I", Cond.classLink RX5 46 RX3, Cond.instantiable RX3 3]
def wsX5_init_r2 : List Cond := [Cond.initialized RX3, Cond.fieldLink RX5 49 "BoardNotation" "tape" "LBoardNotation$Text;", Cond.fieldLink RX5 53 "BoardNotation" "draft" "LBoardNotation$Text;", Cond.fieldLink RX5 56 "BoardNotation" "present" "I", Cond.fieldLink RX5 60 "BoardNotation" "openBrackets" "I", Cond.fieldLink RX5 63 "BoardNotation" "moveIsDue" "Z", Cond.fieldLink RX5 67 "BoardNotation" "judgedFrom" "I", Cond.fieldLink RX5 70 "BoardNotation" "judgedTo" "I", Cond.fieldLink RX5 73 "BoardNotation" "errorPlace" "I", Cond.fieldLink RX5 76 "BoardNotation" "foundFrom" "I", Cond.fieldLink RX5 79 "BoardNotation" "foundTo" "I", Cond.instanceMethod yX1_init, Cond.code yX1_init cX1_init 1 none, Cond.methodLink RX1 3 objectInit, Cond.fieldLink RX1 9 "BoardNotation$Kinds" "letters" "[I", Cond.fieldLink RX1 15 "BoardNotation$Kinds" "stepCounts" "[I", Cond.fieldLink RX1 18 "BoardNotation$Kinds" "stepX" "[I", Cond.fieldLink RX1 21 "BoardNotation$Kinds" "stepY" "[I", Cond.fieldLink RX1 24 "BoardNotation$Kinds" "stepReach" "[I", Cond.fieldLink RX1 27 "BoardNotation$Kinds" "size" "I", Cond.methodLink RX5 18 yX0_init, Cond.instanceMethod yX0_init, Cond.code yX0_init cX0_init 2 none, Cond.methodLink RX0 3 objectInit]
def wsX5_init_r3 : List Cond := [Cond.fieldLink RX0 9 "BoardNotation$Board" "pieces" "[I", Cond.fieldLink RX0 15 "BoardNotation$Board" "kinds" "LBoardNotation$Kinds;", Cond.methodLink RX0 19 yJ7_fill_53178, Cond.static yJ7_fill_53178, Cond.initialized RJ7, Cond.code yJ7_fill_53178 cJ7_fill_53178 4 none, Cond.methodLink RX5 27 yX4_init, Cond.instanceMethod yX4_init, Cond.code yX4_init cX4_init 1 none, Cond.methodLink RX4 3 objectInit, Cond.fieldLink RX4 9 "BoardNotation$Tree" "above" "[I", Cond.fieldLink RX4 15 "BoardNotation$Tree" "from" "[I", Cond.fieldLink RX4 18 "BoardNotation$Tree" "to" "[I", Cond.fieldLink RX4 21 "BoardNotation$Tree" "taken" "[I", Cond.fieldLink RX4 24 "BoardNotation$Tree" "depth" "[I", Cond.fieldLink RX4 27 "BoardNotation$Tree" "childCount" "[I", Cond.fieldLink RX4 30 "BoardNotation$Tree" "firstChild" "[I", Cond.fieldLink RX4 33 "BoardNotation$Tree" "nextBeside" "[I", Cond.fieldLink RX4 36 "BoardNotation$Tree" "size" "I", Cond.methodLink RX4 40 yX4_occupy, Cond.instanceMethod yX4_occupy, Cond.selects RX4 yX4_occupy yX4_occupy, Cond.code yX4_occupy cX4_occupy 5 (some .int), Cond.instanceMethod yX2_init]
def wsX5_init_r4 : List Cond := [Cond.code yX2_init cX2_init 1 none, Cond.methodLink RX2 3 objectInit, Cond.fieldLink RX2 9 "BoardNotation$ShortForm" "misfit" "I", Cond.fieldLink RX2 15 "BoardNotation$ShortForm" "letter" "I", Cond.fieldLink RX2 18 "BoardNotation$ShortForm" "fromFile" "I", Cond.fieldLink RX2 21 "BoardNotation$ShortForm" "fromRank" "I", Cond.fieldLink RX2 24 "BoardNotation$ShortForm" "toFile" "I", Cond.fieldLink RX2 27 "BoardNotation$ShortForm" "toRank" "I", Cond.fieldLink RX2 30 "BoardNotation$ShortForm" "sign" "I", Cond.fieldLink RX2 33 "BoardNotation$ShortForm" "captures" "Z", Cond.instanceMethod yX3_init, Cond.code yX3_init cX3_init 1 none, Cond.methodLink RX3 3 objectInit, Cond.fieldLink RX3 9 "BoardNotation$Text" "bytes" "[I", Cond.fieldLink RX3 15 "BoardNotation$Text" "size" "I", Cond.fieldLink RX3 19 "BoardNotation$Text" "spilled" "Z"]
def wsX5_init : List Cond := .code yX5_init cX5_init 1 none :: ((wsX5_init_r1 ++ (wsX5_init_r2 ++ (wsX5_init_r3 ++ wsX5_init_r4))) ++ wsX10 ++ wsX50 ++ wsX00 ++ wsX40 ++ wsX20 ++ wsX30)
def wsX5_addKind_r1 : List Cond := [Cond.classLink RX5 86 "java/lang/IllegalArgumentException", Cond.initialized "java/lang/IllegalArgumentException", Cond.classLink RX5 98 "java/lang/IllegalStateException", Cond.initialized "java/lang/IllegalStateException", Cond.fieldLink RX5 12 "BoardNotation" "kinds" "LBoardNotation$Kinds;", Cond.fieldLink RX5 28 "BoardNotation" "tree" "LBoardNotation$Tree;", Cond.methodLink RX5 82 yX1_withLetter, Cond.instanceMethod yX1_withLetter, Cond.selects RX1 yX1_withLetter yX1_withLetter, Cond.initialized RX1, Cond.code yX1_withLetter cX1_withLetter 3 (some .int), Cond.fieldLink RX1 27 "BoardNotation$Kinds" "size" "I", Cond.fieldLink RX1 9 "BoardNotation$Kinds" "letters" "[I", Cond.methodLink RX5 93 yX1_size, Cond.instanceMethod yX1_size, Cond.selects RX1 yX1_size yX1_size, Cond.code yX1_size cX1_size 1 (some .int), Cond.methodLink RX5 97 yX4_size, Cond.instanceMethod yX4_size, Cond.selects RX4 yX4_size yX4_size, Cond.initialized RX4, Cond.code yX4_size cX4_size 1 (some .int), Cond.fieldLink RX4 36 "BoardNotation$Tree" "size" "I", Cond.methodLink RX5 103 yX1_include]
def wsX5_addKind_r2 : List Cond := [Cond.instanceMethod yX1_include, Cond.selects RX1 yX1_include yX1_include, Cond.code yX1_include cX1_include 2 (some .int)]
def wsX5_addKind : List Cond := .code yX5_addKind cX5_addKind 2 (some .int) :: ((wsX5_addKind_r1 ++ wsX5_addKind_r2) ++ wsX50 ++ wsX10 ++ wsX40 ++ (vx_atS RX5 90 "java/lang/IllegalArgumentException" ["java/lang/RuntimeException", "java/lang/Exception"]).filter goodWord ++ (vx_atS RX5 102 "java/lang/IllegalStateException" ["java/lang/RuntimeException", "java/lang/Exception"]).filter goodWord)
def wsX5_isStep : List Cond := .code yX5_isStep cX5_isStep 2 (some .boolean) :: ([])
def wsX5_addStep_r1 : List Cond := [Cond.classLink RX5 110 "java/lang/IndexOutOfBoundsException", Cond.initialized "java/lang/IndexOutOfBoundsException", Cond.classLink RX5 86 "java/lang/IllegalArgumentException", Cond.initialized "java/lang/IllegalArgumentException", Cond.classLink RX5 98 "java/lang/IllegalStateException", Cond.initialized "java/lang/IllegalStateException", Cond.fieldLink RX5 12 "BoardNotation" "kinds" "LBoardNotation$Kinds;", Cond.fieldLink RX5 28 "BoardNotation" "tree" "LBoardNotation$Tree;", Cond.methodLink RX5 106 yX1_has, Cond.instanceMethod yX1_has, Cond.selects RX1 yX1_has yX1_has, Cond.initialized RX1, Cond.code yX1_has cX1_has 2 (some .boolean), Cond.fieldLink RX1 27 "BoardNotation$Kinds" "size" "I", Cond.methodLink RX5 115 yX5_isStep, Cond.static yX5_isStep, Cond.initialized RX5, Cond.code yX5_isStep cX5_isStep 2 (some .boolean), Cond.methodLink RX5 121 yX1_stepCount, Cond.instanceMethod yX1_stepCount, Cond.selects RX1 yX1_stepCount yX1_stepCount, Cond.code yX1_stepCount cX1_stepCount 2 (some .int), Cond.fieldLink RX1 15 "BoardNotation$Kinds" "stepCounts" "[I", Cond.methodLink RX1 31 yX1_has]
def wsX5_addStep_r2 : List Cond := [Cond.methodLink RX5 97 yX4_size, Cond.instanceMethod yX4_size, Cond.selects RX4 yX4_size yX4_size, Cond.initialized RX4, Cond.code yX4_size cX4_size 1 (some .int), Cond.fieldLink RX4 36 "BoardNotation$Tree" "size" "I", Cond.methodLink RX5 126 yX1_includeStep, Cond.instanceMethod yX1_includeStep, Cond.selects RX1 yX1_includeStep yX1_includeStep, Cond.code yX1_includeStep cX1_includeStep 6 (some .int), Cond.fieldLink RX1 18 "BoardNotation$Kinds" "stepX" "[I", Cond.fieldLink RX1 21 "BoardNotation$Kinds" "stepY" "[I", Cond.fieldLink RX1 24 "BoardNotation$Kinds" "stepReach" "[I"]
def wsX5_addStep : List Cond := .code yX5_addStep cX5_addStep 5 (some .int) :: ((wsX5_addStep_r1 ++ wsX5_addStep_r2) ++ wsX50 ++ wsX10 ++ wsX40 ++ (vx_atS RX5 114 "java/lang/IndexOutOfBoundsException" ["java/lang/RuntimeException", "java/lang/Exception"]).filter goodWord ++ (vx_atS RX5 90 "java/lang/IllegalArgumentException" ["java/lang/RuntimeException", "java/lang/Exception"]).filter goodWord ++ (vx_atS RX5 102 "java/lang/IllegalStateException" ["java/lang/RuntimeException", "java/lang/Exception"]).filter goodWord)
def wsX5_put_r1 : List Cond := [Cond.classLink RX5 110 "java/lang/IndexOutOfBoundsException", Cond.initialized "java/lang/IndexOutOfBoundsException", Cond.classLink RX5 86 "java/lang/IllegalArgumentException", Cond.initialized "java/lang/IllegalArgumentException", Cond.classLink RX5 98 "java/lang/IllegalStateException", Cond.initialized "java/lang/IllegalStateException", Cond.fieldLink RX5 12 "BoardNotation" "kinds" "LBoardNotation$Kinds;", Cond.fieldLink RX5 28 "BoardNotation" "tree" "LBoardNotation$Tree;", Cond.fieldLink RX5 21 "BoardNotation" "board" "LBoardNotation$Board;", Cond.methodLink RX5 130 yX5_isSquare, Cond.static yX5_isSquare, Cond.initialized RX5, Cond.code yX5_isSquare cX5_isSquare 1 (some .boolean), Cond.methodLink RX5 106 yX1_has, Cond.instanceMethod yX1_has, Cond.selects RX1 yX1_has yX1_has, Cond.initialized RX1, Cond.code yX1_has cX1_has 2 (some .boolean), Cond.fieldLink RX1 27 "BoardNotation$Kinds" "size" "I", Cond.methodLink RX5 97 yX4_size, Cond.instanceMethod yX4_size, Cond.selects RX4 yX4_size yX4_size, Cond.initialized RX4, Cond.code yX4_size cX4_size 1 (some .int)]
def wsX5_put_r2 : List Cond := [Cond.fieldLink RX4 36 "BoardNotation$Tree" "size" "I", Cond.methodLink RX5 139 yX0_replace, Cond.instanceMethod yX0_replace, Cond.selects RX0 yX0_replace yX0_replace, Cond.initialized RX0, Cond.code yX0_replace cX0_replace 4 (some .int), Cond.fieldLink RX0 9 "BoardNotation$Board" "pieces" "[I"]
def wsX5_put : List Cond := .code yX5_put cX5_put 4 (some .int) :: ((wsX5_put_r1 ++ wsX5_put_r2) ++ wsX50 ++ wsX10 ++ wsX40 ++ wsX00 ++ (vx_atS RX5 114 "java/lang/IndexOutOfBoundsException" ["java/lang/RuntimeException", "java/lang/Exception"]).filter goodWord ++ (vx_atS RX5 90 "java/lang/IllegalArgumentException" ["java/lang/RuntimeException", "java/lang/Exception"]).filter goodWord ++ (vx_atS RX5 102 "java/lang/IllegalStateException" ["java/lang/RuntimeException", "java/lang/Exception"]).filter goodWord)
def wsX5_at : List Cond := .code yX5_at cX5_at 2 (some .int) :: ([.classLink RX5 110 "java/lang/IndexOutOfBoundsException", .initialized "java/lang/IndexOutOfBoundsException", .fieldLink RX5 21 "BoardNotation" "board" "LBoardNotation$Board;", .methodLink RX5 130 yX5_isSquare, .static yX5_isSquare, .initialized RX5, .code yX5_isSquare cX5_isSquare 1 (some .boolean), .methodLink RX5 145 yX0_pieceOn, .instanceMethod yX0_pieceOn, .selects RX0 yX0_pieceOn yX0_pieceOn, .initialized RX0, .code yX0_pieceOn cX0_pieceOn 2 (some .int), .fieldLink RX0 9 "BoardNotation$Board" "pieces" "[I"] ++ wsX50 ++ wsX00 ++ (vx_atS RX5 114 "java/lang/IndexOutOfBoundsException" ["java/lang/RuntimeException", "java/lang/Exception"]).filter goodWord)
def wsX5_turn : List Cond := .code yX5_turn cX5_turn 1 (some .int) :: ([.fieldLink RX5 28 "BoardNotation" "tree" "LBoardNotation$Tree;", .fieldLink RX5 56 "BoardNotation" "present" "I", .methodLink RX5 276 yX4_depth, .instanceMethod yX4_depth, .selects RX4 yX4_depth yX4_depth, .initialized RX4, .code yX4_depth cX4_depth 2 (some .int), .fieldLink RX4 24 "BoardNotation$Tree" "depth" "[I", .methodLink RX4 44 yX4_has, .instanceMethod yX4_has, .selects RX4 yX4_has yX4_has, .code yX4_has cX4_has 2 (some .boolean), .fieldLink RX4 36 "BoardNotation$Tree" "size" "I"] ++ wsX50 ++ wsX40)
def wsX5_state_r1 : List Cond := [Cond.classLink RX5 110 "java/lang/IndexOutOfBoundsException", Cond.initialized "java/lang/IndexOutOfBoundsException", Cond.fieldLink RX5 21 "BoardNotation" "board" "LBoardNotation$Board;", Cond.fieldLink RX5 56 "BoardNotation" "present" "I", Cond.fieldLink RX5 28 "BoardNotation" "tree" "LBoardNotation$Tree;", Cond.fieldLink RX5 12 "BoardNotation" "kinds" "LBoardNotation$Kinds;", Cond.fieldLink RX5 49 "BoardNotation" "tape" "LBoardNotation$Text;", Cond.methodLink RX5 148 yX5_turn, Cond.instanceMethod yX5_turn, Cond.selects RX5 yX5_turn yX5_turn, Cond.initialized RX5, Cond.code yX5_turn cX5_turn 1 (some .int), Cond.methodLink RX5 276 yX4_depth, Cond.instanceMethod yX4_depth, Cond.selects RX4 yX4_depth yX4_depth, Cond.initialized RX4, Cond.code yX4_depth cX4_depth 2 (some .int), Cond.fieldLink RX4 24 "BoardNotation$Tree" "depth" "[I", Cond.methodLink RX4 44 yX4_has, Cond.instanceMethod yX4_has, Cond.selects RX4 yX4_has yX4_has, Cond.code yX4_has cX4_has 2 (some .boolean), Cond.fieldLink RX4 36 "BoardNotation$Tree" "size" "I", Cond.methodLink RX5 151 yX0_inCheck]
def wsX5_state_r2 : List Cond := [Cond.instanceMethod yX0_inCheck, Cond.selects RX0 yX0_inCheck yX0_inCheck, Cond.initialized RX0, Cond.code yX0_inCheck cX0_inCheck 6 (some .boolean), Cond.fieldLink RX0 9 "BoardNotation$Board" "pieces" "[I", Cond.methodLink RX0 58 yX0_royalsOf, Cond.instanceMethod yX0_royalsOf, Cond.selects RX0 yX0_royalsOf yX0_royalsOf, Cond.code yX0_royalsOf cX0_royalsOf 5 (some .long), Cond.methodLink RX0 36 yX0_reachedFrom, Cond.instanceMethod yX0_reachedFrom, Cond.selects RX0 yX0_reachedFrom yX0_reachedFrom, Cond.code yX0_reachedFrom cX0_reachedFrom 16 (some .long), Cond.fieldLink RX0 15 "BoardNotation$Board" "kinds" "LBoardNotation$Kinds;", Cond.methodLink RX5 154 yX0_countLegalMoves, Cond.instanceMethod yX0_countLegalMoves, Cond.selects RX0 yX0_countLegalMoves yX0_countLegalMoves, Cond.code yX0_countLegalMoves cX0_countLegalMoves 8 (some .int), Cond.methodLink RX0 72 yX0_keepsRoyalsSafe, Cond.instanceMethod yX0_keepsRoyalsSafe, Cond.selects RX0 yX0_keepsRoyalsSafe yX0_keepsRoyalsSafe, Cond.code yX0_keepsRoyalsSafe cX0_keepsRoyalsSafe 6 (some .boolean), Cond.methodLink RX0 29 yX0_pieceOn, Cond.instanceMethod yX0_pieceOn]
def wsX5_state_r3 : List Cond := [Cond.selects RX0 yX0_pieceOn yX0_pieceOn, Cond.code yX0_pieceOn cX0_pieceOn 2 (some .int), Cond.static yX5_isSquare, Cond.code yX5_isSquare cX5_isSquare 1 (some .boolean), Cond.methodLink RX0 61 yX0_move, Cond.instanceMethod yX0_move, Cond.selects RX0 yX0_move yX0_move, Cond.code yX0_move cX0_move 4 (some .int), Cond.methodLink RX0 65 yX0_inCheck, Cond.methodLink RX0 68 yX0_takeBack, Cond.instanceMethod yX0_takeBack, Cond.selects RX0 yX0_takeBack yX0_takeBack, Cond.code yX0_takeBack cX0_takeBack 4 none, Cond.methodLink RX5 97 yX4_size, Cond.instanceMethod yX4_size, Cond.selects RX4 yX4_size yX4_size, Cond.code yX4_size cX4_size 1 (some .int), Cond.methodLink RX5 93 yX1_size, Cond.instanceMethod yX1_size, Cond.selects RX1 yX1_size yX1_size, Cond.initialized RX1, Cond.code yX1_size cX1_size 1 (some .int), Cond.fieldLink RX1 27 "BoardNotation$Kinds" "size" "I", Cond.methodLink RX5 157 yX3_size]
def wsX5_state_r4 : List Cond := [Cond.instanceMethod yX3_size, Cond.selects RX3 yX3_size yX3_size, Cond.initialized RX3, Cond.code yX3_size cX3_size 1 (some .int), Cond.fieldLink RX3 15 "BoardNotation$Text" "size" "I"]
def wsX5_state : List Cond := .code yX5_state cX5_state 2 (some .int) :: ((wsX5_state_r1 ++ (wsX5_state_r2 ++ (wsX5_state_r3 ++ wsX5_state_r4))) ++ wsX50 ++ wsX40 ++ wsX00 ++ wsX10 ++ wsX30 ++ (vx_atS RX5 114 "java/lang/IndexOutOfBoundsException" ["java/lang/RuntimeException", "java/lang/Exception"]).filter goodWord)
def wsX5_reasonAgainst_r1 : List Cond := [Cond.fieldLink RX5 21 "BoardNotation" "board" "LBoardNotation$Board;", Cond.methodLink RX5 148 yX5_turn, Cond.instanceMethod yX5_turn, Cond.selects RX5 yX5_turn yX5_turn, Cond.initialized RX5, Cond.code yX5_turn cX5_turn 1 (some .int), Cond.fieldLink RX5 28 "BoardNotation" "tree" "LBoardNotation$Tree;", Cond.fieldLink RX5 56 "BoardNotation" "present" "I", Cond.methodLink RX5 276 yX4_depth, Cond.instanceMethod yX4_depth, Cond.selects RX4 yX4_depth yX4_depth, Cond.initialized RX4, Cond.code yX4_depth cX4_depth 2 (some .int), Cond.fieldLink RX4 24 "BoardNotation$Tree" "depth" "[I", Cond.methodLink RX4 44 yX4_has, Cond.instanceMethod yX4_has, Cond.selects RX4 yX4_has yX4_has, Cond.code yX4_has cX4_has 2 (some .boolean), Cond.fieldLink RX4 36 "BoardNotation$Tree" "size" "I", Cond.methodLink RX5 279 yX0_isOf, Cond.instanceMethod yX0_isOf, Cond.selects RX0 yX0_isOf yX0_isOf, Cond.initialized RX0, Cond.code yX0_isOf cX0_isOf 3 (some .boolean)]
def wsX5_reasonAgainst_r2 : List Cond := [Cond.methodLink RX0 33 yX0_isTaken, Cond.instanceMethod yX0_isTaken, Cond.selects RX0 yX0_isTaken yX0_isTaken, Cond.code yX0_isTaken cX0_isTaken 2 (some .boolean), Cond.methodLink RX0 29 yX0_pieceOn, Cond.instanceMethod yX0_pieceOn, Cond.selects RX0 yX0_pieceOn yX0_pieceOn, Cond.code yX0_pieceOn cX0_pieceOn 2 (some .int), Cond.fieldLink RX0 9 "BoardNotation$Board" "pieces" "[I", Cond.static yX5_isSquare, Cond.code yX5_isSquare cX5_isSquare 1 (some .boolean), Cond.methodLink RX5 282 yX0_reaches, Cond.instanceMethod yX0_reaches, Cond.selects RX0 yX0_reaches yX0_reaches, Cond.code yX0_reaches cX0_reaches 3 (some .boolean), Cond.methodLink RX0 36 yX0_reachedFrom, Cond.instanceMethod yX0_reachedFrom, Cond.selects RX0 yX0_reachedFrom yX0_reachedFrom, Cond.code yX0_reachedFrom cX0_reachedFrom 16 (some .long), Cond.fieldLink RX0 15 "BoardNotation$Board" "kinds" "LBoardNotation$Kinds;", Cond.methodLink RX5 285 yX0_keepsRoyalsSafe, Cond.instanceMethod yX0_keepsRoyalsSafe, Cond.selects RX0 yX0_keepsRoyalsSafe yX0_keepsRoyalsSafe, Cond.code yX0_keepsRoyalsSafe cX0_keepsRoyalsSafe 6 (some .boolean)]
def wsX5_reasonAgainst_r3 : List Cond := [Cond.methodLink RX0 61 yX0_move, Cond.instanceMethod yX0_move, Cond.selects RX0 yX0_move yX0_move, Cond.code yX0_move cX0_move 4 (some .int), Cond.methodLink RX0 65 yX0_inCheck, Cond.instanceMethod yX0_inCheck, Cond.selects RX0 yX0_inCheck yX0_inCheck, Cond.code yX0_inCheck cX0_inCheck 6 (some .boolean), Cond.methodLink RX0 58 yX0_royalsOf, Cond.instanceMethod yX0_royalsOf, Cond.selects RX0 yX0_royalsOf yX0_royalsOf, Cond.code yX0_royalsOf cX0_royalsOf 5 (some .long), Cond.methodLink RX0 68 yX0_takeBack, Cond.instanceMethod yX0_takeBack, Cond.selects RX0 yX0_takeBack yX0_takeBack, Cond.code yX0_takeBack cX0_takeBack 4 none]
def wsX5_reasonAgainst : List Cond := .code yX5_reasonAgainst cX5_reasonAgainst 3 (some .int) :: ((wsX5_reasonAgainst_r1 ++ (wsX5_reasonAgainst_r2 ++ wsX5_reasonAgainst_r3)) ++ wsX50 ++ wsX40 ++ wsX00 ++ wsX10)
def wsX5_reason_r1 : List Cond := [Cond.classLink RX5 110 "java/lang/IndexOutOfBoundsException", Cond.initialized "java/lang/IndexOutOfBoundsException", Cond.methodLink RX5 130 yX5_isSquare, Cond.static yX5_isSquare, Cond.initialized RX5, Cond.code yX5_isSquare cX5_isSquare 1 (some .boolean), Cond.methodLink RX5 160 yX5_reasonAgainst, Cond.instanceMethod yX5_reasonAgainst, Cond.selects RX5 yX5_reasonAgainst yX5_reasonAgainst, Cond.code yX5_reasonAgainst cX5_reasonAgainst 3 (some .int), Cond.fieldLink RX5 21 "BoardNotation" "board" "LBoardNotation$Board;", Cond.methodLink RX5 148 yX5_turn, Cond.instanceMethod yX5_turn, Cond.selects RX5 yX5_turn yX5_turn, Cond.code yX5_turn cX5_turn 1 (some .int), Cond.fieldLink RX5 28 "BoardNotation" "tree" "LBoardNotation$Tree;", Cond.fieldLink RX5 56 "BoardNotation" "present" "I", Cond.methodLink RX5 276 yX4_depth, Cond.instanceMethod yX4_depth, Cond.selects RX4 yX4_depth yX4_depth, Cond.initialized RX4, Cond.code yX4_depth cX4_depth 2 (some .int), Cond.fieldLink RX4 24 "BoardNotation$Tree" "depth" "[I", Cond.methodLink RX4 44 yX4_has]
def wsX5_reason_r2 : List Cond := [Cond.instanceMethod yX4_has, Cond.selects RX4 yX4_has yX4_has, Cond.code yX4_has cX4_has 2 (some .boolean), Cond.fieldLink RX4 36 "BoardNotation$Tree" "size" "I", Cond.methodLink RX5 279 yX0_isOf, Cond.instanceMethod yX0_isOf, Cond.selects RX0 yX0_isOf yX0_isOf, Cond.initialized RX0, Cond.code yX0_isOf cX0_isOf 3 (some .boolean), Cond.methodLink RX0 33 yX0_isTaken, Cond.instanceMethod yX0_isTaken, Cond.selects RX0 yX0_isTaken yX0_isTaken, Cond.code yX0_isTaken cX0_isTaken 2 (some .boolean), Cond.methodLink RX0 29 yX0_pieceOn, Cond.instanceMethod yX0_pieceOn, Cond.selects RX0 yX0_pieceOn yX0_pieceOn, Cond.code yX0_pieceOn cX0_pieceOn 2 (some .int), Cond.fieldLink RX0 9 "BoardNotation$Board" "pieces" "[I", Cond.methodLink RX5 282 yX0_reaches, Cond.instanceMethod yX0_reaches, Cond.selects RX0 yX0_reaches yX0_reaches, Cond.code yX0_reaches cX0_reaches 3 (some .boolean), Cond.methodLink RX0 36 yX0_reachedFrom, Cond.instanceMethod yX0_reachedFrom]
def wsX5_reason_r3 : List Cond := [Cond.selects RX0 yX0_reachedFrom yX0_reachedFrom, Cond.code yX0_reachedFrom cX0_reachedFrom 16 (some .long), Cond.fieldLink RX0 15 "BoardNotation$Board" "kinds" "LBoardNotation$Kinds;", Cond.methodLink RX5 285 yX0_keepsRoyalsSafe, Cond.instanceMethod yX0_keepsRoyalsSafe, Cond.selects RX0 yX0_keepsRoyalsSafe yX0_keepsRoyalsSafe, Cond.code yX0_keepsRoyalsSafe cX0_keepsRoyalsSafe 6 (some .boolean), Cond.methodLink RX0 61 yX0_move, Cond.instanceMethod yX0_move, Cond.selects RX0 yX0_move yX0_move, Cond.code yX0_move cX0_move 4 (some .int), Cond.methodLink RX0 65 yX0_inCheck, Cond.instanceMethod yX0_inCheck, Cond.selects RX0 yX0_inCheck yX0_inCheck, Cond.code yX0_inCheck cX0_inCheck 6 (some .boolean), Cond.methodLink RX0 58 yX0_royalsOf, Cond.instanceMethod yX0_royalsOf, Cond.selects RX0 yX0_royalsOf yX0_royalsOf, Cond.code yX0_royalsOf cX0_royalsOf 5 (some .long), Cond.methodLink RX0 68 yX0_takeBack, Cond.instanceMethod yX0_takeBack, Cond.selects RX0 yX0_takeBack yX0_takeBack, Cond.code yX0_takeBack cX0_takeBack 4 none]
def wsX5_reason : List Cond := .code yX5_reason cX5_reason 3 (some .int) :: ((wsX5_reason_r1 ++ (wsX5_reason_r2 ++ wsX5_reason_r3)) ++ wsX50 ++ wsX40 ++ wsX00 ++ wsX10 ++ (vx_atS RX5 114 "java/lang/IndexOutOfBoundsException" ["java/lang/RuntimeException", "java/lang/Exception"]).filter goodWord)
def wsX5_stepDown_r1 : List Cond := [Cond.fieldLink RX5 28 "BoardNotation" "tree" "LBoardNotation$Tree;", Cond.fieldLink RX5 21 "BoardNotation" "board" "LBoardNotation$Board;", Cond.fieldLink RX5 56 "BoardNotation" "present" "I", Cond.methodLink RX5 237 yX4_from, Cond.instanceMethod yX4_from, Cond.selects RX4 yX4_from yX4_from, Cond.initialized RX4, Cond.code yX4_from cX4_from 2 (some .int), Cond.fieldLink RX4 15 "BoardNotation$Tree" "from" "[I", Cond.methodLink RX4 44 yX4_has, Cond.instanceMethod yX4_has, Cond.selects RX4 yX4_has yX4_has, Cond.code yX4_has cX4_has 2 (some .boolean), Cond.fieldLink RX4 36 "BoardNotation$Tree" "size" "I", Cond.methodLink RX5 240 yX4_to, Cond.instanceMethod yX4_to, Cond.selects RX4 yX4_to yX4_to, Cond.code yX4_to cX4_to 2 (some .int), Cond.fieldLink RX4 18 "BoardNotation$Tree" "to" "[I", Cond.methodLink RX5 288 yX0_move, Cond.instanceMethod yX0_move, Cond.selects RX0 yX0_move yX0_move, Cond.initialized RX0, Cond.code yX0_move cX0_move 4 (some .int)]
def wsX5_stepDown_r2 : List Cond := [Cond.fieldLink RX0 9 "BoardNotation$Board" "pieces" "[I", Cond.static yX5_isSquare, Cond.initialized RX5, Cond.code yX5_isSquare cX5_isSquare 1 (some .boolean), Cond.methodLink RX5 291 yX4_keepTaken, Cond.instanceMethod yX4_keepTaken, Cond.selects RX4 yX4_keepTaken yX4_keepTaken, Cond.code yX4_keepTaken cX4_keepTaken 3 none, Cond.fieldLink RX4 21 "BoardNotation$Tree" "taken" "[I"]
def wsX5_stepDown : List Cond := .code yX5_stepDown cX5_stepDown 2 none :: ((wsX5_stepDown_r1 ++ wsX5_stepDown_r2) ++ wsX50 ++ wsX40 ++ wsX00)
def wsX5_follow_r1 : List Cond := [Cond.fieldLink RX5 28 "BoardNotation" "tree" "LBoardNotation$Tree;", Cond.fieldLink RX5 56 "BoardNotation" "present" "I", Cond.methodLink RX5 319 yX4_childOfMove, Cond.instanceMethod yX4_childOfMove, Cond.selects RX4 yX4_childOfMove yX4_childOfMove, Cond.initialized RX4, Cond.code yX4_childOfMove cX4_childOfMove 6 (some .int), Cond.fieldLink RX4 15 "BoardNotation$Tree" "from" "[I", Cond.fieldLink RX4 18 "BoardNotation$Tree" "to" "[I", Cond.fieldLink RX4 33 "BoardNotation$Tree" "nextBeside" "[I", Cond.methodLink RX4 59 yX4_child, Cond.instanceMethod yX4_child, Cond.selects RX4 yX4_child yX4_child, Cond.code yX4_child cX4_child 5 (some .int), Cond.fieldLink RX4 27 "BoardNotation$Tree" "childCount" "[I", Cond.fieldLink RX4 30 "BoardNotation$Tree" "firstChild" "[I", Cond.methodLink RX4 44 yX4_has, Cond.instanceMethod yX4_has, Cond.selects RX4 yX4_has yX4_has, Cond.code yX4_has cX4_has 2 (some .boolean), Cond.fieldLink RX4 36 "BoardNotation$Tree" "size" "I", Cond.methodLink RX4 57 yX4_childCount, Cond.instanceMethod yX4_childCount, Cond.selects RX4 yX4_childCount yX4_childCount]
def wsX5_follow_r2 : List Cond := [Cond.code yX4_childCount cX4_childCount 2 (some .int), Cond.methodLink RX5 97 yX4_size, Cond.instanceMethod yX4_size, Cond.selects RX4 yX4_size yX4_size, Cond.code yX4_size cX4_size 1 (some .int), Cond.methodLink RX5 323 yX4_grow, Cond.instanceMethod yX4_grow, Cond.selects RX4 yX4_grow yX4_grow, Cond.code yX4_grow cX4_grow 6 (some .int), Cond.fieldLink RX4 24 "BoardNotation$Tree" "depth" "[I", Cond.methodLink RX4 40 yX4_occupy, Cond.instanceMethod yX4_occupy, Cond.selects RX4 yX4_occupy yX4_occupy, Cond.code yX4_occupy cX4_occupy 5 (some .int), Cond.fieldLink RX4 9 "BoardNotation$Tree" "above" "[I", Cond.fieldLink RX4 21 "BoardNotation$Tree" "taken" "[I", Cond.methodLink RX5 313 yX5_stepDown, Cond.instanceMethod yX5_stepDown, Cond.selects RX5 yX5_stepDown yX5_stepDown, Cond.initialized RX5, Cond.code yX5_stepDown cX5_stepDown 2 none, Cond.fieldLink RX5 21 "BoardNotation" "board" "LBoardNotation$Board;", Cond.methodLink RX5 237 yX4_from, Cond.instanceMethod yX4_from]
def wsX5_follow_r3 : List Cond := [Cond.selects RX4 yX4_from yX4_from, Cond.code yX4_from cX4_from 2 (some .int), Cond.methodLink RX5 240 yX4_to, Cond.instanceMethod yX4_to, Cond.selects RX4 yX4_to yX4_to, Cond.code yX4_to cX4_to 2 (some .int), Cond.methodLink RX5 288 yX0_move, Cond.instanceMethod yX0_move, Cond.selects RX0 yX0_move yX0_move, Cond.initialized RX0, Cond.code yX0_move cX0_move 4 (some .int), Cond.fieldLink RX0 9 "BoardNotation$Board" "pieces" "[I", Cond.static yX5_isSquare, Cond.code yX5_isSquare cX5_isSquare 1 (some .boolean), Cond.methodLink RX5 291 yX4_keepTaken, Cond.instanceMethod yX4_keepTaken, Cond.selects RX4 yX4_keepTaken yX4_keepTaken, Cond.code yX4_keepTaken cX4_keepTaken 3 none]
def wsX5_follow : List Cond := .code yX5_follow cX5_follow 4 (some .boolean) :: ((wsX5_follow_r1 ++ (wsX5_follow_r2 ++ wsX5_follow_r3)) ++ wsX50 ++ wsX40 ++ wsX00)
def wsX5_play_r1 : List Cond := [Cond.classLink RX5 110 "java/lang/IndexOutOfBoundsException", Cond.initialized "java/lang/IndexOutOfBoundsException", Cond.classLink RX5 98 "java/lang/IllegalStateException", Cond.initialized "java/lang/IllegalStateException", Cond.fieldLink RX5 56 "BoardNotation" "present" "I", Cond.methodLink RX5 130 yX5_isSquare, Cond.static yX5_isSquare, Cond.initialized RX5, Cond.code yX5_isSquare cX5_isSquare 1 (some .boolean), Cond.methodLink RX5 160 yX5_reasonAgainst, Cond.instanceMethod yX5_reasonAgainst, Cond.selects RX5 yX5_reasonAgainst yX5_reasonAgainst, Cond.code yX5_reasonAgainst cX5_reasonAgainst 3 (some .int), Cond.fieldLink RX5 21 "BoardNotation" "board" "LBoardNotation$Board;", Cond.methodLink RX5 148 yX5_turn, Cond.instanceMethod yX5_turn, Cond.selects RX5 yX5_turn yX5_turn, Cond.code yX5_turn cX5_turn 1 (some .int), Cond.fieldLink RX5 28 "BoardNotation" "tree" "LBoardNotation$Tree;", Cond.methodLink RX5 276 yX4_depth, Cond.instanceMethod yX4_depth, Cond.selects RX4 yX4_depth yX4_depth, Cond.initialized RX4, Cond.code yX4_depth cX4_depth 2 (some .int)]
def wsX5_play_r2 : List Cond := [Cond.fieldLink RX4 24 "BoardNotation$Tree" "depth" "[I", Cond.methodLink RX4 44 yX4_has, Cond.instanceMethod yX4_has, Cond.selects RX4 yX4_has yX4_has, Cond.code yX4_has cX4_has 2 (some .boolean), Cond.fieldLink RX4 36 "BoardNotation$Tree" "size" "I", Cond.methodLink RX5 279 yX0_isOf, Cond.instanceMethod yX0_isOf, Cond.selects RX0 yX0_isOf yX0_isOf, Cond.initialized RX0, Cond.code yX0_isOf cX0_isOf 3 (some .boolean), Cond.methodLink RX0 33 yX0_isTaken, Cond.instanceMethod yX0_isTaken, Cond.selects RX0 yX0_isTaken yX0_isTaken, Cond.code yX0_isTaken cX0_isTaken 2 (some .boolean), Cond.methodLink RX0 29 yX0_pieceOn, Cond.instanceMethod yX0_pieceOn, Cond.selects RX0 yX0_pieceOn yX0_pieceOn, Cond.code yX0_pieceOn cX0_pieceOn 2 (some .int), Cond.fieldLink RX0 9 "BoardNotation$Board" "pieces" "[I", Cond.methodLink RX5 282 yX0_reaches, Cond.instanceMethod yX0_reaches, Cond.selects RX0 yX0_reaches yX0_reaches, Cond.code yX0_reaches cX0_reaches 3 (some .boolean)]
def wsX5_play_r3 : List Cond := [Cond.methodLink RX0 36 yX0_reachedFrom, Cond.instanceMethod yX0_reachedFrom, Cond.selects RX0 yX0_reachedFrom yX0_reachedFrom, Cond.code yX0_reachedFrom cX0_reachedFrom 16 (some .long), Cond.fieldLink RX0 15 "BoardNotation$Board" "kinds" "LBoardNotation$Kinds;", Cond.methodLink RX5 285 yX0_keepsRoyalsSafe, Cond.instanceMethod yX0_keepsRoyalsSafe, Cond.selects RX0 yX0_keepsRoyalsSafe yX0_keepsRoyalsSafe, Cond.code yX0_keepsRoyalsSafe cX0_keepsRoyalsSafe 6 (some .boolean), Cond.methodLink RX0 61 yX0_move, Cond.instanceMethod yX0_move, Cond.selects RX0 yX0_move yX0_move, Cond.code yX0_move cX0_move 4 (some .int), Cond.methodLink RX0 65 yX0_inCheck, Cond.instanceMethod yX0_inCheck, Cond.selects RX0 yX0_inCheck yX0_inCheck, Cond.code yX0_inCheck cX0_inCheck 6 (some .boolean), Cond.methodLink RX0 58 yX0_royalsOf, Cond.instanceMethod yX0_royalsOf, Cond.selects RX0 yX0_royalsOf yX0_royalsOf, Cond.code yX0_royalsOf cX0_royalsOf 5 (some .long), Cond.methodLink RX0 68 yX0_takeBack, Cond.instanceMethod yX0_takeBack, Cond.selects RX0 yX0_takeBack yX0_takeBack]
def wsX5_play_r4 : List Cond := [Cond.code yX0_takeBack cX0_takeBack 4 none, Cond.methodLink RX5 165 yX5_follow, Cond.instanceMethod yX5_follow, Cond.selects RX5 yX5_follow yX5_follow, Cond.code yX5_follow cX5_follow 4 (some .boolean), Cond.methodLink RX5 319 yX4_childOfMove, Cond.instanceMethod yX4_childOfMove, Cond.selects RX4 yX4_childOfMove yX4_childOfMove, Cond.code yX4_childOfMove cX4_childOfMove 6 (some .int), Cond.fieldLink RX4 15 "BoardNotation$Tree" "from" "[I", Cond.fieldLink RX4 18 "BoardNotation$Tree" "to" "[I", Cond.fieldLink RX4 33 "BoardNotation$Tree" "nextBeside" "[I", Cond.methodLink RX4 59 yX4_child, Cond.instanceMethod yX4_child, Cond.selects RX4 yX4_child yX4_child, Cond.code yX4_child cX4_child 5 (some .int), Cond.fieldLink RX4 27 "BoardNotation$Tree" "childCount" "[I", Cond.fieldLink RX4 30 "BoardNotation$Tree" "firstChild" "[I", Cond.methodLink RX4 57 yX4_childCount, Cond.instanceMethod yX4_childCount, Cond.selects RX4 yX4_childCount yX4_childCount, Cond.code yX4_childCount cX4_childCount 2 (some .int), Cond.methodLink RX5 97 yX4_size, Cond.instanceMethod yX4_size]
def wsX5_play_r5 : List Cond := [Cond.selects RX4 yX4_size yX4_size, Cond.code yX4_size cX4_size 1 (some .int), Cond.methodLink RX5 323 yX4_grow, Cond.instanceMethod yX4_grow, Cond.selects RX4 yX4_grow yX4_grow, Cond.code yX4_grow cX4_grow 6 (some .int), Cond.methodLink RX4 40 yX4_occupy, Cond.instanceMethod yX4_occupy, Cond.selects RX4 yX4_occupy yX4_occupy, Cond.code yX4_occupy cX4_occupy 5 (some .int), Cond.fieldLink RX4 9 "BoardNotation$Tree" "above" "[I", Cond.fieldLink RX4 21 "BoardNotation$Tree" "taken" "[I", Cond.methodLink RX5 313 yX5_stepDown, Cond.instanceMethod yX5_stepDown, Cond.selects RX5 yX5_stepDown yX5_stepDown, Cond.code yX5_stepDown cX5_stepDown 2 none, Cond.methodLink RX5 237 yX4_from, Cond.instanceMethod yX4_from, Cond.selects RX4 yX4_from yX4_from, Cond.code yX4_from cX4_from 2 (some .int), Cond.methodLink RX5 240 yX4_to, Cond.instanceMethod yX4_to, Cond.selects RX4 yX4_to yX4_to, Cond.code yX4_to cX4_to 2 (some .int)]
def wsX5_play_r6 : List Cond := [Cond.methodLink RX5 288 yX0_move, Cond.methodLink RX5 291 yX4_keepTaken, Cond.instanceMethod yX4_keepTaken, Cond.selects RX4 yX4_keepTaken yX4_keepTaken, Cond.code yX4_keepTaken cX4_keepTaken 3 none]
def wsX5_play : List Cond := .code yX5_play cX5_play 3 (some .int) :: ((wsX5_play_r1 ++ (wsX5_play_r2 ++ (wsX5_play_r3 ++ (wsX5_play_r4 ++ (wsX5_play_r5 ++ wsX5_play_r6))))) ++ wsX50 ++ wsX40 ++ wsX00 ++ wsX10 ++ (vx_atS RX5 114 "java/lang/IndexOutOfBoundsException" ["java/lang/RuntimeException", "java/lang/Exception"]).filter goodWord ++ (vx_atS RX5 102 "java/lang/IllegalStateException" ["java/lang/RuntimeException", "java/lang/Exception"]).filter goodWord)
def wsX5_isByteOrNothing : List Cond := .code yX5_isByteOrNothing cX5_isByteOrNothing 1 (some .boolean) :: ([])
def wsX5_countByte : List Cond := .code yX5_countByte cX5_countByte 1 (some .int) :: ([])
def wsX5_appendUnlessNothing : List Cond := .code yX5_appendUnlessNothing cX5_appendUnlessNothing 2 none :: ([.fieldLink RX5 49 "BoardNotation" "tape" "LBoardNotation$Text;", .methodLink RX5 180 yX3_append, .instanceMethod yX3_append, .selects RX3 yX3_append yX3_append, .initialized RX3, .code yX3_append cX3_append 2 none, .fieldLink RX3 15 "BoardNotation$Text" "size" "I", .fieldLink RX3 9 "BoardNotation$Text" "bytes" "[I", .fieldLink RX3 19 "BoardNotation$Text" "spilled" "Z"] ++ wsX50 ++ wsX30)
def wsX5_feed_r1 : List Cond := [Cond.classLink RX5 86 "java/lang/IllegalArgumentException", Cond.initialized "java/lang/IllegalArgumentException", Cond.classLink RX5 98 "java/lang/IllegalStateException", Cond.initialized "java/lang/IllegalStateException", Cond.fieldLink RX5 49 "BoardNotation" "tape" "LBoardNotation$Text;", Cond.methodLink RX5 170 yX5_isByteOrNothing, Cond.static yX5_isByteOrNothing, Cond.initialized RX5, Cond.code yX5_isByteOrNothing cX5_isByteOrNothing 1 (some .boolean), Cond.methodLink RX5 175 yX5_countByte, Cond.static yX5_countByte, Cond.code yX5_countByte cX5_countByte 1 (some .int), Cond.methodLink RX5 157 yX3_size, Cond.instanceMethod yX3_size, Cond.selects RX3 yX3_size yX3_size, Cond.initialized RX3, Cond.code yX3_size cX3_size 1 (some .int), Cond.fieldLink RX3 15 "BoardNotation$Text" "size" "I", Cond.methodLink RX5 180 yX3_append, Cond.instanceMethod yX3_append, Cond.selects RX3 yX3_append yX3_append, Cond.code yX3_append cX3_append 2 none, Cond.fieldLink RX3 9 "BoardNotation$Text" "bytes" "[I", Cond.fieldLink RX3 19 "BoardNotation$Text" "spilled" "Z"]
def wsX5_feed_r2 : List Cond := [Cond.methodLink RX5 184 yX5_appendUnlessNothing, Cond.instanceMethod yX5_appendUnlessNothing, Cond.selects RX5 yX5_appendUnlessNothing yX5_appendUnlessNothing, Cond.code yX5_appendUnlessNothing cX5_appendUnlessNothing 2 none]
def wsX5_feed : List Cond := .code yX5_feed cX5_feed 6 (some .int) :: ((wsX5_feed_r1 ++ wsX5_feed_r2) ++ wsX50 ++ wsX30 ++ (vx_atS RX5 90 "java/lang/IllegalArgumentException" ["java/lang/RuntimeException", "java/lang/Exception"]).filter goodWord ++ (vx_atS RX5 102 "java/lang/IllegalStateException" ["java/lang/RuntimeException", "java/lang/Exception"]).filter goodWord)
def wsX5_empty : List Cond := .code yX5_empty cX5_empty 2 (some .int) :: ([.fieldLink RX5 49 "BoardNotation" "tape" "LBoardNotation$Text;", .methodLink RX5 157 yX3_size, .instanceMethod yX3_size, .selects RX3 yX3_size yX3_size, .initialized RX3, .code yX3_size cX3_size 1 (some .int), .fieldLink RX3 15 "BoardNotation$Text" "size" "I", .methodLink RX5 187 yX3_wipe, .instanceMethod yX3_wipe, .selects RX3 yX3_wipe yX3_wipe, .code yX3_wipe cX3_wipe 1 none, .fieldLink RX3 19 "BoardNotation$Text" "spilled" "Z"] ++ wsX50 ++ wsX30)
def wsX5_judge_r1 : List Cond := [Cond.fieldLink RX5 35 "BoardNotation" "form" "LBoardNotation$ShortForm;", Cond.fieldLink RX5 49 "BoardNotation" "tape" "LBoardNotation$Text;", Cond.fieldLink RX5 12 "BoardNotation" "kinds" "LBoardNotation$Kinds;", Cond.fieldLink RX5 21 "BoardNotation" "board" "LBoardNotation$Board;", Cond.fieldLink RX5 67 "BoardNotation" "judgedFrom" "I", Cond.fieldLink RX5 70 "BoardNotation" "judgedTo" "I", Cond.methodLink RX5 326 yX2_fits, Cond.instanceMethod yX2_fits, Cond.selects RX2 yX2_fits yX2_fits, Cond.initialized RX2, Cond.code yX2_fits cX2_fits 6 (some .boolean), Cond.fieldLink RX2 9 "BoardNotation$ShortForm" "misfit" "I", Cond.methodLink RX2 37 yX2_forget, Cond.instanceMethod yX2_forget, Cond.selects RX2 yX2_forget yX2_forget, Cond.code yX2_forget cX2_forget 1 none, Cond.fieldLink RX2 15 "BoardNotation$ShortForm" "letter" "I", Cond.fieldLink RX2 18 "BoardNotation$ShortForm" "fromFile" "I", Cond.fieldLink RX2 21 "BoardNotation$ShortForm" "fromRank" "I", Cond.fieldLink RX2 24 "BoardNotation$ShortForm" "toFile" "I", Cond.fieldLink RX2 27 "BoardNotation$ShortForm" "toRank" "I", Cond.fieldLink RX2 30 "BoardNotation$ShortForm" "sign" "I", Cond.fieldLink RX2 33 "BoardNotation$ShortForm" "captures" "Z", Cond.methodLink RX2 40 yX3_get]
def wsX5_judge_r2 : List Cond := [Cond.instanceMethod yX3_get, Cond.selects RX3 yX3_get yX3_get, Cond.initialized RX3, Cond.code yX3_get cX3_get 2 (some .int), Cond.fieldLink RX3 15 "BoardNotation$Text" "size" "I", Cond.fieldLink RX3 9 "BoardNotation$Text" "bytes" "[I", Cond.methodLink RX2 46 yX2_stateBehind, Cond.static yX2_stateBehind, Cond.code yX2_stateBehind cX2_stateBehind 2 (some .int), Cond.methodLink RX2 54 yX2_isFile, Cond.static yX2_isFile, Cond.code yX2_isFile cX2_isFile 1 (some .boolean), Cond.methodLink RX2 58 yX2_isRank, Cond.static yX2_isRank, Cond.code yX2_isRank cX2_isRank 1 (some .boolean), Cond.methodLink RX2 64 yX2_stateBehindOrigin, Cond.static yX2_stateBehindOrigin, Cond.code yX2_stateBehindOrigin cX2_stateBehindOrigin 1 (some .int), Cond.methodLink RX2 61 yX2_isSign, Cond.static yX2_isSign, Cond.code yX2_isSign cX2_isSign 1 (some .boolean), Cond.methodLink RX2 50 yX2_keep, Cond.instanceMethod yX2_keep, Cond.selects RX2 yX2_keep yX2_keep]
def wsX5_judge_r3 : List Cond := [Cond.code yX2_keep cX2_keep 2 none, Cond.methodLink RX5 330 yX2_letter, Cond.instanceMethod yX2_letter, Cond.selects RX2 yX2_letter yX2_letter, Cond.code yX2_letter cX2_letter 1 (some .int), Cond.methodLink RX5 82 yX1_withLetter, Cond.instanceMethod yX1_withLetter, Cond.selects RX1 yX1_withLetter yX1_withLetter, Cond.initialized RX1, Cond.code yX1_withLetter cX1_withLetter 3 (some .int), Cond.fieldLink RX1 27 "BoardNotation$Kinds" "size" "I", Cond.fieldLink RX1 9 "BoardNotation$Kinds" "letters" "[I", Cond.methodLink RX5 148 yX5_turn, Cond.instanceMethod yX5_turn, Cond.selects RX5 yX5_turn yX5_turn, Cond.initialized RX5, Cond.code yX5_turn cX5_turn 1 (some .int), Cond.fieldLink RX5 28 "BoardNotation" "tree" "LBoardNotation$Tree;", Cond.fieldLink RX5 56 "BoardNotation" "present" "I", Cond.methodLink RX5 276 yX4_depth, Cond.instanceMethod yX4_depth, Cond.selects RX4 yX4_depth yX4_depth, Cond.initialized RX4, Cond.code yX4_depth cX4_depth 2 (some .int)]
def wsX5_judge_r4 : List Cond := [Cond.fieldLink RX4 24 "BoardNotation$Tree" "depth" "[I", Cond.methodLink RX4 44 yX4_has, Cond.instanceMethod yX4_has, Cond.selects RX4 yX4_has yX4_has, Cond.code yX4_has cX4_has 2 (some .boolean), Cond.fieldLink RX4 36 "BoardNotation$Tree" "size" "I", Cond.methodLink RX5 333 yX2_to, Cond.instanceMethod yX2_to, Cond.selects RX2 yX2_to yX2_to, Cond.code yX2_to cX2_to 1 (some .int), Cond.methodLink RX5 145 yX0_pieceOn, Cond.instanceMethod yX0_pieceOn, Cond.selects RX0 yX0_pieceOn yX0_pieceOn, Cond.initialized RX0, Cond.code yX0_pieceOn cX0_pieceOn 2 (some .int), Cond.fieldLink RX0 9 "BoardNotation$Board" "pieces" "[I", Cond.static yX5_isSquare, Cond.code yX5_isSquare cX5_isSquare 1 (some .boolean), Cond.methodLink RX5 335 yX2_allowsFrom, Cond.instanceMethod yX2_allowsFrom, Cond.selects RX2 yX2_allowsFrom yX2_allowsFrom, Cond.code yX2_allowsFrom cX2_allowsFrom 2 (some .boolean), Cond.methodLink RX5 282 yX0_reaches, Cond.instanceMethod yX0_reaches]
def wsX5_judge_r5 : List Cond := [Cond.selects RX0 yX0_reaches yX0_reaches, Cond.code yX0_reaches cX0_reaches 3 (some .boolean), Cond.methodLink RX0 36 yX0_reachedFrom, Cond.instanceMethod yX0_reachedFrom, Cond.selects RX0 yX0_reachedFrom yX0_reachedFrom, Cond.code yX0_reachedFrom cX0_reachedFrom 16 (some .long), Cond.fieldLink RX0 15 "BoardNotation$Board" "kinds" "LBoardNotation$Kinds;", Cond.methodLink RX5 285 yX0_keepsRoyalsSafe, Cond.instanceMethod yX0_keepsRoyalsSafe, Cond.selects RX0 yX0_keepsRoyalsSafe yX0_keepsRoyalsSafe, Cond.code yX0_keepsRoyalsSafe cX0_keepsRoyalsSafe 6 (some .boolean), Cond.methodLink RX0 29 yX0_pieceOn, Cond.methodLink RX0 61 yX0_move, Cond.instanceMethod yX0_move, Cond.selects RX0 yX0_move yX0_move, Cond.code yX0_move cX0_move 4 (some .int), Cond.methodLink RX0 65 yX0_inCheck, Cond.instanceMethod yX0_inCheck, Cond.selects RX0 yX0_inCheck yX0_inCheck, Cond.code yX0_inCheck cX0_inCheck 6 (some .boolean), Cond.methodLink RX0 58 yX0_royalsOf, Cond.instanceMethod yX0_royalsOf, Cond.selects RX0 yX0_royalsOf yX0_royalsOf, Cond.code yX0_royalsOf cX0_royalsOf 5 (some .long)]
def wsX5_judge_r6 : List Cond := [Cond.methodLink RX0 68 yX0_takeBack, Cond.instanceMethod yX0_takeBack, Cond.selects RX0 yX0_takeBack yX0_takeBack, Cond.code yX0_takeBack cX0_takeBack 4 none, Cond.methodLink RX5 338 yX2_captures, Cond.instanceMethod yX2_captures, Cond.selects RX2 yX2_captures yX2_captures, Cond.code yX2_captures cX2_captures 1 (some .boolean), Cond.methodLink RX5 341 yX0_isTaken, Cond.instanceMethod yX0_isTaken, Cond.selects RX0 yX0_isTaken yX0_isTaken, Cond.code yX0_isTaken cX0_isTaken 2 (some .boolean), Cond.methodLink RX5 344 yX2_sign, Cond.instanceMethod yX2_sign, Cond.selects RX2 yX2_sign yX2_sign, Cond.code yX2_sign cX2_sign 1 (some .int), Cond.methodLink RX5 347 yX0_signBehind, Cond.instanceMethod yX0_signBehind, Cond.selects RX0 yX0_signBehind yX0_signBehind, Cond.code yX0_signBehind cX0_signBehind 6 (some .int), Cond.methodLink RX0 76 yX0_countLegalMoves, Cond.instanceMethod yX0_countLegalMoves, Cond.selects RX0 yX0_countLegalMoves yX0_countLegalMoves, Cond.code yX0_countLegalMoves cX0_countLegalMoves 8 (some .int)]
def wsX5_judge_r7 : List Cond := [Cond.methodLink RX0 72 yX0_keepsRoyalsSafe]
def wsX5_judge : List Cond := .code yX5_judge cX5_judge 10 (some .int) :: ((wsX5_judge_r1 ++ (wsX5_judge_r2 ++ (wsX5_judge_r3 ++ (wsX5_judge_r4 ++ (wsX5_judge_r5 ++ (wsX5_judge_r6 ++ wsX5_judge_r7)))))) ++ wsX50 ++ wsX20 ++ wsX30 ++ wsX10 ++ wsX40 ++ wsX00)
def wsX5_read_r1 : List Cond := [Cond.fieldLink RX5 49 "BoardNotation" "tape" "LBoardNotation$Text;", Cond.fieldLink RX5 73 "BoardNotation" "errorPlace" "I", Cond.fieldLink RX5 67 "BoardNotation" "judgedFrom" "I", Cond.fieldLink RX5 76 "BoardNotation" "foundFrom" "I", Cond.fieldLink RX5 70 "BoardNotation" "judgedTo" "I", Cond.fieldLink RX5 79 "BoardNotation" "foundTo" "I", Cond.fieldLink RX5 35 "BoardNotation" "form" "LBoardNotation$ShortForm;", Cond.methodLink RX5 157 yX3_size, Cond.instanceMethod yX3_size, Cond.selects RX3 yX3_size yX3_size, Cond.initialized RX3, Cond.code yX3_size cX3_size 1 (some .int), Cond.fieldLink RX3 15 "BoardNotation$Text" "size" "I", Cond.methodLink RX5 190 yX5_judge, Cond.instanceMethod yX5_judge, Cond.selects RX5 yX5_judge yX5_judge, Cond.initialized RX5, Cond.code yX5_judge cX5_judge 10 (some .int), Cond.fieldLink RX5 12 "BoardNotation" "kinds" "LBoardNotation$Kinds;", Cond.fieldLink RX5 21 "BoardNotation" "board" "LBoardNotation$Board;", Cond.methodLink RX5 326 yX2_fits, Cond.instanceMethod yX2_fits, Cond.selects RX2 yX2_fits yX2_fits, Cond.initialized RX2]
def wsX5_read_r2 : List Cond := [Cond.code yX2_fits cX2_fits 6 (some .boolean), Cond.fieldLink RX2 9 "BoardNotation$ShortForm" "misfit" "I", Cond.methodLink RX2 37 yX2_forget, Cond.instanceMethod yX2_forget, Cond.selects RX2 yX2_forget yX2_forget, Cond.code yX2_forget cX2_forget 1 none, Cond.fieldLink RX2 15 "BoardNotation$ShortForm" "letter" "I", Cond.fieldLink RX2 18 "BoardNotation$ShortForm" "fromFile" "I", Cond.fieldLink RX2 21 "BoardNotation$ShortForm" "fromRank" "I", Cond.fieldLink RX2 24 "BoardNotation$ShortForm" "toFile" "I", Cond.fieldLink RX2 27 "BoardNotation$ShortForm" "toRank" "I", Cond.fieldLink RX2 30 "BoardNotation$ShortForm" "sign" "I", Cond.fieldLink RX2 33 "BoardNotation$ShortForm" "captures" "Z", Cond.methodLink RX2 40 yX3_get, Cond.instanceMethod yX3_get, Cond.selects RX3 yX3_get yX3_get, Cond.code yX3_get cX3_get 2 (some .int), Cond.fieldLink RX3 9 "BoardNotation$Text" "bytes" "[I", Cond.methodLink RX2 46 yX2_stateBehind, Cond.static yX2_stateBehind, Cond.code yX2_stateBehind cX2_stateBehind 2 (some .int), Cond.methodLink RX2 54 yX2_isFile, Cond.static yX2_isFile, Cond.code yX2_isFile cX2_isFile 1 (some .boolean)]
def wsX5_read_r3 : List Cond := [Cond.methodLink RX2 58 yX2_isRank, Cond.static yX2_isRank, Cond.code yX2_isRank cX2_isRank 1 (some .boolean), Cond.methodLink RX2 64 yX2_stateBehindOrigin, Cond.static yX2_stateBehindOrigin, Cond.code yX2_stateBehindOrigin cX2_stateBehindOrigin 1 (some .int), Cond.methodLink RX2 61 yX2_isSign, Cond.static yX2_isSign, Cond.code yX2_isSign cX2_isSign 1 (some .boolean), Cond.methodLink RX2 50 yX2_keep, Cond.instanceMethod yX2_keep, Cond.selects RX2 yX2_keep yX2_keep, Cond.code yX2_keep cX2_keep 2 none, Cond.methodLink RX5 330 yX2_letter, Cond.instanceMethod yX2_letter, Cond.selects RX2 yX2_letter yX2_letter, Cond.code yX2_letter cX2_letter 1 (some .int), Cond.methodLink RX5 82 yX1_withLetter, Cond.instanceMethod yX1_withLetter, Cond.selects RX1 yX1_withLetter yX1_withLetter, Cond.initialized RX1, Cond.code yX1_withLetter cX1_withLetter 3 (some .int), Cond.fieldLink RX1 27 "BoardNotation$Kinds" "size" "I", Cond.fieldLink RX1 9 "BoardNotation$Kinds" "letters" "[I"]
def wsX5_read_r4 : List Cond := [Cond.methodLink RX5 148 yX5_turn, Cond.instanceMethod yX5_turn, Cond.selects RX5 yX5_turn yX5_turn, Cond.code yX5_turn cX5_turn 1 (some .int), Cond.fieldLink RX5 28 "BoardNotation" "tree" "LBoardNotation$Tree;", Cond.fieldLink RX5 56 "BoardNotation" "present" "I", Cond.methodLink RX5 276 yX4_depth, Cond.instanceMethod yX4_depth, Cond.selects RX4 yX4_depth yX4_depth, Cond.initialized RX4, Cond.code yX4_depth cX4_depth 2 (some .int), Cond.fieldLink RX4 24 "BoardNotation$Tree" "depth" "[I", Cond.methodLink RX4 44 yX4_has, Cond.instanceMethod yX4_has, Cond.selects RX4 yX4_has yX4_has, Cond.code yX4_has cX4_has 2 (some .boolean), Cond.fieldLink RX4 36 "BoardNotation$Tree" "size" "I", Cond.methodLink RX5 333 yX2_to, Cond.instanceMethod yX2_to, Cond.selects RX2 yX2_to yX2_to, Cond.code yX2_to cX2_to 1 (some .int), Cond.methodLink RX5 145 yX0_pieceOn, Cond.instanceMethod yX0_pieceOn, Cond.selects RX0 yX0_pieceOn yX0_pieceOn]
def wsX5_read_r5 : List Cond := [Cond.initialized RX0, Cond.code yX0_pieceOn cX0_pieceOn 2 (some .int), Cond.fieldLink RX0 9 "BoardNotation$Board" "pieces" "[I", Cond.static yX5_isSquare, Cond.code yX5_isSquare cX5_isSquare 1 (some .boolean), Cond.methodLink RX5 335 yX2_allowsFrom, Cond.instanceMethod yX2_allowsFrom, Cond.selects RX2 yX2_allowsFrom yX2_allowsFrom, Cond.code yX2_allowsFrom cX2_allowsFrom 2 (some .boolean), Cond.methodLink RX5 282 yX0_reaches, Cond.instanceMethod yX0_reaches, Cond.selects RX0 yX0_reaches yX0_reaches, Cond.code yX0_reaches cX0_reaches 3 (some .boolean), Cond.methodLink RX0 36 yX0_reachedFrom, Cond.instanceMethod yX0_reachedFrom, Cond.selects RX0 yX0_reachedFrom yX0_reachedFrom, Cond.code yX0_reachedFrom cX0_reachedFrom 16 (some .long), Cond.fieldLink RX0 15 "BoardNotation$Board" "kinds" "LBoardNotation$Kinds;", Cond.methodLink RX5 285 yX0_keepsRoyalsSafe, Cond.instanceMethod yX0_keepsRoyalsSafe, Cond.selects RX0 yX0_keepsRoyalsSafe yX0_keepsRoyalsSafe, Cond.code yX0_keepsRoyalsSafe cX0_keepsRoyalsSafe 6 (some .boolean), Cond.methodLink RX0 29 yX0_pieceOn, Cond.methodLink RX0 61 yX0_move]
def wsX5_read_r6 : List Cond := [Cond.instanceMethod yX0_move, Cond.selects RX0 yX0_move yX0_move, Cond.code yX0_move cX0_move 4 (some .int), Cond.methodLink RX0 65 yX0_inCheck, Cond.instanceMethod yX0_inCheck, Cond.selects RX0 yX0_inCheck yX0_inCheck, Cond.code yX0_inCheck cX0_inCheck 6 (some .boolean), Cond.methodLink RX0 58 yX0_royalsOf, Cond.instanceMethod yX0_royalsOf, Cond.selects RX0 yX0_royalsOf yX0_royalsOf, Cond.code yX0_royalsOf cX0_royalsOf 5 (some .long), Cond.methodLink RX0 68 yX0_takeBack, Cond.instanceMethod yX0_takeBack, Cond.selects RX0 yX0_takeBack yX0_takeBack, Cond.code yX0_takeBack cX0_takeBack 4 none, Cond.methodLink RX5 338 yX2_captures, Cond.instanceMethod yX2_captures, Cond.selects RX2 yX2_captures yX2_captures, Cond.code yX2_captures cX2_captures 1 (some .boolean), Cond.methodLink RX5 341 yX0_isTaken, Cond.instanceMethod yX0_isTaken, Cond.selects RX0 yX0_isTaken yX0_isTaken, Cond.code yX0_isTaken cX0_isTaken 2 (some .boolean), Cond.methodLink RX5 344 yX2_sign]
def wsX5_read_r7 : List Cond := [Cond.instanceMethod yX2_sign, Cond.selects RX2 yX2_sign yX2_sign, Cond.code yX2_sign cX2_sign 1 (some .int), Cond.methodLink RX5 347 yX0_signBehind, Cond.instanceMethod yX0_signBehind, Cond.selects RX0 yX0_signBehind yX0_signBehind, Cond.code yX0_signBehind cX0_signBehind 6 (some .int), Cond.methodLink RX0 76 yX0_countLegalMoves, Cond.instanceMethod yX0_countLegalMoves, Cond.selects RX0 yX0_countLegalMoves yX0_countLegalMoves, Cond.code yX0_countLegalMoves cX0_countLegalMoves 8 (some .int), Cond.methodLink RX0 72 yX0_keepsRoyalsSafe, Cond.methodLink RX5 193 yX2_misfit, Cond.instanceMethod yX2_misfit, Cond.selects RX2 yX2_misfit yX2_misfit, Cond.code yX2_misfit cX2_misfit 1 (some .int)]
def wsX5_read : List Cond := .code yX5_read cX5_read 2 (some .int) :: ((wsX5_read_r1 ++ (wsX5_read_r2 ++ (wsX5_read_r3 ++ (wsX5_read_r4 ++ (wsX5_read_r5 ++ (wsX5_read_r6 ++ wsX5_read_r7)))))) ++ wsX50 ++ wsX30 ++ wsX20 ++ wsX10 ++ wsX40 ++ wsX00)
def wsX5_found : List Cond := .code yX5_found cX5_found 2 (some .int) :: ([.classLink RX5 110 "java/lang/IndexOutOfBoundsException", .initialized "java/lang/IndexOutOfBoundsException", .fieldLink RX5 73 "BoardNotation" "errorPlace" "I", .fieldLink RX5 76 "BoardNotation" "foundFrom" "I", .fieldLink RX5 79 "BoardNotation" "foundTo" "I"] ++ wsX50 ++ (vx_atS RX5 114 "java/lang/IndexOutOfBoundsException" ["java/lang/RuntimeException", "java/lang/Exception"]).filter goodWord)
def wsX5_writeOrigin_r1 : List Cond := [Cond.fieldLink RX5 21 "BoardNotation" "board" "LBoardNotation$Board;", Cond.methodLink RX5 145 yX0_pieceOn, Cond.instanceMethod yX0_pieceOn, Cond.selects RX0 yX0_pieceOn yX0_pieceOn, Cond.initialized RX0, Cond.code yX0_pieceOn cX0_pieceOn 2 (some .int), Cond.fieldLink RX0 9 "BoardNotation$Board" "pieces" "[I", Cond.static yX5_isSquare, Cond.initialized RX5, Cond.code yX5_isSquare cX5_isSquare 1 (some .boolean), Cond.methodLink RX5 282 yX0_reaches, Cond.instanceMethod yX0_reaches, Cond.selects RX0 yX0_reaches yX0_reaches, Cond.code yX0_reaches cX0_reaches 3 (some .boolean), Cond.methodLink RX0 36 yX0_reachedFrom, Cond.instanceMethod yX0_reachedFrom, Cond.selects RX0 yX0_reachedFrom yX0_reachedFrom, Cond.code yX0_reachedFrom cX0_reachedFrom 16 (some .long), Cond.fieldLink RX0 15 "BoardNotation$Board" "kinds" "LBoardNotation$Kinds;", Cond.methodLink RX5 285 yX0_keepsRoyalsSafe, Cond.instanceMethod yX0_keepsRoyalsSafe, Cond.selects RX0 yX0_keepsRoyalsSafe yX0_keepsRoyalsSafe, Cond.code yX0_keepsRoyalsSafe cX0_keepsRoyalsSafe 6 (some .boolean), Cond.methodLink RX0 29 yX0_pieceOn]
def wsX5_writeOrigin_r2 : List Cond := [Cond.methodLink RX0 61 yX0_move, Cond.instanceMethod yX0_move, Cond.selects RX0 yX0_move yX0_move, Cond.code yX0_move cX0_move 4 (some .int), Cond.methodLink RX0 65 yX0_inCheck, Cond.instanceMethod yX0_inCheck, Cond.selects RX0 yX0_inCheck yX0_inCheck, Cond.code yX0_inCheck cX0_inCheck 6 (some .boolean), Cond.methodLink RX0 58 yX0_royalsOf, Cond.instanceMethod yX0_royalsOf, Cond.selects RX0 yX0_royalsOf yX0_royalsOf, Cond.code yX0_royalsOf cX0_royalsOf 5 (some .long), Cond.methodLink RX0 68 yX0_takeBack, Cond.instanceMethod yX0_takeBack, Cond.selects RX0 yX0_takeBack yX0_takeBack, Cond.code yX0_takeBack cX0_takeBack 4 none, Cond.methodLink RX5 180 yX3_append, Cond.instanceMethod yX3_append, Cond.selects RX3 yX3_append yX3_append, Cond.initialized RX3, Cond.code yX3_append cX3_append 2 none, Cond.fieldLink RX3 15 "BoardNotation$Text" "size" "I", Cond.fieldLink RX3 9 "BoardNotation$Text" "bytes" "[I", Cond.fieldLink RX3 19 "BoardNotation$Text" "spilled" "Z"]
def wsX5_writeOrigin : List Cond := .code yX5_writeOrigin cX5_writeOrigin 9 none :: ((wsX5_writeOrigin_r1 ++ wsX5_writeOrigin_r2) ++ wsX50 ++ wsX00 ++ wsX10 ++ wsX30)
def wsX5_writeMove_r1 : List Cond := [Cond.fieldLink RX5 21 "BoardNotation" "board" "LBoardNotation$Board;", Cond.fieldLink RX5 12 "BoardNotation" "kinds" "LBoardNotation$Kinds;", Cond.methodLink RX5 145 yX0_pieceOn, Cond.instanceMethod yX0_pieceOn, Cond.selects RX0 yX0_pieceOn yX0_pieceOn, Cond.initialized RX0, Cond.code yX0_pieceOn cX0_pieceOn 2 (some .int), Cond.fieldLink RX0 9 "BoardNotation$Board" "pieces" "[I", Cond.static yX5_isSquare, Cond.initialized RX5, Cond.code yX5_isSquare cX5_isSquare 1 (some .boolean), Cond.methodLink RX5 350 yX1_letter, Cond.instanceMethod yX1_letter, Cond.selects RX1 yX1_letter yX1_letter, Cond.initialized RX1, Cond.code yX1_letter cX1_letter 2 (some .int), Cond.fieldLink RX1 9 "BoardNotation$Kinds" "letters" "[I", Cond.methodLink RX1 31 yX1_has, Cond.instanceMethod yX1_has, Cond.selects RX1 yX1_has yX1_has, Cond.code yX1_has cX1_has 2 (some .boolean), Cond.fieldLink RX1 27 "BoardNotation$Kinds" "size" "I", Cond.methodLink RX5 180 yX3_append, Cond.instanceMethod yX3_append]
def wsX5_writeMove_r2 : List Cond := [Cond.selects RX3 yX3_append yX3_append, Cond.initialized RX3, Cond.code yX3_append cX3_append 2 none, Cond.fieldLink RX3 15 "BoardNotation$Text" "size" "I", Cond.fieldLink RX3 9 "BoardNotation$Text" "bytes" "[I", Cond.fieldLink RX3 19 "BoardNotation$Text" "spilled" "Z", Cond.methodLink RX5 352 yX5_writeOrigin, Cond.instanceMethod yX5_writeOrigin, Cond.selects RX5 yX5_writeOrigin yX5_writeOrigin, Cond.code yX5_writeOrigin cX5_writeOrigin 9 none, Cond.methodLink RX5 282 yX0_reaches, Cond.instanceMethod yX0_reaches, Cond.selects RX0 yX0_reaches yX0_reaches, Cond.code yX0_reaches cX0_reaches 3 (some .boolean), Cond.methodLink RX0 36 yX0_reachedFrom, Cond.instanceMethod yX0_reachedFrom, Cond.selects RX0 yX0_reachedFrom yX0_reachedFrom, Cond.code yX0_reachedFrom cX0_reachedFrom 16 (some .long), Cond.fieldLink RX0 15 "BoardNotation$Board" "kinds" "LBoardNotation$Kinds;", Cond.methodLink RX5 285 yX0_keepsRoyalsSafe, Cond.instanceMethod yX0_keepsRoyalsSafe, Cond.selects RX0 yX0_keepsRoyalsSafe yX0_keepsRoyalsSafe, Cond.code yX0_keepsRoyalsSafe cX0_keepsRoyalsSafe 6 (some .boolean), Cond.methodLink RX0 29 yX0_pieceOn]
def wsX5_writeMove_r3 : List Cond := [Cond.methodLink RX0 61 yX0_move, Cond.instanceMethod yX0_move, Cond.selects RX0 yX0_move yX0_move, Cond.code yX0_move cX0_move 4 (some .int), Cond.methodLink RX0 65 yX0_inCheck, Cond.instanceMethod yX0_inCheck, Cond.selects RX0 yX0_inCheck yX0_inCheck, Cond.code yX0_inCheck cX0_inCheck 6 (some .boolean), Cond.methodLink RX0 58 yX0_royalsOf, Cond.instanceMethod yX0_royalsOf, Cond.selects RX0 yX0_royalsOf yX0_royalsOf, Cond.code yX0_royalsOf cX0_royalsOf 5 (some .long), Cond.methodLink RX0 68 yX0_takeBack, Cond.instanceMethod yX0_takeBack, Cond.selects RX0 yX0_takeBack yX0_takeBack, Cond.code yX0_takeBack cX0_takeBack 4 none, Cond.methodLink RX5 341 yX0_isTaken, Cond.instanceMethod yX0_isTaken, Cond.selects RX0 yX0_isTaken yX0_isTaken, Cond.code yX0_isTaken cX0_isTaken 2 (some .boolean), Cond.methodLink RX5 347 yX0_signBehind, Cond.instanceMethod yX0_signBehind, Cond.selects RX0 yX0_signBehind yX0_signBehind, Cond.code yX0_signBehind cX0_signBehind 6 (some .int)]
def wsX5_writeMove_r4 : List Cond := [Cond.methodLink RX0 76 yX0_countLegalMoves, Cond.instanceMethod yX0_countLegalMoves, Cond.selects RX0 yX0_countLegalMoves yX0_countLegalMoves, Cond.code yX0_countLegalMoves cX0_countLegalMoves 8 (some .int), Cond.methodLink RX0 72 yX0_keepsRoyalsSafe]
def wsX5_writeMove : List Cond := .code yX5_writeMove cX5_writeMove 6 none :: ((wsX5_writeMove_r1 ++ (wsX5_writeMove_r2 ++ (wsX5_writeMove_r3 ++ wsX5_writeMove_r4))) ++ wsX50 ++ wsX00 ++ wsX10 ++ wsX30)
def wsX5_write_r1 : List Cond := [Cond.classLink RX5 110 "java/lang/IndexOutOfBoundsException", Cond.initialized "java/lang/IndexOutOfBoundsException", Cond.classLink RX5 98 "java/lang/IllegalStateException", Cond.initialized "java/lang/IllegalStateException", Cond.fieldLink RX5 49 "BoardNotation" "tape" "LBoardNotation$Text;", Cond.methodLink RX5 130 yX5_isSquare, Cond.static yX5_isSquare, Cond.initialized RX5, Cond.code yX5_isSquare cX5_isSquare 1 (some .boolean), Cond.methodLink RX5 160 yX5_reasonAgainst, Cond.instanceMethod yX5_reasonAgainst, Cond.selects RX5 yX5_reasonAgainst yX5_reasonAgainst, Cond.code yX5_reasonAgainst cX5_reasonAgainst 3 (some .int), Cond.fieldLink RX5 21 "BoardNotation" "board" "LBoardNotation$Board;", Cond.methodLink RX5 148 yX5_turn, Cond.instanceMethod yX5_turn, Cond.selects RX5 yX5_turn yX5_turn, Cond.code yX5_turn cX5_turn 1 (some .int), Cond.fieldLink RX5 28 "BoardNotation" "tree" "LBoardNotation$Tree;", Cond.fieldLink RX5 56 "BoardNotation" "present" "I", Cond.methodLink RX5 276 yX4_depth, Cond.instanceMethod yX4_depth, Cond.selects RX4 yX4_depth yX4_depth, Cond.initialized RX4]
def wsX5_write_r2 : List Cond := [Cond.code yX4_depth cX4_depth 2 (some .int), Cond.fieldLink RX4 24 "BoardNotation$Tree" "depth" "[I", Cond.methodLink RX4 44 yX4_has, Cond.instanceMethod yX4_has, Cond.selects RX4 yX4_has yX4_has, Cond.code yX4_has cX4_has 2 (some .boolean), Cond.fieldLink RX4 36 "BoardNotation$Tree" "size" "I", Cond.methodLink RX5 279 yX0_isOf, Cond.instanceMethod yX0_isOf, Cond.selects RX0 yX0_isOf yX0_isOf, Cond.initialized RX0, Cond.code yX0_isOf cX0_isOf 3 (some .boolean), Cond.methodLink RX0 33 yX0_isTaken, Cond.instanceMethod yX0_isTaken, Cond.selects RX0 yX0_isTaken yX0_isTaken, Cond.code yX0_isTaken cX0_isTaken 2 (some .boolean), Cond.methodLink RX0 29 yX0_pieceOn, Cond.instanceMethod yX0_pieceOn, Cond.selects RX0 yX0_pieceOn yX0_pieceOn, Cond.code yX0_pieceOn cX0_pieceOn 2 (some .int), Cond.fieldLink RX0 9 "BoardNotation$Board" "pieces" "[I", Cond.methodLink RX5 282 yX0_reaches, Cond.instanceMethod yX0_reaches, Cond.selects RX0 yX0_reaches yX0_reaches]
def wsX5_write_r3 : List Cond := [Cond.code yX0_reaches cX0_reaches 3 (some .boolean), Cond.methodLink RX0 36 yX0_reachedFrom, Cond.instanceMethod yX0_reachedFrom, Cond.selects RX0 yX0_reachedFrom yX0_reachedFrom, Cond.code yX0_reachedFrom cX0_reachedFrom 16 (some .long), Cond.fieldLink RX0 15 "BoardNotation$Board" "kinds" "LBoardNotation$Kinds;", Cond.methodLink RX5 285 yX0_keepsRoyalsSafe, Cond.instanceMethod yX0_keepsRoyalsSafe, Cond.selects RX0 yX0_keepsRoyalsSafe yX0_keepsRoyalsSafe, Cond.code yX0_keepsRoyalsSafe cX0_keepsRoyalsSafe 6 (some .boolean), Cond.methodLink RX0 61 yX0_move, Cond.instanceMethod yX0_move, Cond.selects RX0 yX0_move yX0_move, Cond.code yX0_move cX0_move 4 (some .int), Cond.methodLink RX0 65 yX0_inCheck, Cond.instanceMethod yX0_inCheck, Cond.selects RX0 yX0_inCheck yX0_inCheck, Cond.code yX0_inCheck cX0_inCheck 6 (some .boolean), Cond.methodLink RX0 58 yX0_royalsOf, Cond.instanceMethod yX0_royalsOf, Cond.selects RX0 yX0_royalsOf yX0_royalsOf, Cond.code yX0_royalsOf cX0_royalsOf 5 (some .long), Cond.methodLink RX0 68 yX0_takeBack, Cond.instanceMethod yX0_takeBack]
def wsX5_write_r4 : List Cond := [Cond.selects RX0 yX0_takeBack yX0_takeBack, Cond.code yX0_takeBack cX0_takeBack 4 none, Cond.methodLink RX5 187 yX3_wipe, Cond.instanceMethod yX3_wipe, Cond.selects RX3 yX3_wipe yX3_wipe, Cond.initialized RX3, Cond.code yX3_wipe cX3_wipe 1 none, Cond.fieldLink RX3 15 "BoardNotation$Text" "size" "I", Cond.fieldLink RX3 19 "BoardNotation$Text" "spilled" "Z", Cond.methodLink RX5 198 yX5_writeMove, Cond.instanceMethod yX5_writeMove, Cond.selects RX5 yX5_writeMove yX5_writeMove, Cond.code yX5_writeMove cX5_writeMove 6 none, Cond.fieldLink RX5 12 "BoardNotation" "kinds" "LBoardNotation$Kinds;", Cond.methodLink RX5 145 yX0_pieceOn, Cond.methodLink RX5 350 yX1_letter, Cond.instanceMethod yX1_letter, Cond.selects RX1 yX1_letter yX1_letter, Cond.initialized RX1, Cond.code yX1_letter cX1_letter 2 (some .int), Cond.fieldLink RX1 9 "BoardNotation$Kinds" "letters" "[I", Cond.methodLink RX1 31 yX1_has, Cond.instanceMethod yX1_has, Cond.selects RX1 yX1_has yX1_has]
def wsX5_write_r5 : List Cond := [Cond.code yX1_has cX1_has 2 (some .boolean), Cond.fieldLink RX1 27 "BoardNotation$Kinds" "size" "I", Cond.methodLink RX5 180 yX3_append, Cond.instanceMethod yX3_append, Cond.selects RX3 yX3_append yX3_append, Cond.code yX3_append cX3_append 2 none, Cond.fieldLink RX3 9 "BoardNotation$Text" "bytes" "[I", Cond.methodLink RX5 352 yX5_writeOrigin, Cond.instanceMethod yX5_writeOrigin, Cond.selects RX5 yX5_writeOrigin yX5_writeOrigin, Cond.code yX5_writeOrigin cX5_writeOrigin 9 none, Cond.methodLink RX5 341 yX0_isTaken, Cond.methodLink RX5 347 yX0_signBehind, Cond.instanceMethod yX0_signBehind, Cond.selects RX0 yX0_signBehind yX0_signBehind, Cond.code yX0_signBehind cX0_signBehind 6 (some .int), Cond.methodLink RX0 76 yX0_countLegalMoves, Cond.instanceMethod yX0_countLegalMoves, Cond.selects RX0 yX0_countLegalMoves yX0_countLegalMoves, Cond.code yX0_countLegalMoves cX0_countLegalMoves 8 (some .int), Cond.methodLink RX0 72 yX0_keepsRoyalsSafe, Cond.methodLink RX5 157 yX3_size, Cond.instanceMethod yX3_size, Cond.selects RX3 yX3_size yX3_size]
def wsX5_write_r6 : List Cond := [Cond.code yX3_size cX3_size 1 (some .int)]
def wsX5_write : List Cond := .code yX5_write cX5_write 3 (some .int) :: ((wsX5_write_r1 ++ (wsX5_write_r2 ++ (wsX5_write_r3 ++ (wsX5_write_r4 ++ (wsX5_write_r5 ++ wsX5_write_r6))))) ++ wsX50 ++ wsX40 ++ wsX00 ++ wsX10 ++ wsX30 ++ (vx_atS RX5 114 "java/lang/IndexOutOfBoundsException" ["java/lang/RuntimeException", "java/lang/Exception"]).filter goodWord ++ (vx_atS RX5 102 "java/lang/IllegalStateException" ["java/lang/RuntimeException", "java/lang/Exception"]).filter goodWord)
def wsX5_byteAt : List Cond := .code yX5_byteAt cX5_byteAt 2 (some .int) :: ([.classLink RX5 110 "java/lang/IndexOutOfBoundsException", .initialized "java/lang/IndexOutOfBoundsException", .fieldLink RX5 49 "BoardNotation" "tape" "LBoardNotation$Text;", .methodLink RX5 157 yX3_size, .instanceMethod yX3_size, .selects RX3 yX3_size yX3_size, .initialized RX3, .code yX3_size cX3_size 1 (some .int), .fieldLink RX3 15 "BoardNotation$Text" "size" "I", .methodLink RX5 204 yX3_get, .instanceMethod yX3_get, .selects RX3 yX3_get yX3_get, .code yX3_get cX3_get 2 (some .int), .fieldLink RX3 9 "BoardNotation$Text" "bytes" "[I"] ++ wsX50 ++ wsX30 ++ (vx_atS RX5 114 "java/lang/IndexOutOfBoundsException" ["java/lang/RuntimeException", "java/lang/Exception"]).filter goodWord)
def wsX5_node_r1 : List Cond := [Cond.classLink RX5 110 "java/lang/IndexOutOfBoundsException", Cond.initialized "java/lang/IndexOutOfBoundsException", Cond.fieldLink RX5 28 "BoardNotation" "tree" "LBoardNotation$Tree;", Cond.methodLink RX5 207 yX4_has, Cond.instanceMethod yX4_has, Cond.selects RX4 yX4_has yX4_has, Cond.initialized RX4, Cond.code yX4_has cX4_has 2 (some .boolean), Cond.fieldLink RX4 36 "BoardNotation$Tree" "size" "I", Cond.methodLink RX5 210 yX4_fact, Cond.instanceMethod yX4_fact, Cond.selects RX4 yX4_fact yX4_fact, Cond.code yX4_fact cX4_fact 3 (some .int), Cond.methodLink RX4 48 yX4_above, Cond.instanceMethod yX4_above, Cond.selects RX4 yX4_above yX4_above, Cond.code yX4_above cX4_above 2 (some .int), Cond.fieldLink RX4 9 "BoardNotation$Tree" "above" "[I", Cond.methodLink RX4 44 yX4_has, Cond.methodLink RX4 51 yX4_from, Cond.instanceMethod yX4_from, Cond.selects RX4 yX4_from yX4_from, Cond.code yX4_from cX4_from 2 (some .int), Cond.fieldLink RX4 15 "BoardNotation$Tree" "from" "[I"]
def wsX5_node_r2 : List Cond := [Cond.methodLink RX4 53 yX4_to, Cond.instanceMethod yX4_to, Cond.selects RX4 yX4_to yX4_to, Cond.code yX4_to cX4_to 2 (some .int), Cond.fieldLink RX4 18 "BoardNotation$Tree" "to" "[I", Cond.methodLink RX4 55 yX4_depth, Cond.instanceMethod yX4_depth, Cond.selects RX4 yX4_depth yX4_depth, Cond.code yX4_depth cX4_depth 2 (some .int), Cond.fieldLink RX4 24 "BoardNotation$Tree" "depth" "[I", Cond.methodLink RX4 57 yX4_childCount, Cond.instanceMethod yX4_childCount, Cond.selects RX4 yX4_childCount yX4_childCount, Cond.code yX4_childCount cX4_childCount 2 (some .int), Cond.fieldLink RX4 27 "BoardNotation$Tree" "childCount" "[I"]
def wsX5_node : List Cond := .code yX5_node cX5_node 3 (some .int) :: ((wsX5_node_r1 ++ wsX5_node_r2) ++ wsX50 ++ wsX40 ++ (vx_atS RX5 114 "java/lang/IndexOutOfBoundsException" ["java/lang/RuntimeException", "java/lang/Exception"]).filter goodWord)
def wsX5_continuation : List Cond := .code yX5_continuation cX5_continuation 3 (some .int) :: ([.classLink RX5 110 "java/lang/IndexOutOfBoundsException", .initialized "java/lang/IndexOutOfBoundsException", .fieldLink RX5 28 "BoardNotation" "tree" "LBoardNotation$Tree;", .methodLink RX5 207 yX4_has, .instanceMethod yX4_has, .selects RX4 yX4_has yX4_has, .initialized RX4, .code yX4_has cX4_has 2 (some .boolean), .fieldLink RX4 36 "BoardNotation$Tree" "size" "I", .methodLink RX5 213 yX4_childCount, .instanceMethod yX4_childCount, .selects RX4 yX4_childCount yX4_childCount, .code yX4_childCount cX4_childCount 2 (some .int), .fieldLink RX4 27 "BoardNotation$Tree" "childCount" "[I", .methodLink RX4 44 yX4_has, .methodLink RX5 218 yX4_child, .instanceMethod yX4_child, .selects RX4 yX4_child yX4_child, .code yX4_child cX4_child 5 (some .int), .fieldLink RX4 30 "BoardNotation$Tree" "firstChild" "[I", .fieldLink RX4 33 "BoardNotation$Tree" "nextBeside" "[I"] ++ wsX50 ++ wsX40 ++ (vx_atS RX5 114 "java/lang/IndexOutOfBoundsException" ["java/lang/RuntimeException", "java/lang/Exception"]).filter goodWord)
def wsX5_stepUp_r1 : List Cond := [Cond.fieldLink RX5 56 "BoardNotation" "present" "I", Cond.fieldLink RX5 21 "BoardNotation" "board" "LBoardNotation$Board;", Cond.fieldLink RX5 28 "BoardNotation" "tree" "LBoardNotation$Tree;", Cond.methodLink RX5 237 yX4_from, Cond.instanceMethod yX4_from, Cond.selects RX4 yX4_from yX4_from, Cond.initialized RX4, Cond.code yX4_from cX4_from 2 (some .int), Cond.fieldLink RX4 15 "BoardNotation$Tree" "from" "[I", Cond.methodLink RX4 44 yX4_has, Cond.instanceMethod yX4_has, Cond.selects RX4 yX4_has yX4_has, Cond.code yX4_has cX4_has 2 (some .boolean), Cond.fieldLink RX4 36 "BoardNotation$Tree" "size" "I", Cond.methodLink RX5 240 yX4_to, Cond.instanceMethod yX4_to, Cond.selects RX4 yX4_to yX4_to, Cond.code yX4_to cX4_to 2 (some .int), Cond.fieldLink RX4 18 "BoardNotation$Tree" "to" "[I", Cond.methodLink RX5 295 yX4_taken, Cond.instanceMethod yX4_taken, Cond.selects RX4 yX4_taken yX4_taken, Cond.code yX4_taken cX4_taken 2 (some .int), Cond.fieldLink RX4 21 "BoardNotation$Tree" "taken" "[I"]
def wsX5_stepUp_r2 : List Cond := [Cond.methodLink RX5 298 yX0_takeBack, Cond.instanceMethod yX0_takeBack, Cond.selects RX0 yX0_takeBack yX0_takeBack, Cond.initialized RX0, Cond.code yX0_takeBack cX0_takeBack 4 none, Cond.fieldLink RX0 9 "BoardNotation$Board" "pieces" "[I", Cond.static yX5_isSquare, Cond.initialized RX5, Cond.code yX5_isSquare cX5_isSquare 1 (some .boolean), Cond.methodLink RX5 302 yX4_above, Cond.instanceMethod yX4_above, Cond.selects RX4 yX4_above yX4_above, Cond.code yX4_above cX4_above 2 (some .int), Cond.fieldLink RX4 9 "BoardNotation$Tree" "above" "[I"]
def wsX5_stepUp : List Cond := .code yX5_stepUp cX5_stepUp 1 none :: ((wsX5_stepUp_r1 ++ wsX5_stepUp_r2) ++ wsX50 ++ wsX40 ++ wsX00)
def wsX5_visit_r1 : List Cond := [Cond.fieldLink RX5 28 "BoardNotation" "tree" "LBoardNotation$Tree;", Cond.fieldLink RX5 56 "BoardNotation" "present" "I", Cond.fieldLink RX5 39 "BoardNotation" "path" "[I", Cond.methodLink RX5 308 Lib.Math.min.name, Cond.static Lib.Math.min.name, Cond.initialized "java/lang/Math", Cond.code Lib.Math.min.name Lib.Math.min.code 2 (some .int), Cond.methodLink RX5 276 yX4_depth, Cond.instanceMethod yX4_depth, Cond.selects RX4 yX4_depth yX4_depth, Cond.initialized RX4, Cond.code yX4_depth cX4_depth 2 (some .int), Cond.fieldLink RX4 24 "BoardNotation$Tree" "depth" "[I", Cond.methodLink RX4 44 yX4_has, Cond.instanceMethod yX4_has, Cond.selects RX4 yX4_has yX4_has, Cond.code yX4_has cX4_has 2 (some .boolean), Cond.fieldLink RX4 36 "BoardNotation$Tree" "size" "I", Cond.methodLink RX5 305 yX5_stepUp, Cond.instanceMethod yX5_stepUp, Cond.selects RX5 yX5_stepUp yX5_stepUp, Cond.initialized RX5, Cond.code yX5_stepUp cX5_stepUp 1 none, Cond.fieldLink RX5 21 "BoardNotation" "board" "LBoardNotation$Board;"]
def wsX5_visit_r2 : List Cond := [Cond.methodLink RX5 237 yX4_from, Cond.instanceMethod yX4_from, Cond.selects RX4 yX4_from yX4_from, Cond.code yX4_from cX4_from 2 (some .int), Cond.fieldLink RX4 15 "BoardNotation$Tree" "from" "[I", Cond.methodLink RX5 240 yX4_to, Cond.instanceMethod yX4_to, Cond.selects RX4 yX4_to yX4_to, Cond.code yX4_to cX4_to 2 (some .int), Cond.fieldLink RX4 18 "BoardNotation$Tree" "to" "[I", Cond.methodLink RX5 295 yX4_taken, Cond.instanceMethod yX4_taken, Cond.selects RX4 yX4_taken yX4_taken, Cond.code yX4_taken cX4_taken 2 (some .int), Cond.fieldLink RX4 21 "BoardNotation$Tree" "taken" "[I", Cond.methodLink RX5 298 yX0_takeBack, Cond.instanceMethod yX0_takeBack, Cond.selects RX0 yX0_takeBack yX0_takeBack, Cond.initialized RX0, Cond.code yX0_takeBack cX0_takeBack 4 none, Cond.fieldLink RX0 9 "BoardNotation$Board" "pieces" "[I", Cond.static yX5_isSquare, Cond.code yX5_isSquare cX5_isSquare 1 (some .boolean), Cond.methodLink RX5 302 yX4_above]
def wsX5_visit_r3 : List Cond := [Cond.instanceMethod yX4_above, Cond.selects RX4 yX4_above yX4_above, Cond.code yX4_above cX4_above 2 (some .int), Cond.fieldLink RX4 9 "BoardNotation$Tree" "above" "[I", Cond.methodLink RX5 313 yX5_stepDown, Cond.instanceMethod yX5_stepDown, Cond.selects RX5 yX5_stepDown yX5_stepDown, Cond.code yX5_stepDown cX5_stepDown 2 none, Cond.methodLink RX5 288 yX0_move, Cond.instanceMethod yX0_move, Cond.selects RX0 yX0_move yX0_move, Cond.code yX0_move cX0_move 4 (some .int), Cond.methodLink RX5 291 yX4_keepTaken, Cond.instanceMethod yX4_keepTaken, Cond.selects RX4 yX4_keepTaken yX4_keepTaken, Cond.code yX4_keepTaken cX4_keepTaken 3 none]
def wsX5_visit : List Cond := .code yX5_visit cX5_visit 5 none :: ((wsX5_visit_r1 ++ (wsX5_visit_r2 ++ wsX5_visit_r3)) ++ wsX50 ++ wsX40 ++ wsX00)
def wsX5_goTo_r1 : List Cond := [Cond.classLink RX5 110 "java/lang/IndexOutOfBoundsException", Cond.initialized "java/lang/IndexOutOfBoundsException", Cond.fieldLink RX5 28 "BoardNotation" "tree" "LBoardNotation$Tree;", Cond.methodLink RX5 207 yX4_has, Cond.instanceMethod yX4_has, Cond.selects RX4 yX4_has yX4_has, Cond.initialized RX4, Cond.code yX4_has cX4_has 2 (some .boolean), Cond.fieldLink RX4 36 "BoardNotation$Tree" "size" "I", Cond.methodLink RX5 223 yX5_visit, Cond.instanceMethod yX5_visit, Cond.selects RX5 yX5_visit yX5_visit, Cond.initialized RX5, Cond.code yX5_visit cX5_visit 5 none, Cond.fieldLink RX5 56 "BoardNotation" "present" "I", Cond.fieldLink RX5 39 "BoardNotation" "path" "[I", Cond.methodLink RX5 308 Lib.Math.min.name, Cond.static Lib.Math.min.name, Cond.initialized "java/lang/Math", Cond.code Lib.Math.min.name Lib.Math.min.code 2 (some .int), Cond.methodLink RX5 276 yX4_depth, Cond.instanceMethod yX4_depth, Cond.selects RX4 yX4_depth yX4_depth, Cond.code yX4_depth cX4_depth 2 (some .int)]
def wsX5_goTo_r2 : List Cond := [Cond.fieldLink RX4 24 "BoardNotation$Tree" "depth" "[I", Cond.methodLink RX4 44 yX4_has, Cond.methodLink RX5 305 yX5_stepUp, Cond.instanceMethod yX5_stepUp, Cond.selects RX5 yX5_stepUp yX5_stepUp, Cond.code yX5_stepUp cX5_stepUp 1 none, Cond.fieldLink RX5 21 "BoardNotation" "board" "LBoardNotation$Board;", Cond.methodLink RX5 237 yX4_from, Cond.instanceMethod yX4_from, Cond.selects RX4 yX4_from yX4_from, Cond.code yX4_from cX4_from 2 (some .int), Cond.fieldLink RX4 15 "BoardNotation$Tree" "from" "[I", Cond.methodLink RX5 240 yX4_to, Cond.instanceMethod yX4_to, Cond.selects RX4 yX4_to yX4_to, Cond.code yX4_to cX4_to 2 (some .int), Cond.fieldLink RX4 18 "BoardNotation$Tree" "to" "[I", Cond.methodLink RX5 295 yX4_taken, Cond.instanceMethod yX4_taken, Cond.selects RX4 yX4_taken yX4_taken, Cond.code yX4_taken cX4_taken 2 (some .int), Cond.fieldLink RX4 21 "BoardNotation$Tree" "taken" "[I", Cond.methodLink RX5 298 yX0_takeBack, Cond.instanceMethod yX0_takeBack]
def wsX5_goTo_r3 : List Cond := [Cond.selects RX0 yX0_takeBack yX0_takeBack, Cond.initialized RX0, Cond.code yX0_takeBack cX0_takeBack 4 none, Cond.fieldLink RX0 9 "BoardNotation$Board" "pieces" "[I", Cond.static yX5_isSquare, Cond.code yX5_isSquare cX5_isSquare 1 (some .boolean), Cond.methodLink RX5 302 yX4_above, Cond.instanceMethod yX4_above, Cond.selects RX4 yX4_above yX4_above, Cond.code yX4_above cX4_above 2 (some .int), Cond.fieldLink RX4 9 "BoardNotation$Tree" "above" "[I", Cond.methodLink RX5 313 yX5_stepDown, Cond.instanceMethod yX5_stepDown, Cond.selects RX5 yX5_stepDown yX5_stepDown, Cond.code yX5_stepDown cX5_stepDown 2 none, Cond.methodLink RX5 288 yX0_move, Cond.instanceMethod yX0_move, Cond.selects RX0 yX0_move yX0_move, Cond.code yX0_move cX0_move 4 (some .int), Cond.methodLink RX5 291 yX4_keepTaken, Cond.instanceMethod yX4_keepTaken, Cond.selects RX4 yX4_keepTaken yX4_keepTaken, Cond.code yX4_keepTaken cX4_keepTaken 3 none, Cond.methodLink RX5 148 yX5_turn]
def wsX5_goTo_r4 : List Cond := [Cond.instanceMethod yX5_turn, Cond.selects RX5 yX5_turn yX5_turn, Cond.code yX5_turn cX5_turn 1 (some .int)]
def wsX5_goTo : List Cond := .code yX5_goTo cX5_goTo 2 (some .int) :: ((wsX5_goTo_r1 ++ (wsX5_goTo_r2 ++ (wsX5_goTo_r3 ++ wsX5_goTo_r4))) ++ wsX50 ++ wsX40 ++ wsX00 ++ (vx_atS RX5 114 "java/lang/IndexOutOfBoundsException" ["java/lang/RuntimeException", "java/lang/Exception"]).filter goodWord)
def wsX5_promote_r1 : List Cond := [Cond.classLink RX5 110 "java/lang/IndexOutOfBoundsException", Cond.initialized "java/lang/IndexOutOfBoundsException", Cond.fieldLink RX5 28 "BoardNotation" "tree" "LBoardNotation$Tree;", Cond.methodLink RX5 207 yX4_has, Cond.instanceMethod yX4_has, Cond.selects RX4 yX4_has yX4_has, Cond.initialized RX4, Cond.code yX4_has cX4_has 2 (some .boolean), Cond.fieldLink RX4 36 "BoardNotation$Tree" "size" "I", Cond.methodLink RX5 228 yX4_makeMain, Cond.instanceMethod yX4_makeMain, Cond.selects RX4 yX4_makeMain yX4_makeMain, Cond.code yX4_makeMain cX4_makeMain 5 (some .int), Cond.fieldLink RX4 33 "BoardNotation$Tree" "nextBeside" "[I", Cond.fieldLink RX4 30 "BoardNotation$Tree" "firstChild" "[I", Cond.methodLink RX4 63 yX4_placeOf, Cond.instanceMethod yX4_placeOf, Cond.selects RX4 yX4_placeOf yX4_placeOf, Cond.code yX4_placeOf cX4_placeOf 4 (some .int), Cond.methodLink RX4 48 yX4_above, Cond.instanceMethod yX4_above, Cond.selects RX4 yX4_above yX4_above, Cond.code yX4_above cX4_above 2 (some .int), Cond.fieldLink RX4 9 "BoardNotation$Tree" "above" "[I"]
def wsX5_promote_r2 : List Cond := [Cond.methodLink RX4 44 yX4_has, Cond.methodLink RX4 59 yX4_child, Cond.instanceMethod yX4_child, Cond.selects RX4 yX4_child yX4_child, Cond.code yX4_child cX4_child 5 (some .int), Cond.fieldLink RX4 27 "BoardNotation$Tree" "childCount" "[I", Cond.methodLink RX4 57 yX4_childCount, Cond.instanceMethod yX4_childCount, Cond.selects RX4 yX4_childCount yX4_childCount, Cond.code yX4_childCount cX4_childCount 2 (some .int)]
def wsX5_promote : List Cond := .code yX5_promote cX5_promote 2 (some .int) :: ((wsX5_promote_r1 ++ wsX5_promote_r2) ++ wsX50 ++ wsX40 ++ (vx_atS RX5 114 "java/lang/IndexOutOfBoundsException" ["java/lang/RuntimeException", "java/lang/Exception"]).filter goodWord)
def wsX5_writeOpening : List Cond := .code yX5_writeOpening cX5_writeOpening 2 none :: ([.fieldLink RX5 53 "BoardNotation" "draft" "LBoardNotation$Text;", .methodLink RX5 234 yX3_separate, .instanceMethod yX3_separate, .selects RX3 yX3_separate yX3_separate, .initialized RX3, .code yX3_separate cX3_separate 1 none, .fieldLink RX3 15 "BoardNotation$Text" "size" "I", .methodLink RX3 23 yX3_get, .instanceMethod yX3_get, .selects RX3 yX3_get yX3_get, .code yX3_get cX3_get 2 (some .int), .fieldLink RX3 9 "BoardNotation$Text" "bytes" "[I", .methodLink RX3 27 yX3_append, .instanceMethod yX3_append, .selects RX3 yX3_append yX3_append, .code yX3_append cX3_append 2 none, .fieldLink RX3 19 "BoardNotation$Text" "spilled" "Z", .methodLink RX5 180 yX3_append] ++ wsX50 ++ wsX30)
def wsX5_leaveLine_r1 : List Cond := [Cond.fieldLink RX5 28 "BoardNotation" "tree" "LBoardNotation$Tree;", Cond.fieldLink RX5 56 "BoardNotation" "present" "I", Cond.fieldLink RX5 53 "BoardNotation" "draft" "LBoardNotation$Text;", Cond.methodLink RX5 276 yX4_depth, Cond.instanceMethod yX4_depth, Cond.selects RX4 yX4_depth yX4_depth, Cond.initialized RX4, Cond.code yX4_depth cX4_depth 2 (some .int), Cond.fieldLink RX4 24 "BoardNotation$Tree" "depth" "[I", Cond.methodLink RX4 44 yX4_has, Cond.instanceMethod yX4_has, Cond.selects RX4 yX4_has yX4_has, Cond.code yX4_has cX4_has 2 (some .boolean), Cond.fieldLink RX4 36 "BoardNotation$Tree" "size" "I", Cond.methodLink RX5 359 yX4_placeOf, Cond.instanceMethod yX4_placeOf, Cond.selects RX4 yX4_placeOf yX4_placeOf, Cond.code yX4_placeOf cX4_placeOf 4 (some .int), Cond.fieldLink RX4 33 "BoardNotation$Tree" "nextBeside" "[I", Cond.methodLink RX4 48 yX4_above, Cond.instanceMethod yX4_above, Cond.selects RX4 yX4_above yX4_above, Cond.code yX4_above cX4_above 2 (some .int), Cond.fieldLink RX4 9 "BoardNotation$Tree" "above" "[I"]
def wsX5_leaveLine_r2 : List Cond := [Cond.methodLink RX4 59 yX4_child, Cond.instanceMethod yX4_child, Cond.selects RX4 yX4_child yX4_child, Cond.code yX4_child cX4_child 5 (some .int), Cond.fieldLink RX4 27 "BoardNotation$Tree" "childCount" "[I", Cond.fieldLink RX4 30 "BoardNotation$Tree" "firstChild" "[I", Cond.methodLink RX4 57 yX4_childCount, Cond.instanceMethod yX4_childCount, Cond.selects RX4 yX4_childCount yX4_childCount, Cond.code yX4_childCount cX4_childCount 2 (some .int), Cond.methodLink RX5 305 yX5_stepUp, Cond.instanceMethod yX5_stepUp, Cond.selects RX5 yX5_stepUp yX5_stepUp, Cond.initialized RX5, Cond.code yX5_stepUp cX5_stepUp 1 none, Cond.fieldLink RX5 21 "BoardNotation" "board" "LBoardNotation$Board;", Cond.methodLink RX5 237 yX4_from, Cond.instanceMethod yX4_from, Cond.selects RX4 yX4_from yX4_from, Cond.code yX4_from cX4_from 2 (some .int), Cond.fieldLink RX4 15 "BoardNotation$Tree" "from" "[I", Cond.methodLink RX5 240 yX4_to, Cond.instanceMethod yX4_to, Cond.selects RX4 yX4_to yX4_to]
def wsX5_leaveLine_r3 : List Cond := [Cond.code yX4_to cX4_to 2 (some .int), Cond.fieldLink RX4 18 "BoardNotation$Tree" "to" "[I", Cond.methodLink RX5 295 yX4_taken, Cond.instanceMethod yX4_taken, Cond.selects RX4 yX4_taken yX4_taken, Cond.code yX4_taken cX4_taken 2 (some .int), Cond.fieldLink RX4 21 "BoardNotation$Tree" "taken" "[I", Cond.methodLink RX5 298 yX0_takeBack, Cond.instanceMethod yX0_takeBack, Cond.selects RX0 yX0_takeBack yX0_takeBack, Cond.initialized RX0, Cond.code yX0_takeBack cX0_takeBack 4 none, Cond.fieldLink RX0 9 "BoardNotation$Board" "pieces" "[I", Cond.static yX5_isSquare, Cond.code yX5_isSquare cX5_isSquare 1 (some .boolean), Cond.methodLink RX5 302 yX4_above, Cond.methodLink RX5 180 yX3_append, Cond.instanceMethod yX3_append, Cond.selects RX3 yX3_append yX3_append, Cond.initialized RX3, Cond.code yX3_append cX3_append 2 none, Cond.fieldLink RX3 15 "BoardNotation$Text" "size" "I", Cond.fieldLink RX3 9 "BoardNotation$Text" "bytes" "[I", Cond.fieldLink RX3 19 "BoardNotation$Text" "spilled" "Z"]
def wsX5_leaveLine : List Cond := .code yX5_leaveLine cX5_leaveLine 3 (some .int) :: ((wsX5_leaveLine_r1 ++ (wsX5_leaveLine_r2 ++ wsX5_leaveLine_r3)) ++ wsX50 ++ wsX40 ++ wsX00 ++ wsX30)
def wsX5_goOn_r1 : List Cond := [Cond.fieldLink RX5 28 "BoardNotation" "tree" "LBoardNotation$Tree;", Cond.fieldLink RX5 56 "BoardNotation" "present" "I", Cond.methodLink RX5 218 yX4_child, Cond.instanceMethod yX4_child, Cond.selects RX4 yX4_child yX4_child, Cond.initialized RX4, Cond.code yX4_child cX4_child 5 (some .int), Cond.fieldLink RX4 27 "BoardNotation$Tree" "childCount" "[I", Cond.fieldLink RX4 30 "BoardNotation$Tree" "firstChild" "[I", Cond.fieldLink RX4 33 "BoardNotation$Tree" "nextBeside" "[I", Cond.methodLink RX4 44 yX4_has, Cond.instanceMethod yX4_has, Cond.selects RX4 yX4_has yX4_has, Cond.code yX4_has cX4_has 2 (some .boolean), Cond.fieldLink RX4 36 "BoardNotation$Tree" "size" "I", Cond.methodLink RX5 356 yX5_leaveLine, Cond.instanceMethod yX5_leaveLine, Cond.selects RX5 yX5_leaveLine yX5_leaveLine, Cond.initialized RX5, Cond.code yX5_leaveLine cX5_leaveLine 3 (some .int), Cond.fieldLink RX5 53 "BoardNotation" "draft" "LBoardNotation$Text;", Cond.methodLink RX5 276 yX4_depth, Cond.instanceMethod yX4_depth, Cond.selects RX4 yX4_depth yX4_depth]
def wsX5_goOn_r2 : List Cond := [Cond.code yX4_depth cX4_depth 2 (some .int), Cond.fieldLink RX4 24 "BoardNotation$Tree" "depth" "[I", Cond.methodLink RX5 359 yX4_placeOf, Cond.instanceMethod yX4_placeOf, Cond.selects RX4 yX4_placeOf yX4_placeOf, Cond.code yX4_placeOf cX4_placeOf 4 (some .int), Cond.methodLink RX4 48 yX4_above, Cond.instanceMethod yX4_above, Cond.selects RX4 yX4_above yX4_above, Cond.code yX4_above cX4_above 2 (some .int), Cond.fieldLink RX4 9 "BoardNotation$Tree" "above" "[I", Cond.methodLink RX4 59 yX4_child, Cond.methodLink RX4 57 yX4_childCount, Cond.instanceMethod yX4_childCount, Cond.selects RX4 yX4_childCount yX4_childCount, Cond.code yX4_childCount cX4_childCount 2 (some .int), Cond.methodLink RX5 305 yX5_stepUp, Cond.instanceMethod yX5_stepUp, Cond.selects RX5 yX5_stepUp yX5_stepUp, Cond.code yX5_stepUp cX5_stepUp 1 none, Cond.fieldLink RX5 21 "BoardNotation" "board" "LBoardNotation$Board;", Cond.methodLink RX5 237 yX4_from, Cond.instanceMethod yX4_from, Cond.selects RX4 yX4_from yX4_from]
def wsX5_goOn_r3 : List Cond := [Cond.code yX4_from cX4_from 2 (some .int), Cond.fieldLink RX4 15 "BoardNotation$Tree" "from" "[I", Cond.methodLink RX5 240 yX4_to, Cond.instanceMethod yX4_to, Cond.selects RX4 yX4_to yX4_to, Cond.code yX4_to cX4_to 2 (some .int), Cond.fieldLink RX4 18 "BoardNotation$Tree" "to" "[I", Cond.methodLink RX5 295 yX4_taken, Cond.instanceMethod yX4_taken, Cond.selects RX4 yX4_taken yX4_taken, Cond.code yX4_taken cX4_taken 2 (some .int), Cond.fieldLink RX4 21 "BoardNotation$Tree" "taken" "[I", Cond.methodLink RX5 298 yX0_takeBack, Cond.instanceMethod yX0_takeBack, Cond.selects RX0 yX0_takeBack yX0_takeBack, Cond.initialized RX0, Cond.code yX0_takeBack cX0_takeBack 4 none, Cond.fieldLink RX0 9 "BoardNotation$Board" "pieces" "[I", Cond.static yX5_isSquare, Cond.code yX5_isSquare cX5_isSquare 1 (some .boolean), Cond.methodLink RX5 302 yX4_above, Cond.methodLink RX5 180 yX3_append, Cond.instanceMethod yX3_append, Cond.selects RX3 yX3_append yX3_append]
def wsX5_goOn_r4 : List Cond := [Cond.initialized RX3, Cond.code yX3_append cX3_append 2 none, Cond.fieldLink RX3 15 "BoardNotation$Text" "size" "I", Cond.fieldLink RX3 9 "BoardNotation$Text" "bytes" "[I", Cond.fieldLink RX3 19 "BoardNotation$Text" "spilled" "Z", Cond.methodLink RX5 313 yX5_stepDown, Cond.instanceMethod yX5_stepDown, Cond.selects RX5 yX5_stepDown yX5_stepDown, Cond.code yX5_stepDown cX5_stepDown 2 none, Cond.methodLink RX5 288 yX0_move, Cond.instanceMethod yX0_move, Cond.selects RX0 yX0_move yX0_move, Cond.code yX0_move cX0_move 4 (some .int), Cond.methodLink RX5 291 yX4_keepTaken, Cond.instanceMethod yX4_keepTaken, Cond.selects RX4 yX4_keepTaken yX4_keepTaken, Cond.code yX4_keepTaken cX4_keepTaken 3 none]
def wsX5_goOn : List Cond := .code yX5_goOn cX5_goOn 4 (some .int) :: ((wsX5_goOn_r1 ++ (wsX5_goOn_r2 ++ (wsX5_goOn_r3 ++ wsX5_goOn_r4))) ++ wsX50 ++ wsX40 ++ wsX00 ++ wsX30)
def wsX5_writeGame_r1 : List Cond := [Cond.classLink RX5 98 "java/lang/IllegalStateException", Cond.initialized "java/lang/IllegalStateException", Cond.fieldLink RX5 56 "BoardNotation" "present" "I", Cond.fieldLink RX5 53 "BoardNotation" "draft" "LBoardNotation$Text;", Cond.fieldLink RX5 28 "BoardNotation" "tree" "LBoardNotation$Tree;", Cond.fieldLink RX5 49 "BoardNotation" "tape" "LBoardNotation$Text;", Cond.methodLink RX5 223 yX5_visit, Cond.instanceMethod yX5_visit, Cond.selects RX5 yX5_visit yX5_visit, Cond.initialized RX5, Cond.code yX5_visit cX5_visit 5 none, Cond.fieldLink RX5 39 "BoardNotation" "path" "[I", Cond.methodLink RX5 308 Lib.Math.min.name, Cond.static Lib.Math.min.name, Cond.initialized "java/lang/Math", Cond.code Lib.Math.min.name Lib.Math.min.code 2 (some .int), Cond.methodLink RX5 276 yX4_depth, Cond.instanceMethod yX4_depth, Cond.selects RX4 yX4_depth yX4_depth, Cond.initialized RX4, Cond.code yX4_depth cX4_depth 2 (some .int), Cond.fieldLink RX4 24 "BoardNotation$Tree" "depth" "[I", Cond.methodLink RX4 44 yX4_has, Cond.instanceMethod yX4_has]
def wsX5_writeGame_r2 : List Cond := [Cond.selects RX4 yX4_has yX4_has, Cond.code yX4_has cX4_has 2 (some .boolean), Cond.fieldLink RX4 36 "BoardNotation$Tree" "size" "I", Cond.methodLink RX5 305 yX5_stepUp, Cond.instanceMethod yX5_stepUp, Cond.selects RX5 yX5_stepUp yX5_stepUp, Cond.code yX5_stepUp cX5_stepUp 1 none, Cond.fieldLink RX5 21 "BoardNotation" "board" "LBoardNotation$Board;", Cond.methodLink RX5 237 yX4_from, Cond.instanceMethod yX4_from, Cond.selects RX4 yX4_from yX4_from, Cond.code yX4_from cX4_from 2 (some .int), Cond.fieldLink RX4 15 "BoardNotation$Tree" "from" "[I", Cond.methodLink RX5 240 yX4_to, Cond.instanceMethod yX4_to, Cond.selects RX4 yX4_to yX4_to, Cond.code yX4_to cX4_to 2 (some .int), Cond.fieldLink RX4 18 "BoardNotation$Tree" "to" "[I", Cond.methodLink RX5 295 yX4_taken, Cond.instanceMethod yX4_taken, Cond.selects RX4 yX4_taken yX4_taken, Cond.code yX4_taken cX4_taken 2 (some .int), Cond.fieldLink RX4 21 "BoardNotation$Tree" "taken" "[I", Cond.methodLink RX5 298 yX0_takeBack]
def wsX5_writeGame_r3 : List Cond := [Cond.instanceMethod yX0_takeBack, Cond.selects RX0 yX0_takeBack yX0_takeBack, Cond.initialized RX0, Cond.code yX0_takeBack cX0_takeBack 4 none, Cond.fieldLink RX0 9 "BoardNotation$Board" "pieces" "[I", Cond.static yX5_isSquare, Cond.code yX5_isSquare cX5_isSquare 1 (some .boolean), Cond.methodLink RX5 302 yX4_above, Cond.instanceMethod yX4_above, Cond.selects RX4 yX4_above yX4_above, Cond.code yX4_above cX4_above 2 (some .int), Cond.fieldLink RX4 9 "BoardNotation$Tree" "above" "[I", Cond.methodLink RX5 313 yX5_stepDown, Cond.instanceMethod yX5_stepDown, Cond.selects RX5 yX5_stepDown yX5_stepDown, Cond.code yX5_stepDown cX5_stepDown 2 none, Cond.methodLink RX5 288 yX0_move, Cond.instanceMethod yX0_move, Cond.selects RX0 yX0_move yX0_move, Cond.code yX0_move cX0_move 4 (some .int), Cond.methodLink RX5 291 yX4_keepTaken, Cond.instanceMethod yX4_keepTaken, Cond.selects RX4 yX4_keepTaken yX4_keepTaken, Cond.code yX4_keepTaken cX4_keepTaken 3 none]
def wsX5_writeGame_r4 : List Cond := [Cond.methodLink RX5 187 yX3_wipe, Cond.instanceMethod yX3_wipe, Cond.selects RX3 yX3_wipe yX3_wipe, Cond.initialized RX3, Cond.code yX3_wipe cX3_wipe 1 none, Cond.fieldLink RX3 15 "BoardNotation$Text" "size" "I", Cond.fieldLink RX3 19 "BoardNotation$Text" "spilled" "Z", Cond.methodLink RX5 218 yX4_child, Cond.instanceMethod yX4_child, Cond.selects RX4 yX4_child yX4_child, Cond.code yX4_child cX4_child 5 (some .int), Cond.fieldLink RX4 27 "BoardNotation$Tree" "childCount" "[I", Cond.fieldLink RX4 30 "BoardNotation$Tree" "firstChild" "[I", Cond.fieldLink RX4 33 "BoardNotation$Tree" "nextBeside" "[I", Cond.methodLink RX5 231 yX5_writeOpening, Cond.instanceMethod yX5_writeOpening, Cond.selects RX5 yX5_writeOpening yX5_writeOpening, Cond.code yX5_writeOpening cX5_writeOpening 2 none, Cond.methodLink RX5 234 yX3_separate, Cond.instanceMethod yX3_separate, Cond.selects RX3 yX3_separate yX3_separate, Cond.code yX3_separate cX3_separate 1 none, Cond.methodLink RX3 23 yX3_get, Cond.instanceMethod yX3_get]
def wsX5_writeGame_r5 : List Cond := [Cond.selects RX3 yX3_get yX3_get, Cond.code yX3_get cX3_get 2 (some .int), Cond.fieldLink RX3 9 "BoardNotation$Text" "bytes" "[I", Cond.methodLink RX3 27 yX3_append, Cond.instanceMethod yX3_append, Cond.selects RX3 yX3_append yX3_append, Cond.code yX3_append cX3_append 2 none, Cond.methodLink RX5 180 yX3_append, Cond.methodLink RX5 198 yX5_writeMove, Cond.instanceMethod yX5_writeMove, Cond.selects RX5 yX5_writeMove yX5_writeMove, Cond.code yX5_writeMove cX5_writeMove 6 none, Cond.fieldLink RX5 12 "BoardNotation" "kinds" "LBoardNotation$Kinds;", Cond.methodLink RX5 145 yX0_pieceOn, Cond.instanceMethod yX0_pieceOn, Cond.selects RX0 yX0_pieceOn yX0_pieceOn, Cond.code yX0_pieceOn cX0_pieceOn 2 (some .int), Cond.methodLink RX5 350 yX1_letter, Cond.instanceMethod yX1_letter, Cond.selects RX1 yX1_letter yX1_letter, Cond.initialized RX1, Cond.code yX1_letter cX1_letter 2 (some .int), Cond.fieldLink RX1 9 "BoardNotation$Kinds" "letters" "[I", Cond.methodLink RX1 31 yX1_has]
def wsX5_writeGame_r6 : List Cond := [Cond.instanceMethod yX1_has, Cond.selects RX1 yX1_has yX1_has, Cond.code yX1_has cX1_has 2 (some .boolean), Cond.fieldLink RX1 27 "BoardNotation$Kinds" "size" "I", Cond.methodLink RX5 352 yX5_writeOrigin, Cond.instanceMethod yX5_writeOrigin, Cond.selects RX5 yX5_writeOrigin yX5_writeOrigin, Cond.code yX5_writeOrigin cX5_writeOrigin 9 none, Cond.methodLink RX5 282 yX0_reaches, Cond.instanceMethod yX0_reaches, Cond.selects RX0 yX0_reaches yX0_reaches, Cond.code yX0_reaches cX0_reaches 3 (some .boolean), Cond.methodLink RX0 36 yX0_reachedFrom, Cond.instanceMethod yX0_reachedFrom, Cond.selects RX0 yX0_reachedFrom yX0_reachedFrom, Cond.code yX0_reachedFrom cX0_reachedFrom 16 (some .long), Cond.fieldLink RX0 15 "BoardNotation$Board" "kinds" "LBoardNotation$Kinds;", Cond.methodLink RX5 285 yX0_keepsRoyalsSafe, Cond.instanceMethod yX0_keepsRoyalsSafe, Cond.selects RX0 yX0_keepsRoyalsSafe yX0_keepsRoyalsSafe, Cond.code yX0_keepsRoyalsSafe cX0_keepsRoyalsSafe 6 (some .boolean), Cond.methodLink RX0 29 yX0_pieceOn, Cond.methodLink RX0 61 yX0_move, Cond.methodLink RX0 65 yX0_inCheck]
def wsX5_writeGame_r7 : List Cond := [Cond.instanceMethod yX0_inCheck, Cond.selects RX0 yX0_inCheck yX0_inCheck, Cond.code yX0_inCheck cX0_inCheck 6 (some .boolean), Cond.methodLink RX0 58 yX0_royalsOf, Cond.instanceMethod yX0_royalsOf, Cond.selects RX0 yX0_royalsOf yX0_royalsOf, Cond.code yX0_royalsOf cX0_royalsOf 5 (some .long), Cond.methodLink RX0 68 yX0_takeBack, Cond.methodLink RX5 341 yX0_isTaken, Cond.instanceMethod yX0_isTaken, Cond.selects RX0 yX0_isTaken yX0_isTaken, Cond.code yX0_isTaken cX0_isTaken 2 (some .boolean), Cond.methodLink RX5 347 yX0_signBehind, Cond.instanceMethod yX0_signBehind, Cond.selects RX0 yX0_signBehind yX0_signBehind, Cond.code yX0_signBehind cX0_signBehind 6 (some .int), Cond.methodLink RX0 76 yX0_countLegalMoves, Cond.instanceMethod yX0_countLegalMoves, Cond.selects RX0 yX0_countLegalMoves yX0_countLegalMoves, Cond.code yX0_countLegalMoves cX0_countLegalMoves 8 (some .int), Cond.methodLink RX0 72 yX0_keepsRoyalsSafe, Cond.methodLink RX5 243 yX5_goOn, Cond.instanceMethod yX5_goOn, Cond.selects RX5 yX5_goOn yX5_goOn]
def wsX5_writeGame_r8 : List Cond := [Cond.code yX5_goOn cX5_goOn 4 (some .int), Cond.methodLink RX5 356 yX5_leaveLine, Cond.instanceMethod yX5_leaveLine, Cond.selects RX5 yX5_leaveLine yX5_leaveLine, Cond.code yX5_leaveLine cX5_leaveLine 3 (some .int), Cond.methodLink RX5 359 yX4_placeOf, Cond.instanceMethod yX4_placeOf, Cond.selects RX4 yX4_placeOf yX4_placeOf, Cond.code yX4_placeOf cX4_placeOf 4 (some .int), Cond.methodLink RX4 48 yX4_above, Cond.methodLink RX4 59 yX4_child, Cond.methodLink RX4 57 yX4_childCount, Cond.instanceMethod yX4_childCount, Cond.selects RX4 yX4_childCount yX4_childCount, Cond.code yX4_childCount cX4_childCount 2 (some .int), Cond.methodLink RX5 246 yX3_hasSpilled, Cond.instanceMethod yX3_hasSpilled, Cond.selects RX3 yX3_hasSpilled yX3_hasSpilled, Cond.code yX3_hasSpilled cX3_hasSpilled 1 (some .boolean), Cond.methodLink RX5 157 yX3_size, Cond.instanceMethod yX3_size, Cond.selects RX3 yX3_size yX3_size, Cond.code yX3_size cX3_size 1 (some .int)]
def wsX5_writeGame : List Cond := .code yX5_writeGame cX5_writeGame 5 (some .int) :: ((wsX5_writeGame_r1 ++ (wsX5_writeGame_r2 ++ (wsX5_writeGame_r3 ++ (wsX5_writeGame_r4 ++ (wsX5_writeGame_r5 ++ (wsX5_writeGame_r6 ++ (wsX5_writeGame_r7 ++ wsX5_writeGame_r8))))))) ++ wsX50 ++ wsX40 ++ wsX00 ++ wsX30 ++ wsX10 ++ (vx_atS RX5 102 "java/lang/IllegalStateException" ["java/lang/RuntimeException", "java/lang/Exception"]).filter goodWord)
def wsX5_beginAnew_r1 : List Cond := [Cond.fieldLink RX5 28 "BoardNotation" "tree" "LBoardNotation$Tree;", Cond.methodLink RX5 223 yX5_visit, Cond.instanceMethod yX5_visit, Cond.selects RX5 yX5_visit yX5_visit, Cond.initialized RX5, Cond.code yX5_visit cX5_visit 5 none, Cond.fieldLink RX5 56 "BoardNotation" "present" "I", Cond.fieldLink RX5 39 "BoardNotation" "path" "[I", Cond.methodLink RX5 308 Lib.Math.min.name, Cond.static Lib.Math.min.name, Cond.initialized "java/lang/Math", Cond.code Lib.Math.min.name Lib.Math.min.code 2 (some .int), Cond.methodLink RX5 276 yX4_depth, Cond.instanceMethod yX4_depth, Cond.selects RX4 yX4_depth yX4_depth, Cond.initialized RX4, Cond.code yX4_depth cX4_depth 2 (some .int), Cond.fieldLink RX4 24 "BoardNotation$Tree" "depth" "[I", Cond.methodLink RX4 44 yX4_has, Cond.instanceMethod yX4_has, Cond.selects RX4 yX4_has yX4_has, Cond.code yX4_has cX4_has 2 (some .boolean), Cond.fieldLink RX4 36 "BoardNotation$Tree" "size" "I", Cond.methodLink RX5 305 yX5_stepUp]
def wsX5_beginAnew_r2 : List Cond := [Cond.instanceMethod yX5_stepUp, Cond.selects RX5 yX5_stepUp yX5_stepUp, Cond.code yX5_stepUp cX5_stepUp 1 none, Cond.fieldLink RX5 21 "BoardNotation" "board" "LBoardNotation$Board;", Cond.methodLink RX5 237 yX4_from, Cond.instanceMethod yX4_from, Cond.selects RX4 yX4_from yX4_from, Cond.code yX4_from cX4_from 2 (some .int), Cond.fieldLink RX4 15 "BoardNotation$Tree" "from" "[I", Cond.methodLink RX5 240 yX4_to, Cond.instanceMethod yX4_to, Cond.selects RX4 yX4_to yX4_to, Cond.code yX4_to cX4_to 2 (some .int), Cond.fieldLink RX4 18 "BoardNotation$Tree" "to" "[I", Cond.methodLink RX5 295 yX4_taken, Cond.instanceMethod yX4_taken, Cond.selects RX4 yX4_taken yX4_taken, Cond.code yX4_taken cX4_taken 2 (some .int), Cond.fieldLink RX4 21 "BoardNotation$Tree" "taken" "[I", Cond.methodLink RX5 298 yX0_takeBack, Cond.instanceMethod yX0_takeBack, Cond.selects RX0 yX0_takeBack yX0_takeBack, Cond.initialized RX0, Cond.code yX0_takeBack cX0_takeBack 4 none]
def wsX5_beginAnew_r3 : List Cond := [Cond.fieldLink RX0 9 "BoardNotation$Board" "pieces" "[I", Cond.static yX5_isSquare, Cond.code yX5_isSquare cX5_isSquare 1 (some .boolean), Cond.methodLink RX5 302 yX4_above, Cond.instanceMethod yX4_above, Cond.selects RX4 yX4_above yX4_above, Cond.code yX4_above cX4_above 2 (some .int), Cond.fieldLink RX4 9 "BoardNotation$Tree" "above" "[I", Cond.methodLink RX5 313 yX5_stepDown, Cond.instanceMethod yX5_stepDown, Cond.selects RX5 yX5_stepDown yX5_stepDown, Cond.code yX5_stepDown cX5_stepDown 2 none, Cond.methodLink RX5 288 yX0_move, Cond.instanceMethod yX0_move, Cond.selects RX0 yX0_move yX0_move, Cond.code yX0_move cX0_move 4 (some .int), Cond.methodLink RX5 291 yX4_keepTaken, Cond.instanceMethod yX4_keepTaken, Cond.selects RX4 yX4_keepTaken yX4_keepTaken, Cond.code yX4_keepTaken cX4_keepTaken 3 none, Cond.methodLink RX5 316 yX4_cutToRoot, Cond.instanceMethod yX4_cutToRoot, Cond.selects RX4 yX4_cutToRoot yX4_cutToRoot, Cond.code yX4_cutToRoot cX4_cutToRoot 1 none]
def wsX5_beginAnew_r4 : List Cond := [Cond.methodLink RX4 40 yX4_occupy, Cond.instanceMethod yX4_occupy, Cond.selects RX4 yX4_occupy yX4_occupy, Cond.code yX4_occupy cX4_occupy 5 (some .int), Cond.fieldLink RX4 27 "BoardNotation$Tree" "childCount" "[I", Cond.fieldLink RX4 30 "BoardNotation$Tree" "firstChild" "[I", Cond.fieldLink RX4 33 "BoardNotation$Tree" "nextBeside" "[I"]
def wsX5_beginAnew : List Cond := .code yX5_beginAnew cX5_beginAnew 1 none :: ((wsX5_beginAnew_r1 ++ (wsX5_beginAnew_r2 ++ (wsX5_beginAnew_r3 ++ wsX5_beginAnew_r4))) ++ wsX50 ++ wsX40 ++ wsX00)
def wsX5_openVariation_r1 : List Cond := [Cond.fieldLink RX5 63 "BoardNotation" "moveIsDue" "Z", Cond.fieldLink RX5 56 "BoardNotation" "present" "I", Cond.fieldLink RX5 60 "BoardNotation" "openBrackets" "I", Cond.fieldLink RX5 43 "BoardNotation" "bracketNodes" "[I", Cond.methodLink RX5 305 yX5_stepUp, Cond.instanceMethod yX5_stepUp, Cond.selects RX5 yX5_stepUp yX5_stepUp, Cond.initialized RX5, Cond.code yX5_stepUp cX5_stepUp 1 none, Cond.fieldLink RX5 21 "BoardNotation" "board" "LBoardNotation$Board;", Cond.fieldLink RX5 28 "BoardNotation" "tree" "LBoardNotation$Tree;", Cond.methodLink RX5 237 yX4_from, Cond.instanceMethod yX4_from, Cond.selects RX4 yX4_from yX4_from, Cond.initialized RX4, Cond.code yX4_from cX4_from 2 (some .int), Cond.fieldLink RX4 15 "BoardNotation$Tree" "from" "[I", Cond.methodLink RX4 44 yX4_has, Cond.instanceMethod yX4_has, Cond.selects RX4 yX4_has yX4_has, Cond.code yX4_has cX4_has 2 (some .boolean), Cond.fieldLink RX4 36 "BoardNotation$Tree" "size" "I", Cond.methodLink RX5 240 yX4_to, Cond.instanceMethod yX4_to]
def wsX5_openVariation_r2 : List Cond := [Cond.selects RX4 yX4_to yX4_to, Cond.code yX4_to cX4_to 2 (some .int), Cond.fieldLink RX4 18 "BoardNotation$Tree" "to" "[I", Cond.methodLink RX5 295 yX4_taken, Cond.instanceMethod yX4_taken, Cond.selects RX4 yX4_taken yX4_taken, Cond.code yX4_taken cX4_taken 2 (some .int), Cond.fieldLink RX4 21 "BoardNotation$Tree" "taken" "[I", Cond.methodLink RX5 298 yX0_takeBack, Cond.instanceMethod yX0_takeBack, Cond.selects RX0 yX0_takeBack yX0_takeBack, Cond.initialized RX0, Cond.code yX0_takeBack cX0_takeBack 4 none, Cond.fieldLink RX0 9 "BoardNotation$Board" "pieces" "[I", Cond.static yX5_isSquare, Cond.code yX5_isSquare cX5_isSquare 1 (some .boolean), Cond.methodLink RX5 302 yX4_above, Cond.instanceMethod yX4_above, Cond.selects RX4 yX4_above yX4_above, Cond.code yX4_above cX4_above 2 (some .int), Cond.fieldLink RX4 9 "BoardNotation$Tree" "above" "[I"]
def wsX5_openVariation : List Cond := .code yX5_openVariation cX5_openVariation 1 (some .int) :: ((wsX5_openVariation_r1 ++ wsX5_openVariation_r2) ++ wsX50 ++ wsX40 ++ wsX00)
def wsX5_closeVariation_r1 : List Cond := [Cond.fieldLink RX5 63 "BoardNotation" "moveIsDue" "Z", Cond.fieldLink RX5 60 "BoardNotation" "openBrackets" "I", Cond.fieldLink RX5 43 "BoardNotation" "bracketNodes" "[I", Cond.methodLink RX5 223 yX5_visit, Cond.instanceMethod yX5_visit, Cond.selects RX5 yX5_visit yX5_visit, Cond.initialized RX5, Cond.code yX5_visit cX5_visit 5 none, Cond.fieldLink RX5 28 "BoardNotation" "tree" "LBoardNotation$Tree;", Cond.fieldLink RX5 56 "BoardNotation" "present" "I", Cond.fieldLink RX5 39 "BoardNotation" "path" "[I", Cond.methodLink RX5 308 Lib.Math.min.name, Cond.static Lib.Math.min.name, Cond.initialized "java/lang/Math", Cond.code Lib.Math.min.name Lib.Math.min.code 2 (some .int), Cond.methodLink RX5 276 yX4_depth, Cond.instanceMethod yX4_depth, Cond.selects RX4 yX4_depth yX4_depth, Cond.initialized RX4, Cond.code yX4_depth cX4_depth 2 (some .int), Cond.fieldLink RX4 24 "BoardNotation$Tree" "depth" "[I", Cond.methodLink RX4 44 yX4_has, Cond.instanceMethod yX4_has, Cond.selects RX4 yX4_has yX4_has]
def wsX5_closeVariation_r2 : List Cond := [Cond.code yX4_has cX4_has 2 (some .boolean), Cond.fieldLink RX4 36 "BoardNotation$Tree" "size" "I", Cond.methodLink RX5 305 yX5_stepUp, Cond.instanceMethod yX5_stepUp, Cond.selects RX5 yX5_stepUp yX5_stepUp, Cond.code yX5_stepUp cX5_stepUp 1 none, Cond.fieldLink RX5 21 "BoardNotation" "board" "LBoardNotation$Board;", Cond.methodLink RX5 237 yX4_from, Cond.instanceMethod yX4_from, Cond.selects RX4 yX4_from yX4_from, Cond.code yX4_from cX4_from 2 (some .int), Cond.fieldLink RX4 15 "BoardNotation$Tree" "from" "[I", Cond.methodLink RX5 240 yX4_to, Cond.instanceMethod yX4_to, Cond.selects RX4 yX4_to yX4_to, Cond.code yX4_to cX4_to 2 (some .int), Cond.fieldLink RX4 18 "BoardNotation$Tree" "to" "[I", Cond.methodLink RX5 295 yX4_taken, Cond.instanceMethod yX4_taken, Cond.selects RX4 yX4_taken yX4_taken, Cond.code yX4_taken cX4_taken 2 (some .int), Cond.fieldLink RX4 21 "BoardNotation$Tree" "taken" "[I", Cond.methodLink RX5 298 yX0_takeBack, Cond.instanceMethod yX0_takeBack]
def wsX5_closeVariation_r3 : List Cond := [Cond.selects RX0 yX0_takeBack yX0_takeBack, Cond.initialized RX0, Cond.code yX0_takeBack cX0_takeBack 4 none, Cond.fieldLink RX0 9 "BoardNotation$Board" "pieces" "[I", Cond.static yX5_isSquare, Cond.code yX5_isSquare cX5_isSquare 1 (some .boolean), Cond.methodLink RX5 302 yX4_above, Cond.instanceMethod yX4_above, Cond.selects RX4 yX4_above yX4_above, Cond.code yX4_above cX4_above 2 (some .int), Cond.fieldLink RX4 9 "BoardNotation$Tree" "above" "[I", Cond.methodLink RX5 313 yX5_stepDown, Cond.instanceMethod yX5_stepDown, Cond.selects RX5 yX5_stepDown yX5_stepDown, Cond.code yX5_stepDown cX5_stepDown 2 none, Cond.methodLink RX5 288 yX0_move, Cond.instanceMethod yX0_move, Cond.selects RX0 yX0_move yX0_move, Cond.code yX0_move cX0_move 4 (some .int), Cond.methodLink RX5 291 yX4_keepTaken, Cond.instanceMethod yX4_keepTaken, Cond.selects RX4 yX4_keepTaken yX4_keepTaken, Cond.code yX4_keepTaken cX4_keepTaken 3 none]
def wsX5_closeVariation : List Cond := .code yX5_closeVariation cX5_closeVariation 1 (some .int) :: ((wsX5_closeVariation_r1 ++ (wsX5_closeVariation_r2 ++ wsX5_closeVariation_r3)) ++ wsX50 ++ wsX40 ++ wsX00)
def wsX5_readGame_r1 : List Cond := [Cond.fieldLink RX5 60 "BoardNotation" "openBrackets" "I", Cond.fieldLink RX5 63 "BoardNotation" "moveIsDue" "Z", Cond.fieldLink RX5 73 "BoardNotation" "errorPlace" "I", Cond.fieldLink RX5 49 "BoardNotation" "tape" "LBoardNotation$Text;", Cond.fieldLink RX5 67 "BoardNotation" "judgedFrom" "I", Cond.fieldLink RX5 70 "BoardNotation" "judgedTo" "I", Cond.methodLink RX5 250 yX5_beginAnew, Cond.instanceMethod yX5_beginAnew, Cond.selects RX5 yX5_beginAnew yX5_beginAnew, Cond.initialized RX5, Cond.code yX5_beginAnew cX5_beginAnew 1 none, Cond.fieldLink RX5 28 "BoardNotation" "tree" "LBoardNotation$Tree;", Cond.methodLink RX5 223 yX5_visit, Cond.instanceMethod yX5_visit, Cond.selects RX5 yX5_visit yX5_visit, Cond.code yX5_visit cX5_visit 5 none, Cond.fieldLink RX5 56 "BoardNotation" "present" "I", Cond.fieldLink RX5 39 "BoardNotation" "path" "[I", Cond.methodLink RX5 308 Lib.Math.min.name, Cond.static Lib.Math.min.name, Cond.initialized "java/lang/Math", Cond.code Lib.Math.min.name Lib.Math.min.code 2 (some .int), Cond.methodLink RX5 276 yX4_depth, Cond.instanceMethod yX4_depth]
def wsX5_readGame_r2 : List Cond := [Cond.selects RX4 yX4_depth yX4_depth, Cond.initialized RX4, Cond.code yX4_depth cX4_depth 2 (some .int), Cond.fieldLink RX4 24 "BoardNotation$Tree" "depth" "[I", Cond.methodLink RX4 44 yX4_has, Cond.instanceMethod yX4_has, Cond.selects RX4 yX4_has yX4_has, Cond.code yX4_has cX4_has 2 (some .boolean), Cond.fieldLink RX4 36 "BoardNotation$Tree" "size" "I", Cond.methodLink RX5 305 yX5_stepUp, Cond.instanceMethod yX5_stepUp, Cond.selects RX5 yX5_stepUp yX5_stepUp, Cond.code yX5_stepUp cX5_stepUp 1 none, Cond.fieldLink RX5 21 "BoardNotation" "board" "LBoardNotation$Board;", Cond.methodLink RX5 237 yX4_from, Cond.instanceMethod yX4_from, Cond.selects RX4 yX4_from yX4_from, Cond.code yX4_from cX4_from 2 (some .int), Cond.fieldLink RX4 15 "BoardNotation$Tree" "from" "[I", Cond.methodLink RX5 240 yX4_to, Cond.instanceMethod yX4_to, Cond.selects RX4 yX4_to yX4_to, Cond.code yX4_to cX4_to 2 (some .int), Cond.fieldLink RX4 18 "BoardNotation$Tree" "to" "[I"]
def wsX5_readGame_r3 : List Cond := [Cond.methodLink RX5 295 yX4_taken, Cond.instanceMethod yX4_taken, Cond.selects RX4 yX4_taken yX4_taken, Cond.code yX4_taken cX4_taken 2 (some .int), Cond.fieldLink RX4 21 "BoardNotation$Tree" "taken" "[I", Cond.methodLink RX5 298 yX0_takeBack, Cond.instanceMethod yX0_takeBack, Cond.selects RX0 yX0_takeBack yX0_takeBack, Cond.initialized RX0, Cond.code yX0_takeBack cX0_takeBack 4 none, Cond.fieldLink RX0 9 "BoardNotation$Board" "pieces" "[I", Cond.static yX5_isSquare, Cond.code yX5_isSquare cX5_isSquare 1 (some .boolean), Cond.methodLink RX5 302 yX4_above, Cond.instanceMethod yX4_above, Cond.selects RX4 yX4_above yX4_above, Cond.code yX4_above cX4_above 2 (some .int), Cond.fieldLink RX4 9 "BoardNotation$Tree" "above" "[I", Cond.methodLink RX5 313 yX5_stepDown, Cond.instanceMethod yX5_stepDown, Cond.selects RX5 yX5_stepDown yX5_stepDown, Cond.code yX5_stepDown cX5_stepDown 2 none, Cond.methodLink RX5 288 yX0_move, Cond.instanceMethod yX0_move]
def wsX5_readGame_r4 : List Cond := [Cond.selects RX0 yX0_move yX0_move, Cond.code yX0_move cX0_move 4 (some .int), Cond.methodLink RX5 291 yX4_keepTaken, Cond.instanceMethod yX4_keepTaken, Cond.selects RX4 yX4_keepTaken yX4_keepTaken, Cond.code yX4_keepTaken cX4_keepTaken 3 none, Cond.methodLink RX5 316 yX4_cutToRoot, Cond.instanceMethod yX4_cutToRoot, Cond.selects RX4 yX4_cutToRoot yX4_cutToRoot, Cond.code yX4_cutToRoot cX4_cutToRoot 1 none, Cond.methodLink RX4 40 yX4_occupy, Cond.instanceMethod yX4_occupy, Cond.selects RX4 yX4_occupy yX4_occupy, Cond.code yX4_occupy cX4_occupy 5 (some .int), Cond.fieldLink RX4 27 "BoardNotation$Tree" "childCount" "[I", Cond.fieldLink RX4 30 "BoardNotation$Tree" "firstChild" "[I", Cond.fieldLink RX4 33 "BoardNotation$Tree" "nextBeside" "[I", Cond.methodLink RX5 157 yX3_size, Cond.instanceMethod yX3_size, Cond.selects RX3 yX3_size yX3_size, Cond.initialized RX3, Cond.code yX3_size cX3_size 1 (some .int), Cond.fieldLink RX3 15 "BoardNotation$Text" "size" "I", Cond.methodLink RX5 204 yX3_get]
def wsX5_readGame_r5 : List Cond := [Cond.instanceMethod yX3_get, Cond.selects RX3 yX3_get yX3_get, Cond.code yX3_get cX3_get 2 (some .int), Cond.fieldLink RX3 9 "BoardNotation$Text" "bytes" "[I", Cond.methodLink RX5 253 yX5_openVariation, Cond.instanceMethod yX5_openVariation, Cond.selects RX5 yX5_openVariation yX5_openVariation, Cond.code yX5_openVariation cX5_openVariation 1 (some .int), Cond.fieldLink RX5 43 "BoardNotation" "bracketNodes" "[I", Cond.methodLink RX5 256 yX5_closeVariation, Cond.instanceMethod yX5_closeVariation, Cond.selects RX5 yX5_closeVariation yX5_closeVariation, Cond.code yX5_closeVariation cX5_closeVariation 1 (some .int), Cond.methodLink RX5 259 yX3_isWordStart, Cond.instanceMethod yX3_isWordStart, Cond.selects RX3 yX3_isWordStart yX3_isWordStart, Cond.code yX3_isWordStart cX3_isWordStart 2 (some .boolean), Cond.methodLink RX3 31 yX3_isOfWord, Cond.instanceMethod yX3_isOfWord, Cond.selects RX3 yX3_isOfWord yX3_isOfWord, Cond.code yX3_isOfWord cX3_isOfWord 3 (some .boolean), Cond.methodLink RX3 23 yX3_get, Cond.methodLink RX5 262 yX3_wordEnd, Cond.instanceMethod yX3_wordEnd]
def wsX5_readGame_r6 : List Cond := [Cond.selects RX3 yX3_wordEnd yX3_wordEnd, Cond.code yX3_wordEnd cX3_wordEnd 3 (some .int), Cond.methodLink RX5 190 yX5_judge, Cond.instanceMethod yX5_judge, Cond.selects RX5 yX5_judge yX5_judge, Cond.code yX5_judge cX5_judge 10 (some .int), Cond.fieldLink RX5 35 "BoardNotation" "form" "LBoardNotation$ShortForm;", Cond.fieldLink RX5 12 "BoardNotation" "kinds" "LBoardNotation$Kinds;", Cond.methodLink RX5 326 yX2_fits, Cond.instanceMethod yX2_fits, Cond.selects RX2 yX2_fits yX2_fits, Cond.initialized RX2, Cond.code yX2_fits cX2_fits 6 (some .boolean), Cond.fieldLink RX2 9 "BoardNotation$ShortForm" "misfit" "I", Cond.methodLink RX2 37 yX2_forget, Cond.instanceMethod yX2_forget, Cond.selects RX2 yX2_forget yX2_forget, Cond.code yX2_forget cX2_forget 1 none, Cond.fieldLink RX2 15 "BoardNotation$ShortForm" "letter" "I", Cond.fieldLink RX2 18 "BoardNotation$ShortForm" "fromFile" "I", Cond.fieldLink RX2 21 "BoardNotation$ShortForm" "fromRank" "I", Cond.fieldLink RX2 24 "BoardNotation$ShortForm" "toFile" "I", Cond.fieldLink RX2 27 "BoardNotation$ShortForm" "toRank" "I", Cond.fieldLink RX2 30 "BoardNotation$ShortForm" "sign" "I"]
def wsX5_readGame_r7 : List Cond := [Cond.fieldLink RX2 33 "BoardNotation$ShortForm" "captures" "Z", Cond.methodLink RX2 40 yX3_get, Cond.methodLink RX2 46 yX2_stateBehind, Cond.static yX2_stateBehind, Cond.code yX2_stateBehind cX2_stateBehind 2 (some .int), Cond.methodLink RX2 54 yX2_isFile, Cond.static yX2_isFile, Cond.code yX2_isFile cX2_isFile 1 (some .boolean), Cond.methodLink RX2 58 yX2_isRank, Cond.static yX2_isRank, Cond.code yX2_isRank cX2_isRank 1 (some .boolean), Cond.methodLink RX2 64 yX2_stateBehindOrigin, Cond.static yX2_stateBehindOrigin, Cond.code yX2_stateBehindOrigin cX2_stateBehindOrigin 1 (some .int), Cond.methodLink RX2 61 yX2_isSign, Cond.static yX2_isSign, Cond.code yX2_isSign cX2_isSign 1 (some .boolean), Cond.methodLink RX2 50 yX2_keep, Cond.instanceMethod yX2_keep, Cond.selects RX2 yX2_keep yX2_keep, Cond.code yX2_keep cX2_keep 2 none, Cond.methodLink RX5 330 yX2_letter, Cond.instanceMethod yX2_letter, Cond.selects RX2 yX2_letter yX2_letter]
def wsX5_readGame_r8 : List Cond := [Cond.code yX2_letter cX2_letter 1 (some .int), Cond.methodLink RX5 82 yX1_withLetter, Cond.instanceMethod yX1_withLetter, Cond.selects RX1 yX1_withLetter yX1_withLetter, Cond.initialized RX1, Cond.code yX1_withLetter cX1_withLetter 3 (some .int), Cond.fieldLink RX1 27 "BoardNotation$Kinds" "size" "I", Cond.fieldLink RX1 9 "BoardNotation$Kinds" "letters" "[I", Cond.methodLink RX5 148 yX5_turn, Cond.instanceMethod yX5_turn, Cond.selects RX5 yX5_turn yX5_turn, Cond.code yX5_turn cX5_turn 1 (some .int), Cond.methodLink RX5 333 yX2_to, Cond.instanceMethod yX2_to, Cond.selects RX2 yX2_to yX2_to, Cond.code yX2_to cX2_to 1 (some .int), Cond.methodLink RX5 145 yX0_pieceOn, Cond.instanceMethod yX0_pieceOn, Cond.selects RX0 yX0_pieceOn yX0_pieceOn, Cond.code yX0_pieceOn cX0_pieceOn 2 (some .int), Cond.methodLink RX5 335 yX2_allowsFrom, Cond.instanceMethod yX2_allowsFrom, Cond.selects RX2 yX2_allowsFrom yX2_allowsFrom, Cond.code yX2_allowsFrom cX2_allowsFrom 2 (some .boolean)]
def wsX5_readGame_r9 : List Cond := [Cond.methodLink RX5 282 yX0_reaches, Cond.instanceMethod yX0_reaches, Cond.selects RX0 yX0_reaches yX0_reaches, Cond.code yX0_reaches cX0_reaches 3 (some .boolean), Cond.methodLink RX0 36 yX0_reachedFrom, Cond.instanceMethod yX0_reachedFrom, Cond.selects RX0 yX0_reachedFrom yX0_reachedFrom, Cond.code yX0_reachedFrom cX0_reachedFrom 16 (some .long), Cond.fieldLink RX0 15 "BoardNotation$Board" "kinds" "LBoardNotation$Kinds;", Cond.methodLink RX5 285 yX0_keepsRoyalsSafe, Cond.instanceMethod yX0_keepsRoyalsSafe, Cond.selects RX0 yX0_keepsRoyalsSafe yX0_keepsRoyalsSafe, Cond.code yX0_keepsRoyalsSafe cX0_keepsRoyalsSafe 6 (some .boolean), Cond.methodLink RX0 29 yX0_pieceOn, Cond.methodLink RX0 61 yX0_move, Cond.methodLink RX0 65 yX0_inCheck, Cond.instanceMethod yX0_inCheck, Cond.selects RX0 yX0_inCheck yX0_inCheck, Cond.code yX0_inCheck cX0_inCheck 6 (some .boolean), Cond.methodLink RX0 58 yX0_royalsOf, Cond.instanceMethod yX0_royalsOf, Cond.selects RX0 yX0_royalsOf yX0_royalsOf, Cond.code yX0_royalsOf cX0_royalsOf 5 (some .long), Cond.methodLink RX0 68 yX0_takeBack]
def wsX5_readGame_r10 : List Cond := [Cond.methodLink RX5 338 yX2_captures, Cond.instanceMethod yX2_captures, Cond.selects RX2 yX2_captures yX2_captures, Cond.code yX2_captures cX2_captures 1 (some .boolean), Cond.methodLink RX5 341 yX0_isTaken, Cond.instanceMethod yX0_isTaken, Cond.selects RX0 yX0_isTaken yX0_isTaken, Cond.code yX0_isTaken cX0_isTaken 2 (some .boolean), Cond.methodLink RX5 344 yX2_sign, Cond.instanceMethod yX2_sign, Cond.selects RX2 yX2_sign yX2_sign, Cond.code yX2_sign cX2_sign 1 (some .int), Cond.methodLink RX5 347 yX0_signBehind, Cond.instanceMethod yX0_signBehind, Cond.selects RX0 yX0_signBehind yX0_signBehind, Cond.code yX0_signBehind cX0_signBehind 6 (some .int), Cond.methodLink RX0 76 yX0_countLegalMoves, Cond.instanceMethod yX0_countLegalMoves, Cond.selects RX0 yX0_countLegalMoves yX0_countLegalMoves, Cond.code yX0_countLegalMoves cX0_countLegalMoves 8 (some .int), Cond.methodLink RX0 72 yX0_keepsRoyalsSafe, Cond.methodLink RX5 165 yX5_follow, Cond.instanceMethod yX5_follow, Cond.selects RX5 yX5_follow yX5_follow]
def wsX5_readGame_r11 : List Cond := [Cond.code yX5_follow cX5_follow 4 (some .boolean), Cond.methodLink RX5 319 yX4_childOfMove, Cond.instanceMethod yX4_childOfMove, Cond.selects RX4 yX4_childOfMove yX4_childOfMove, Cond.code yX4_childOfMove cX4_childOfMove 6 (some .int), Cond.methodLink RX4 59 yX4_child, Cond.instanceMethod yX4_child, Cond.selects RX4 yX4_child yX4_child, Cond.code yX4_child cX4_child 5 (some .int), Cond.methodLink RX4 57 yX4_childCount, Cond.instanceMethod yX4_childCount, Cond.selects RX4 yX4_childCount yX4_childCount, Cond.code yX4_childCount cX4_childCount 2 (some .int), Cond.methodLink RX5 97 yX4_size, Cond.instanceMethod yX4_size, Cond.selects RX4 yX4_size yX4_size, Cond.code yX4_size cX4_size 1 (some .int), Cond.methodLink RX5 323 yX4_grow, Cond.instanceMethod yX4_grow, Cond.selects RX4 yX4_grow yX4_grow, Cond.code yX4_grow cX4_grow 6 (some .int)]
def wsX5_readGame : List Cond := .code yX5_readGame cX5_readGame 3 (some .int) :: ((wsX5_readGame_r1 ++ (wsX5_readGame_r2 ++ (wsX5_readGame_r3 ++ (wsX5_readGame_r4 ++ (wsX5_readGame_r5 ++ (wsX5_readGame_r6 ++ (wsX5_readGame_r7 ++ (wsX5_readGame_r8 ++ (wsX5_readGame_r9 ++ (wsX5_readGame_r10 ++ wsX5_readGame_r11)))))))))) ++ wsX50 ++ wsX40 ++ wsX00 ++ wsX30 ++ wsX20 ++ wsX10)
def wsX5_clear_r1 : List Cond := [Cond.fieldLink RX5 28 "BoardNotation" "tree" "LBoardNotation$Tree;", Cond.methodLink RX5 97 yX4_size, Cond.instanceMethod yX4_size, Cond.selects RX4 yX4_size yX4_size, Cond.initialized RX4, Cond.code yX4_size cX4_size 1 (some .int), Cond.fieldLink RX4 36 "BoardNotation$Tree" "size" "I", Cond.methodLink RX5 250 yX5_beginAnew, Cond.instanceMethod yX5_beginAnew, Cond.selects RX5 yX5_beginAnew yX5_beginAnew, Cond.initialized RX5, Cond.code yX5_beginAnew cX5_beginAnew 1 none, Cond.methodLink RX5 223 yX5_visit, Cond.instanceMethod yX5_visit, Cond.selects RX5 yX5_visit yX5_visit, Cond.code yX5_visit cX5_visit 5 none, Cond.fieldLink RX5 56 "BoardNotation" "present" "I", Cond.fieldLink RX5 39 "BoardNotation" "path" "[I", Cond.methodLink RX5 308 Lib.Math.min.name, Cond.static Lib.Math.min.name, Cond.initialized "java/lang/Math", Cond.code Lib.Math.min.name Lib.Math.min.code 2 (some .int), Cond.methodLink RX5 276 yX4_depth, Cond.instanceMethod yX4_depth]
def wsX5_clear_r2 : List Cond := [Cond.selects RX4 yX4_depth yX4_depth, Cond.code yX4_depth cX4_depth 2 (some .int), Cond.fieldLink RX4 24 "BoardNotation$Tree" "depth" "[I", Cond.methodLink RX4 44 yX4_has, Cond.instanceMethod yX4_has, Cond.selects RX4 yX4_has yX4_has, Cond.code yX4_has cX4_has 2 (some .boolean), Cond.methodLink RX5 305 yX5_stepUp, Cond.instanceMethod yX5_stepUp, Cond.selects RX5 yX5_stepUp yX5_stepUp, Cond.code yX5_stepUp cX5_stepUp 1 none, Cond.fieldLink RX5 21 "BoardNotation" "board" "LBoardNotation$Board;", Cond.methodLink RX5 237 yX4_from, Cond.instanceMethod yX4_from, Cond.selects RX4 yX4_from yX4_from, Cond.code yX4_from cX4_from 2 (some .int), Cond.fieldLink RX4 15 "BoardNotation$Tree" "from" "[I", Cond.methodLink RX5 240 yX4_to, Cond.instanceMethod yX4_to, Cond.selects RX4 yX4_to yX4_to, Cond.code yX4_to cX4_to 2 (some .int), Cond.fieldLink RX4 18 "BoardNotation$Tree" "to" "[I", Cond.methodLink RX5 295 yX4_taken, Cond.instanceMethod yX4_taken]
def wsX5_clear_r3 : List Cond := [Cond.selects RX4 yX4_taken yX4_taken, Cond.code yX4_taken cX4_taken 2 (some .int), Cond.fieldLink RX4 21 "BoardNotation$Tree" "taken" "[I", Cond.methodLink RX5 298 yX0_takeBack, Cond.instanceMethod yX0_takeBack, Cond.selects RX0 yX0_takeBack yX0_takeBack, Cond.initialized RX0, Cond.code yX0_takeBack cX0_takeBack 4 none, Cond.fieldLink RX0 9 "BoardNotation$Board" "pieces" "[I", Cond.static yX5_isSquare, Cond.code yX5_isSquare cX5_isSquare 1 (some .boolean), Cond.methodLink RX5 302 yX4_above, Cond.instanceMethod yX4_above, Cond.selects RX4 yX4_above yX4_above, Cond.code yX4_above cX4_above 2 (some .int), Cond.fieldLink RX4 9 "BoardNotation$Tree" "above" "[I", Cond.methodLink RX5 313 yX5_stepDown, Cond.instanceMethod yX5_stepDown, Cond.selects RX5 yX5_stepDown yX5_stepDown, Cond.code yX5_stepDown cX5_stepDown 2 none, Cond.methodLink RX5 288 yX0_move, Cond.instanceMethod yX0_move, Cond.selects RX0 yX0_move yX0_move, Cond.code yX0_move cX0_move 4 (some .int)]
def wsX5_clear_r4 : List Cond := [Cond.methodLink RX5 291 yX4_keepTaken, Cond.instanceMethod yX4_keepTaken, Cond.selects RX4 yX4_keepTaken yX4_keepTaken, Cond.code yX4_keepTaken cX4_keepTaken 3 none, Cond.methodLink RX5 316 yX4_cutToRoot, Cond.instanceMethod yX4_cutToRoot, Cond.selects RX4 yX4_cutToRoot yX4_cutToRoot, Cond.code yX4_cutToRoot cX4_cutToRoot 1 none, Cond.methodLink RX4 40 yX4_occupy, Cond.instanceMethod yX4_occupy, Cond.selects RX4 yX4_occupy yX4_occupy, Cond.code yX4_occupy cX4_occupy 5 (some .int), Cond.fieldLink RX4 27 "BoardNotation$Tree" "childCount" "[I", Cond.fieldLink RX4 30 "BoardNotation$Tree" "firstChild" "[I", Cond.fieldLink RX4 33 "BoardNotation$Tree" "nextBeside" "[I"]
def wsX5_clear : List Cond := .code yX5_clear cX5_clear 2 (some .int) :: ((wsX5_clear_r1 ++ (wsX5_clear_r2 ++ (wsX5_clear_r3 ++ wsX5_clear_r4))) ++ wsX50 ++ wsX40 ++ wsX00)
def wsX5_branching : List Cond := .code yX5_branching cX5_branching 3 (some .double) :: ([.fieldLink RX5 28 "BoardNotation" "tree" "LBoardNotation$Tree;", .methodLink RX5 97 yX4_size, .instanceMethod yX4_size, .selects RX4 yX4_size yX4_size, .initialized RX4, .code yX4_size cX4_size 1 (some .int), .fieldLink RX4 36 "BoardNotation$Tree" "size" "I", .methodLink RX5 213 yX4_childCount, .instanceMethod yX4_childCount, .selects RX4 yX4_childCount yX4_childCount, .code yX4_childCount cX4_childCount 2 (some .int), .fieldLink RX4 27 "BoardNotation$Tree" "childCount" "[I", .methodLink RX4 44 yX4_has, .instanceMethod yX4_has, .selects RX4 yX4_has yX4_has, .code yX4_has cX4_has 2 (some .boolean)] ++ wsX50 ++ wsX40)
def wsX5_digestNode_r1 : List Cond := [Cond.constantLong RX5 267 (31), Cond.fieldLink RX5 28 "BoardNotation" "tree" "LBoardNotation$Tree;", Cond.methodLink RX5 210 yX4_fact, Cond.instanceMethod yX4_fact, Cond.selects RX4 yX4_fact yX4_fact, Cond.initialized RX4, Cond.code yX4_fact cX4_fact 3 (some .int), Cond.methodLink RX4 48 yX4_above, Cond.instanceMethod yX4_above, Cond.selects RX4 yX4_above yX4_above, Cond.code yX4_above cX4_above 2 (some .int), Cond.fieldLink RX4 9 "BoardNotation$Tree" "above" "[I", Cond.methodLink RX4 44 yX4_has, Cond.instanceMethod yX4_has, Cond.selects RX4 yX4_has yX4_has, Cond.code yX4_has cX4_has 2 (some .boolean), Cond.fieldLink RX4 36 "BoardNotation$Tree" "size" "I", Cond.methodLink RX4 51 yX4_from, Cond.instanceMethod yX4_from, Cond.selects RX4 yX4_from yX4_from, Cond.code yX4_from cX4_from 2 (some .int), Cond.fieldLink RX4 15 "BoardNotation$Tree" "from" "[I", Cond.methodLink RX4 53 yX4_to, Cond.instanceMethod yX4_to]
def wsX5_digestNode_r2 : List Cond := [Cond.selects RX4 yX4_to yX4_to, Cond.code yX4_to cX4_to 2 (some .int), Cond.fieldLink RX4 18 "BoardNotation$Tree" "to" "[I", Cond.methodLink RX4 55 yX4_depth, Cond.instanceMethod yX4_depth, Cond.selects RX4 yX4_depth yX4_depth, Cond.code yX4_depth cX4_depth 2 (some .int), Cond.fieldLink RX4 24 "BoardNotation$Tree" "depth" "[I", Cond.methodLink RX4 57 yX4_childCount, Cond.instanceMethod yX4_childCount, Cond.selects RX4 yX4_childCount yX4_childCount, Cond.code yX4_childCount cX4_childCount 2 (some .int), Cond.fieldLink RX4 27 "BoardNotation$Tree" "childCount" "[I", Cond.methodLink RX5 213 yX4_childCount, Cond.methodLink RX5 218 yX4_child, Cond.instanceMethod yX4_child, Cond.selects RX4 yX4_child yX4_child, Cond.code yX4_child cX4_child 5 (some .int), Cond.fieldLink RX4 30 "BoardNotation$Tree" "firstChild" "[I", Cond.fieldLink RX4 33 "BoardNotation$Tree" "nextBeside" "[I"]
def wsX5_digestNode : List Cond := .code yX5_digestNode cX5_digestNode 7 (some .long) :: ((wsX5_digestNode_r1 ++ wsX5_digestNode_r2) ++ wsX50 ++ wsX40)
def wsX5_digest_r1 : List Cond := [Cond.constantLong RX5 265 (353), Cond.constantLong RX5 267 (31), Cond.fieldLink RX5 21 "BoardNotation" "board" "LBoardNotation$Board;", Cond.fieldLink RX5 28 "BoardNotation" "tree" "LBoardNotation$Tree;", Cond.fieldLink RX5 49 "BoardNotation" "tape" "LBoardNotation$Text;", Cond.methodLink RX5 269 yX5_state, Cond.instanceMethod yX5_state, Cond.selects RX5 yX5_state yX5_state, Cond.initialized RX5, Cond.code yX5_state cX5_state 2 (some .int), Cond.classLink RX5 110 "java/lang/IndexOutOfBoundsException", Cond.initialized "java/lang/IndexOutOfBoundsException", Cond.fieldLink RX5 56 "BoardNotation" "present" "I", Cond.fieldLink RX5 12 "BoardNotation" "kinds" "LBoardNotation$Kinds;", Cond.methodLink RX5 148 yX5_turn, Cond.instanceMethod yX5_turn, Cond.selects RX5 yX5_turn yX5_turn, Cond.code yX5_turn cX5_turn 1 (some .int), Cond.methodLink RX5 276 yX4_depth, Cond.instanceMethod yX4_depth, Cond.selects RX4 yX4_depth yX4_depth, Cond.initialized RX4, Cond.code yX4_depth cX4_depth 2 (some .int), Cond.fieldLink RX4 24 "BoardNotation$Tree" "depth" "[I"]
def wsX5_digest_r2 : List Cond := [Cond.methodLink RX4 44 yX4_has, Cond.instanceMethod yX4_has, Cond.selects RX4 yX4_has yX4_has, Cond.code yX4_has cX4_has 2 (some .boolean), Cond.fieldLink RX4 36 "BoardNotation$Tree" "size" "I", Cond.methodLink RX5 151 yX0_inCheck, Cond.instanceMethod yX0_inCheck, Cond.selects RX0 yX0_inCheck yX0_inCheck, Cond.initialized RX0, Cond.code yX0_inCheck cX0_inCheck 6 (some .boolean), Cond.fieldLink RX0 9 "BoardNotation$Board" "pieces" "[I", Cond.methodLink RX0 58 yX0_royalsOf, Cond.instanceMethod yX0_royalsOf, Cond.selects RX0 yX0_royalsOf yX0_royalsOf, Cond.code yX0_royalsOf cX0_royalsOf 5 (some .long), Cond.methodLink RX0 36 yX0_reachedFrom, Cond.instanceMethod yX0_reachedFrom, Cond.selects RX0 yX0_reachedFrom yX0_reachedFrom, Cond.code yX0_reachedFrom cX0_reachedFrom 16 (some .long), Cond.fieldLink RX0 15 "BoardNotation$Board" "kinds" "LBoardNotation$Kinds;", Cond.methodLink RX5 154 yX0_countLegalMoves, Cond.instanceMethod yX0_countLegalMoves, Cond.selects RX0 yX0_countLegalMoves yX0_countLegalMoves, Cond.code yX0_countLegalMoves cX0_countLegalMoves 8 (some .int)]
def wsX5_digest_r3 : List Cond := [Cond.methodLink RX0 72 yX0_keepsRoyalsSafe, Cond.instanceMethod yX0_keepsRoyalsSafe, Cond.selects RX0 yX0_keepsRoyalsSafe yX0_keepsRoyalsSafe, Cond.code yX0_keepsRoyalsSafe cX0_keepsRoyalsSafe 6 (some .boolean), Cond.methodLink RX0 29 yX0_pieceOn, Cond.instanceMethod yX0_pieceOn, Cond.selects RX0 yX0_pieceOn yX0_pieceOn, Cond.code yX0_pieceOn cX0_pieceOn 2 (some .int), Cond.static yX5_isSquare, Cond.code yX5_isSquare cX5_isSquare 1 (some .boolean), Cond.methodLink RX0 61 yX0_move, Cond.instanceMethod yX0_move, Cond.selects RX0 yX0_move yX0_move, Cond.code yX0_move cX0_move 4 (some .int), Cond.methodLink RX0 65 yX0_inCheck, Cond.methodLink RX0 68 yX0_takeBack, Cond.instanceMethod yX0_takeBack, Cond.selects RX0 yX0_takeBack yX0_takeBack, Cond.code yX0_takeBack cX0_takeBack 4 none, Cond.methodLink RX5 97 yX4_size, Cond.instanceMethod yX4_size, Cond.selects RX4 yX4_size yX4_size, Cond.code yX4_size cX4_size 1 (some .int), Cond.methodLink RX5 93 yX1_size]
def wsX5_digest_r4 : List Cond := [Cond.instanceMethod yX1_size, Cond.selects RX1 yX1_size yX1_size, Cond.initialized RX1, Cond.code yX1_size cX1_size 1 (some .int), Cond.fieldLink RX1 27 "BoardNotation$Kinds" "size" "I", Cond.methodLink RX5 157 yX3_size, Cond.instanceMethod yX3_size, Cond.selects RX3 yX3_size yX3_size, Cond.initialized RX3, Cond.code yX3_size cX3_size 1 (some .int), Cond.fieldLink RX3 15 "BoardNotation$Text" "size" "I", Cond.methodLink RX5 145 yX0_pieceOn, Cond.methodLink RX5 272 yX5_digestNode, Cond.instanceMethod yX5_digestNode, Cond.selects RX5 yX5_digestNode yX5_digestNode, Cond.code yX5_digestNode cX5_digestNode 7 (some .long), Cond.methodLink RX5 210 yX4_fact, Cond.instanceMethod yX4_fact, Cond.selects RX4 yX4_fact yX4_fact, Cond.code yX4_fact cX4_fact 3 (some .int), Cond.methodLink RX4 48 yX4_above, Cond.instanceMethod yX4_above, Cond.selects RX4 yX4_above yX4_above, Cond.code yX4_above cX4_above 2 (some .int)]
def wsX5_digest_r5 : List Cond := [Cond.fieldLink RX4 9 "BoardNotation$Tree" "above" "[I", Cond.methodLink RX4 51 yX4_from, Cond.instanceMethod yX4_from, Cond.selects RX4 yX4_from yX4_from, Cond.code yX4_from cX4_from 2 (some .int), Cond.fieldLink RX4 15 "BoardNotation$Tree" "from" "[I", Cond.methodLink RX4 53 yX4_to, Cond.instanceMethod yX4_to, Cond.selects RX4 yX4_to yX4_to, Cond.code yX4_to cX4_to 2 (some .int), Cond.fieldLink RX4 18 "BoardNotation$Tree" "to" "[I", Cond.methodLink RX4 55 yX4_depth, Cond.methodLink RX4 57 yX4_childCount, Cond.instanceMethod yX4_childCount, Cond.selects RX4 yX4_childCount yX4_childCount, Cond.code yX4_childCount cX4_childCount 2 (some .int), Cond.fieldLink RX4 27 "BoardNotation$Tree" "childCount" "[I", Cond.methodLink RX5 213 yX4_childCount, Cond.methodLink RX5 218 yX4_child, Cond.instanceMethod yX4_child, Cond.selects RX4 yX4_child yX4_child, Cond.code yX4_child cX4_child 5 (some .int), Cond.fieldLink RX4 30 "BoardNotation$Tree" "firstChild" "[I", Cond.fieldLink RX4 33 "BoardNotation$Tree" "nextBeside" "[I"]
def wsX5_digest_r6 : List Cond := [Cond.methodLink RX5 204 yX3_get, Cond.instanceMethod yX3_get, Cond.selects RX3 yX3_get yX3_get, Cond.code yX3_get cX3_get 2 (some .int), Cond.fieldLink RX3 9 "BoardNotation$Text" "bytes" "[I"]
def wsX5_digest : List Cond := .code yX5_digest cX5_digest 4 (some .long) :: ((wsX5_digest_r1 ++ (wsX5_digest_r2 ++ (wsX5_digest_r3 ++ (wsX5_digest_r4 ++ (wsX5_digest_r5 ++ wsX5_digest_r6))))) ++ wsX50 ++ wsX40 ++ wsX00 ++ wsX10 ++ wsX30 ++ (vx_atS RX5 114 "java/lang/IndexOutOfBoundsException" ["java/lang/RuntimeException", "java/lang/Exception"]).filter goodWord)
def wsX6_init_r1 : List Cond := [Cond.methodLink RX6 1 objectInit, Cond.instanceMethod objectInit, Cond.code objectInit ⟨#[0xb1]⟩ 1 none, Cond.arrayClass .int, Cond.fieldLink RX6 9 "BoardNotationModel" "letters" "[I", Cond.fieldLink RX6 13 "BoardNotationModel" "manySteps" "[I", Cond.fieldLink RX6 16 "BoardNotationModel" "steps" "[I", Cond.fieldLink RX6 19 "BoardNotationModel" "first" "[I", Cond.fieldLink RX6 22 "BoardNotationModel" "board" "[I", Cond.fieldLink RX6 25 "BoardNotationModel" "trial" "[I", Cond.fieldLink RX6 28 "BoardNotationModel" "nodes" "I", Cond.fieldLink RX6 32 "BoardNotationModel" "table" "[I", Cond.constant RX6 35 (40000), Cond.fieldLink RX6 36 "BoardNotationModel" "continuations" "[I", Cond.fieldLink RX6 39 "BoardNotationModel" "tape" "[I", Cond.fieldLink RX6 42 "BoardNotationModel" "errorAt" "I", Cond.fieldLink RX6 45 "BoardNotationModel" "readFrom" "I", Cond.fieldLink RX6 48 "BoardNotationModel" "readTo" "I", Cond.fieldLink RX6 51 "BoardNotationModel" "way" "[I", Cond.fieldLink RX6 54 "BoardNotationModel" "paper" "[I", Cond.fieldLink RX6 57 "BoardNotationModel" "pile" "[I", Cond.methodLink RX6 60 arraycopyName, Cond.native arraycopyName, Cond.static arraycopyName]
def wsX6_init_r2 : List Cond := [Cond.initialized "java/lang/System"]
def wsX6_init : List Cond := .code yX6_init cX6_init 2 none :: ((wsX6_init_r1 ++ wsX6_init_r2) ++ wsX60)
def wsX6_thrown : List Cond := .code yX6_thrown cX6_thrown 1 (some .int) :: ([.fieldLink RX6 66 "BoardNotationModel" "thrown" "I"] ++ wsX60)
def wsX6_fail : List Cond := .code yX6_fail cX6_fail 2 (some .int) :: ([.fieldLink RX6 66 "BoardNotationModel" "thrown" "I"] ++ wsX60)
def wsX6_isIn : List Cond := .code yX6_isIn cX6_isIn 3 (some .boolean) :: ([])
def wsX6_isSquare : List Cond := .code yX6_isSquare cX6_isSquare 1 (some .boolean) :: ([.methodLink RX6 69 yX6_isIn, .static yX6_isIn, .initialized RX6, .code yX6_isIn cX6_isIn 3 (some .boolean)])
def wsX6_isNode : List Cond := .code yX6_isNode cX6_isNode 2 (some .boolean) :: ([.fieldLink RX6 28 "BoardNotationModel" "nodes" "I", .methodLink RX6 69 yX6_isIn, .static yX6_isIn, .initialized RX6, .code yX6_isIn cX6_isIn 3 (some .boolean)] ++ wsX60)
def wsX6_kindOf : List Cond := .code yX6_kindOf cX6_kindOf 3 (some .int) :: ([.fieldLink RX6 80 "BoardNotationModel" "kinds" "I", .fieldLink RX6 9 "BoardNotationModel" "letters" "[I"] ++ wsX60)
def wsX6_addKind : List Cond := .code yX6_addKind cX6_addKind 2 (some .int) :: ([.fieldLink RX6 66 "BoardNotationModel" "thrown" "I", .fieldLink RX6 80 "BoardNotationModel" "kinds" "I", .fieldLink RX6 28 "BoardNotationModel" "nodes" "I", .fieldLink RX6 9 "BoardNotationModel" "letters" "[I", .methodLink RX6 69 yX6_isIn, .static yX6_isIn, .initialized RX6, .code yX6_isIn cX6_isIn 3 (some .boolean), .methodLink RX6 73 yX6_kindOf, .instanceMethod yX6_kindOf, .selects RX6 yX6_kindOf yX6_kindOf, .code yX6_kindOf cX6_kindOf 3 (some .int), .methodLink RX6 77 yX6_fail, .instanceMethod yX6_fail, .selects RX6 yX6_fail yX6_fail, .code yX6_fail cX6_fail 2 (some .int)] ++ wsX60)
def wsX6_addStep : List Cond := .code yX6_addStep cX6_addStep 6 (some .int) :: ([.fieldLink RX6 66 "BoardNotationModel" "thrown" "I", .fieldLink RX6 80 "BoardNotationModel" "kinds" "I", .fieldLink RX6 13 "BoardNotationModel" "manySteps" "[I", .fieldLink RX6 28 "BoardNotationModel" "nodes" "I", .fieldLink RX6 16 "BoardNotationModel" "steps" "[I", .methodLink RX6 69 yX6_isIn, .static yX6_isIn, .initialized RX6, .code yX6_isIn cX6_isIn 3 (some .boolean), .methodLink RX6 77 yX6_fail, .instanceMethod yX6_fail, .selects RX6 yX6_fail yX6_fail, .code yX6_fail cX6_fail 2 (some .int)] ++ wsX60)
def wsX6_put : List Cond := .code yX6_put cX6_put 5 (some .int) :: ([.fieldLink RX6 66 "BoardNotationModel" "thrown" "I", .fieldLink RX6 80 "BoardNotationModel" "kinds" "I", .fieldLink RX6 28 "BoardNotationModel" "nodes" "I", .fieldLink RX6 19 "BoardNotationModel" "first" "[I", .fieldLink RX6 22 "BoardNotationModel" "board" "[I", .methodLink RX6 83 yX6_isSquare, .static yX6_isSquare, .initialized RX6, .code yX6_isSquare cX6_isSquare 1 (some .boolean), .methodLink RX6 69 yX6_isIn, .static yX6_isIn, .code yX6_isIn cX6_isIn 3 (some .boolean), .methodLink RX6 77 yX6_fail, .instanceMethod yX6_fail, .selects RX6 yX6_fail yX6_fail, .code yX6_fail cX6_fail 2 (some .int)] ++ wsX60)
def wsX6_get : List Cond := .code yX6_get cX6_get 3 (some .int) :: ([.fieldLink RX6 32 "BoardNotationModel" "table" "[I"] ++ wsX60)
def wsX6_sideOf : List Cond := .code yX6_sideOf cX6_sideOf 1 (some .int) :: ([])
def wsX6_play : List Cond := .code yX6_play cX6_play 3 none :: ([])
def wsX6_set : List Cond := .code yX6_set cX6_set 4 none :: ([.fieldLink RX6 19 "BoardNotationModel" "first" "[I", .fieldLink RX6 22 "BoardNotationModel" "board" "[I", .methodLink RX6 60 arraycopyName, .native arraycopyName, .static arraycopyName, .initialized "java/lang/System", .fieldLink RX6 51 "BoardNotationModel" "way" "[I", .methodLink RX6 87 yX6_get, .instanceMethod yX6_get, .selects RX6 yX6_get yX6_get, .initialized RX6, .code yX6_get cX6_get 3 (some .int), .fieldLink RX6 32 "BoardNotationModel" "table" "[I", .methodLink RX6 91 yX6_play, .static yX6_play, .code yX6_play cX6_play 3 none] ++ wsX60)
def wsX6_turn : List Cond := .code yX6_turn cX6_turn 1 (some .int) :: ([.fieldLink RX6 95 "BoardNotationModel" "present" "I", .methodLink RX6 87 yX6_get, .instanceMethod yX6_get, .selects RX6 yX6_get yX6_get, .initialized RX6, .code yX6_get cX6_get 3 (some .int), .fieldLink RX6 32 "BoardNotationModel" "table" "[I"] ++ wsX60)
def wsX6_target : List Cond := .code yX6_target cX6_target 8 (some .int) :: ([.fieldLink RX6 16 "BoardNotationModel" "steps" "[I", .methodLink RX6 69 yX6_isIn, .static yX6_isIn, .initialized RX6, .code yX6_isIn cX6_isIn 3 (some .boolean)] ++ wsX60)
def wsX6_reach : List Cond := .code yX6_reach cX6_reach 3 (some .int) :: ([.fieldLink RX6 16 "BoardNotationModel" "steps" "[I"] ++ wsX60)
def wsX6_reaches : List Cond := .code yX6_reaches cX6_reaches 9 (some .boolean) :: ([.fieldLink RX6 13 "BoardNotationModel" "manySteps" "[I", .methodLink RX6 98 yX6_sideOf, .static yX6_sideOf, .initialized RX6, .code yX6_sideOf cX6_sideOf 1 (some .int), .methodLink RX6 101 yX6_reach, .instanceMethod yX6_reach, .selects RX6 yX6_reach yX6_reach, .code yX6_reach cX6_reach 3 (some .int), .fieldLink RX6 16 "BoardNotationModel" "steps" "[I", .methodLink RX6 104 yX6_target, .instanceMethod yX6_target, .selects RX6 yX6_target yX6_target, .code yX6_target cX6_target 8 (some .int), .methodLink RX6 69 yX6_isIn, .static yX6_isIn, .code yX6_isIn cX6_isIn 3 (some .boolean)] ++ wsX60)
def wsX6_isChecked : List Cond := .code yX6_isChecked cX6_isChecked 5 (some .boolean) :: ([.methodLink RX6 98 yX6_sideOf, .static yX6_sideOf, .initialized RX6, .code yX6_sideOf cX6_sideOf 1 (some .int), .methodLink RX6 108 yX6_reaches, .instanceMethod yX6_reaches, .selects RX6 yX6_reaches yX6_reaches, .code yX6_reaches cX6_reaches 9 (some .boolean), .fieldLink RX6 13 "BoardNotationModel" "manySteps" "[I", .methodLink RX6 101 yX6_reach, .instanceMethod yX6_reach, .selects RX6 yX6_reach yX6_reach, .code yX6_reach cX6_reach 3 (some .int), .fieldLink RX6 16 "BoardNotationModel" "steps" "[I", .methodLink RX6 104 yX6_target, .instanceMethod yX6_target, .selects RX6 yX6_target yX6_target, .code yX6_target cX6_target 8 (some .int), .methodLink RX6 69 yX6_isIn, .static yX6_isIn, .code yX6_isIn cX6_isIn 3 (some .boolean)] ++ wsX60)
def wsX6_isLegal_r1 : List Cond := [Cond.fieldLink RX6 22 "BoardNotationModel" "board" "[I", Cond.fieldLink RX6 25 "BoardNotationModel" "trial" "[I", Cond.methodLink RX6 60 arraycopyName, Cond.native arraycopyName, Cond.static arraycopyName, Cond.initialized "java/lang/System", Cond.methodLink RX6 91 yX6_play, Cond.static yX6_play, Cond.initialized RX6, Cond.code yX6_play cX6_play 3 none, Cond.methodLink RX6 98 yX6_sideOf, Cond.static yX6_sideOf, Cond.code yX6_sideOf cX6_sideOf 1 (some .int), Cond.methodLink RX6 112 yX6_isChecked, Cond.instanceMethod yX6_isChecked, Cond.selects RX6 yX6_isChecked yX6_isChecked, Cond.code yX6_isChecked cX6_isChecked 5 (some .boolean), Cond.methodLink RX6 108 yX6_reaches, Cond.instanceMethod yX6_reaches, Cond.selects RX6 yX6_reaches yX6_reaches, Cond.code yX6_reaches cX6_reaches 9 (some .boolean), Cond.fieldLink RX6 13 "BoardNotationModel" "manySteps" "[I", Cond.methodLink RX6 101 yX6_reach, Cond.instanceMethod yX6_reach]
def wsX6_isLegal_r2 : List Cond := [Cond.selects RX6 yX6_reach yX6_reach, Cond.code yX6_reach cX6_reach 3 (some .int), Cond.fieldLink RX6 16 "BoardNotationModel" "steps" "[I", Cond.methodLink RX6 104 yX6_target, Cond.instanceMethod yX6_target, Cond.selects RX6 yX6_target yX6_target, Cond.code yX6_target cX6_target 8 (some .int), Cond.methodLink RX6 69 yX6_isIn, Cond.static yX6_isIn, Cond.code yX6_isIn cX6_isIn 3 (some .boolean)]
def wsX6_isLegal : List Cond := .code yX6_isLegal cX6_isLegal 3 (some .boolean) :: ((wsX6_isLegal_r1 ++ wsX6_isLegal_r2) ++ wsX60)
def wsX6_legalMoves_r1 : List Cond := [Cond.fieldLink RX6 22 "BoardNotationModel" "board" "[I", Cond.methodLink RX6 98 yX6_sideOf, Cond.static yX6_sideOf, Cond.initialized RX6, Cond.code yX6_sideOf cX6_sideOf 1 (some .int), Cond.methodLink RX6 108 yX6_reaches, Cond.instanceMethod yX6_reaches, Cond.selects RX6 yX6_reaches yX6_reaches, Cond.code yX6_reaches cX6_reaches 9 (some .boolean), Cond.fieldLink RX6 13 "BoardNotationModel" "manySteps" "[I", Cond.methodLink RX6 101 yX6_reach, Cond.instanceMethod yX6_reach, Cond.selects RX6 yX6_reach yX6_reach, Cond.code yX6_reach cX6_reach 3 (some .int), Cond.fieldLink RX6 16 "BoardNotationModel" "steps" "[I", Cond.methodLink RX6 104 yX6_target, Cond.instanceMethod yX6_target, Cond.selects RX6 yX6_target yX6_target, Cond.code yX6_target cX6_target 8 (some .int), Cond.methodLink RX6 69 yX6_isIn, Cond.static yX6_isIn, Cond.code yX6_isIn cX6_isIn 3 (some .boolean), Cond.methodLink RX6 116 yX6_isLegal, Cond.instanceMethod yX6_isLegal]
def wsX6_legalMoves_r2 : List Cond := [Cond.selects RX6 yX6_isLegal yX6_isLegal, Cond.code yX6_isLegal cX6_isLegal 3 (some .boolean), Cond.fieldLink RX6 25 "BoardNotationModel" "trial" "[I", Cond.methodLink RX6 60 arraycopyName, Cond.native arraycopyName, Cond.static arraycopyName, Cond.initialized "java/lang/System", Cond.methodLink RX6 91 yX6_play, Cond.static yX6_play, Cond.code yX6_play cX6_play 3 none, Cond.methodLink RX6 112 yX6_isChecked, Cond.instanceMethod yX6_isChecked, Cond.selects RX6 yX6_isChecked yX6_isChecked, Cond.code yX6_isChecked cX6_isChecked 5 (some .boolean)]
def wsX6_legalMoves : List Cond := .code yX6_legalMoves cX6_legalMoves 6 (some .int) :: ((wsX6_legalMoves_r1 ++ wsX6_legalMoves_r2) ++ wsX60)
def wsX6_at : List Cond := .code yX6_at cX6_at 2 (some .int) :: ([.fieldLink RX6 66 "BoardNotationModel" "thrown" "I", .fieldLink RX6 22 "BoardNotationModel" "board" "[I", .methodLink RX6 83 yX6_isSquare, .static yX6_isSquare, .initialized RX6, .code yX6_isSquare cX6_isSquare 1 (some .boolean), .methodLink RX6 69 yX6_isIn, .static yX6_isIn, .code yX6_isIn cX6_isIn 3 (some .boolean), .methodLink RX6 77 yX6_fail, .instanceMethod yX6_fail, .selects RX6 yX6_fail yX6_fail, .code yX6_fail cX6_fail 2 (some .int)] ++ wsX60)
def wsX6_stateTold_r1 : List Cond := [Cond.fieldLink RX6 22 "BoardNotationModel" "board" "[I", Cond.fieldLink RX6 95 "BoardNotationModel" "present" "I", Cond.fieldLink RX6 28 "BoardNotationModel" "nodes" "I", Cond.fieldLink RX6 80 "BoardNotationModel" "kinds" "I", Cond.fieldLink RX6 127 "BoardNotationModel" "taped" "I", Cond.methodLink RX6 120 yX6_turn, Cond.instanceMethod yX6_turn, Cond.selects RX6 yX6_turn yX6_turn, Cond.initialized RX6, Cond.code yX6_turn cX6_turn 1 (some .int), Cond.methodLink RX6 87 yX6_get, Cond.instanceMethod yX6_get, Cond.selects RX6 yX6_get yX6_get, Cond.code yX6_get cX6_get 3 (some .int), Cond.fieldLink RX6 32 "BoardNotationModel" "table" "[I", Cond.methodLink RX6 112 yX6_isChecked, Cond.instanceMethod yX6_isChecked, Cond.selects RX6 yX6_isChecked yX6_isChecked, Cond.code yX6_isChecked cX6_isChecked 5 (some .boolean), Cond.methodLink RX6 98 yX6_sideOf, Cond.static yX6_sideOf, Cond.code yX6_sideOf cX6_sideOf 1 (some .int), Cond.methodLink RX6 108 yX6_reaches, Cond.instanceMethod yX6_reaches]
def wsX6_stateTold_r2 : List Cond := [Cond.selects RX6 yX6_reaches yX6_reaches, Cond.code yX6_reaches cX6_reaches 9 (some .boolean), Cond.fieldLink RX6 13 "BoardNotationModel" "manySteps" "[I", Cond.methodLink RX6 101 yX6_reach, Cond.instanceMethod yX6_reach, Cond.selects RX6 yX6_reach yX6_reach, Cond.code yX6_reach cX6_reach 3 (some .int), Cond.fieldLink RX6 16 "BoardNotationModel" "steps" "[I", Cond.methodLink RX6 104 yX6_target, Cond.instanceMethod yX6_target, Cond.selects RX6 yX6_target yX6_target, Cond.code yX6_target cX6_target 8 (some .int), Cond.methodLink RX6 69 yX6_isIn, Cond.static yX6_isIn, Cond.code yX6_isIn cX6_isIn 3 (some .boolean), Cond.methodLink RX6 124 yX6_legalMoves, Cond.instanceMethod yX6_legalMoves, Cond.selects RX6 yX6_legalMoves yX6_legalMoves, Cond.code yX6_legalMoves cX6_legalMoves 6 (some .int), Cond.methodLink RX6 116 yX6_isLegal, Cond.instanceMethod yX6_isLegal, Cond.selects RX6 yX6_isLegal yX6_isLegal, Cond.code yX6_isLegal cX6_isLegal 3 (some .boolean), Cond.fieldLink RX6 25 "BoardNotationModel" "trial" "[I"]
def wsX6_stateTold_r3 : List Cond := [Cond.methodLink RX6 60 arraycopyName, Cond.native arraycopyName, Cond.static arraycopyName, Cond.initialized "java/lang/System", Cond.methodLink RX6 91 yX6_play, Cond.static yX6_play, Cond.code yX6_play cX6_play 3 none]
def wsX6_stateTold : List Cond := .code yX6_stateTold cX6_stateTold 2 (some .int) :: ((wsX6_stateTold_r1 ++ (wsX6_stateTold_r2 ++ wsX6_stateTold_r3)) ++ wsX60)
def wsX6_state_r1 : List Cond := [Cond.fieldLink RX6 66 "BoardNotationModel" "thrown" "I", Cond.methodLink RX6 69 yX6_isIn, Cond.static yX6_isIn, Cond.initialized RX6, Cond.code yX6_isIn cX6_isIn 3 (some .boolean), Cond.methodLink RX6 130 yX6_stateTold, Cond.instanceMethod yX6_stateTold, Cond.selects RX6 yX6_stateTold yX6_stateTold, Cond.code yX6_stateTold cX6_stateTold 2 (some .int), Cond.fieldLink RX6 22 "BoardNotationModel" "board" "[I", Cond.fieldLink RX6 95 "BoardNotationModel" "present" "I", Cond.fieldLink RX6 28 "BoardNotationModel" "nodes" "I", Cond.fieldLink RX6 80 "BoardNotationModel" "kinds" "I", Cond.fieldLink RX6 127 "BoardNotationModel" "taped" "I", Cond.methodLink RX6 120 yX6_turn, Cond.instanceMethod yX6_turn, Cond.selects RX6 yX6_turn yX6_turn, Cond.code yX6_turn cX6_turn 1 (some .int), Cond.methodLink RX6 87 yX6_get, Cond.instanceMethod yX6_get, Cond.selects RX6 yX6_get yX6_get, Cond.code yX6_get cX6_get 3 (some .int), Cond.fieldLink RX6 32 "BoardNotationModel" "table" "[I", Cond.methodLink RX6 112 yX6_isChecked]
def wsX6_state_r2 : List Cond := [Cond.instanceMethod yX6_isChecked, Cond.selects RX6 yX6_isChecked yX6_isChecked, Cond.code yX6_isChecked cX6_isChecked 5 (some .boolean), Cond.methodLink RX6 98 yX6_sideOf, Cond.static yX6_sideOf, Cond.code yX6_sideOf cX6_sideOf 1 (some .int), Cond.methodLink RX6 108 yX6_reaches, Cond.instanceMethod yX6_reaches, Cond.selects RX6 yX6_reaches yX6_reaches, Cond.code yX6_reaches cX6_reaches 9 (some .boolean), Cond.fieldLink RX6 13 "BoardNotationModel" "manySteps" "[I", Cond.methodLink RX6 101 yX6_reach, Cond.instanceMethod yX6_reach, Cond.selects RX6 yX6_reach yX6_reach, Cond.code yX6_reach cX6_reach 3 (some .int), Cond.fieldLink RX6 16 "BoardNotationModel" "steps" "[I", Cond.methodLink RX6 104 yX6_target, Cond.instanceMethod yX6_target, Cond.selects RX6 yX6_target yX6_target, Cond.code yX6_target cX6_target 8 (some .int), Cond.methodLink RX6 124 yX6_legalMoves, Cond.instanceMethod yX6_legalMoves, Cond.selects RX6 yX6_legalMoves yX6_legalMoves, Cond.code yX6_legalMoves cX6_legalMoves 6 (some .int)]
def wsX6_state_r3 : List Cond := [Cond.methodLink RX6 116 yX6_isLegal, Cond.instanceMethod yX6_isLegal, Cond.selects RX6 yX6_isLegal yX6_isLegal, Cond.code yX6_isLegal cX6_isLegal 3 (some .boolean), Cond.fieldLink RX6 25 "BoardNotationModel" "trial" "[I", Cond.methodLink RX6 60 arraycopyName, Cond.native arraycopyName, Cond.static arraycopyName, Cond.initialized "java/lang/System", Cond.methodLink RX6 91 yX6_play, Cond.static yX6_play, Cond.code yX6_play cX6_play 3 none, Cond.methodLink RX6 77 yX6_fail, Cond.instanceMethod yX6_fail, Cond.selects RX6 yX6_fail yX6_fail, Cond.code yX6_fail cX6_fail 2 (some .int)]
def wsX6_state : List Cond := .code yX6_state cX6_state 2 (some .int) :: ((wsX6_state_r1 ++ (wsX6_state_r2 ++ wsX6_state_r3)) ++ wsX60)
def wsX6_why_r1 : List Cond := [Cond.fieldLink RX6 22 "BoardNotationModel" "board" "[I", Cond.methodLink RX6 98 yX6_sideOf, Cond.static yX6_sideOf, Cond.initialized RX6, Cond.code yX6_sideOf cX6_sideOf 1 (some .int), Cond.methodLink RX6 120 yX6_turn, Cond.instanceMethod yX6_turn, Cond.selects RX6 yX6_turn yX6_turn, Cond.code yX6_turn cX6_turn 1 (some .int), Cond.fieldLink RX6 95 "BoardNotationModel" "present" "I", Cond.methodLink RX6 87 yX6_get, Cond.instanceMethod yX6_get, Cond.selects RX6 yX6_get yX6_get, Cond.code yX6_get cX6_get 3 (some .int), Cond.fieldLink RX6 32 "BoardNotationModel" "table" "[I", Cond.methodLink RX6 108 yX6_reaches, Cond.instanceMethod yX6_reaches, Cond.selects RX6 yX6_reaches yX6_reaches, Cond.code yX6_reaches cX6_reaches 9 (some .boolean), Cond.fieldLink RX6 13 "BoardNotationModel" "manySteps" "[I", Cond.methodLink RX6 101 yX6_reach, Cond.instanceMethod yX6_reach, Cond.selects RX6 yX6_reach yX6_reach, Cond.code yX6_reach cX6_reach 3 (some .int)]
def wsX6_why_r2 : List Cond := [Cond.fieldLink RX6 16 "BoardNotationModel" "steps" "[I", Cond.methodLink RX6 104 yX6_target, Cond.instanceMethod yX6_target, Cond.selects RX6 yX6_target yX6_target, Cond.code yX6_target cX6_target 8 (some .int), Cond.methodLink RX6 69 yX6_isIn, Cond.static yX6_isIn, Cond.code yX6_isIn cX6_isIn 3 (some .boolean), Cond.methodLink RX6 116 yX6_isLegal, Cond.instanceMethod yX6_isLegal, Cond.selects RX6 yX6_isLegal yX6_isLegal, Cond.code yX6_isLegal cX6_isLegal 3 (some .boolean), Cond.fieldLink RX6 25 "BoardNotationModel" "trial" "[I", Cond.methodLink RX6 60 arraycopyName, Cond.native arraycopyName, Cond.static arraycopyName, Cond.initialized "java/lang/System", Cond.methodLink RX6 91 yX6_play, Cond.static yX6_play, Cond.code yX6_play cX6_play 3 none, Cond.methodLink RX6 112 yX6_isChecked, Cond.instanceMethod yX6_isChecked, Cond.selects RX6 yX6_isChecked yX6_isChecked, Cond.code yX6_isChecked cX6_isChecked 5 (some .boolean)]
def wsX6_why : List Cond := .code yX6_why cX6_why 3 (some .int) :: ((wsX6_why_r1 ++ wsX6_why_r2) ++ wsX60)
def wsX6_reason_r1 : List Cond := [Cond.fieldLink RX6 66 "BoardNotationModel" "thrown" "I", Cond.methodLink RX6 83 yX6_isSquare, Cond.static yX6_isSquare, Cond.initialized RX6, Cond.code yX6_isSquare cX6_isSquare 1 (some .boolean), Cond.methodLink RX6 69 yX6_isIn, Cond.static yX6_isIn, Cond.code yX6_isIn cX6_isIn 3 (some .boolean), Cond.methodLink RX6 133 yX6_why, Cond.instanceMethod yX6_why, Cond.selects RX6 yX6_why yX6_why, Cond.code yX6_why cX6_why 3 (some .int), Cond.fieldLink RX6 22 "BoardNotationModel" "board" "[I", Cond.methodLink RX6 98 yX6_sideOf, Cond.static yX6_sideOf, Cond.code yX6_sideOf cX6_sideOf 1 (some .int), Cond.methodLink RX6 120 yX6_turn, Cond.instanceMethod yX6_turn, Cond.selects RX6 yX6_turn yX6_turn, Cond.code yX6_turn cX6_turn 1 (some .int), Cond.fieldLink RX6 95 "BoardNotationModel" "present" "I", Cond.methodLink RX6 87 yX6_get, Cond.instanceMethod yX6_get, Cond.selects RX6 yX6_get yX6_get]
def wsX6_reason_r2 : List Cond := [Cond.code yX6_get cX6_get 3 (some .int), Cond.fieldLink RX6 32 "BoardNotationModel" "table" "[I", Cond.methodLink RX6 108 yX6_reaches, Cond.instanceMethod yX6_reaches, Cond.selects RX6 yX6_reaches yX6_reaches, Cond.code yX6_reaches cX6_reaches 9 (some .boolean), Cond.fieldLink RX6 13 "BoardNotationModel" "manySteps" "[I", Cond.methodLink RX6 101 yX6_reach, Cond.instanceMethod yX6_reach, Cond.selects RX6 yX6_reach yX6_reach, Cond.code yX6_reach cX6_reach 3 (some .int), Cond.fieldLink RX6 16 "BoardNotationModel" "steps" "[I", Cond.methodLink RX6 104 yX6_target, Cond.instanceMethod yX6_target, Cond.selects RX6 yX6_target yX6_target, Cond.code yX6_target cX6_target 8 (some .int), Cond.methodLink RX6 116 yX6_isLegal, Cond.instanceMethod yX6_isLegal, Cond.selects RX6 yX6_isLegal yX6_isLegal, Cond.code yX6_isLegal cX6_isLegal 3 (some .boolean), Cond.fieldLink RX6 25 "BoardNotationModel" "trial" "[I", Cond.methodLink RX6 60 arraycopyName, Cond.native arraycopyName, Cond.static arraycopyName]
def wsX6_reason_r3 : List Cond := [Cond.initialized "java/lang/System", Cond.methodLink RX6 91 yX6_play, Cond.static yX6_play, Cond.code yX6_play cX6_play 3 none, Cond.methodLink RX6 112 yX6_isChecked, Cond.instanceMethod yX6_isChecked, Cond.selects RX6 yX6_isChecked yX6_isChecked, Cond.code yX6_isChecked cX6_isChecked 5 (some .boolean), Cond.methodLink RX6 77 yX6_fail, Cond.instanceMethod yX6_fail, Cond.selects RX6 yX6_fail yX6_fail, Cond.code yX6_fail cX6_fail 2 (some .int)]
def wsX6_reason : List Cond := .code yX6_reason cX6_reason 3 (some .int) :: ((wsX6_reason_r1 ++ (wsX6_reason_r2 ++ wsX6_reason_r3)) ++ wsX60)
def wsX6_continuation0 : List Cond := .code yX6_continuation0 cX6_continuation0 3 (some .int) :: ([.fieldLink RX6 36 "BoardNotationModel" "continuations" "[I"] ++ wsX60)
def wsX6_known : List Cond := .code yX6_known cX6_known 5 (some .int) :: ([.fieldLink RX6 95 "BoardNotationModel" "present" "I", .methodLink RX6 87 yX6_get, .instanceMethod yX6_get, .selects RX6 yX6_get yX6_get, .initialized RX6, .code yX6_get cX6_get 3 (some .int), .fieldLink RX6 32 "BoardNotationModel" "table" "[I", .methodLink RX6 136 yX6_continuation0, .instanceMethod yX6_continuation0, .selects RX6 yX6_continuation0 yX6_continuation0, .code yX6_continuation0 cX6_continuation0 3 (some .int), .fieldLink RX6 36 "BoardNotationModel" "continuations" "[I"] ++ wsX60)
def wsX6_playOn_r1 : List Cond := [Cond.fieldLink RX6 28 "BoardNotationModel" "nodes" "I", Cond.arrayClass .int, Cond.fieldLink RX6 95 "BoardNotationModel" "present" "I", Cond.fieldLink RX6 32 "BoardNotationModel" "table" "[I", Cond.methodLink RX6 60 arraycopyName, Cond.native arraycopyName, Cond.static arraycopyName, Cond.initialized "java/lang/System", Cond.fieldLink RX6 36 "BoardNotationModel" "continuations" "[I", Cond.fieldLink RX6 22 "BoardNotationModel" "board" "[I", Cond.methodLink RX6 139 yX6_known, Cond.instanceMethod yX6_known, Cond.selects RX6 yX6_known yX6_known, Cond.initialized RX6, Cond.code yX6_known cX6_known 5 (some .int), Cond.methodLink RX6 87 yX6_get, Cond.instanceMethod yX6_get, Cond.selects RX6 yX6_get yX6_get, Cond.code yX6_get cX6_get 3 (some .int), Cond.methodLink RX6 136 yX6_continuation0, Cond.instanceMethod yX6_continuation0, Cond.selects RX6 yX6_continuation0 yX6_continuation0, Cond.code yX6_continuation0 cX6_continuation0 3 (some .int), Cond.methodLink RX6 91 yX6_play]
def wsX6_playOn_r2 : List Cond := [Cond.static yX6_play, Cond.code yX6_play cX6_play 3 none]
def wsX6_playOn : List Cond := .code yX6_playOn cX6_playOn 5 none :: ((wsX6_playOn_r1 ++ wsX6_playOn_r2) ++ wsX60)
def wsX6_play__r1 : List Cond := [Cond.fieldLink RX6 66 "BoardNotationModel" "thrown" "I", Cond.fieldLink RX6 28 "BoardNotationModel" "nodes" "I", Cond.fieldLink RX6 95 "BoardNotationModel" "present" "I", Cond.methodLink RX6 83 yX6_isSquare, Cond.static yX6_isSquare, Cond.initialized RX6, Cond.code yX6_isSquare cX6_isSquare 1 (some .boolean), Cond.methodLink RX6 69 yX6_isIn, Cond.static yX6_isIn, Cond.code yX6_isIn cX6_isIn 3 (some .boolean), Cond.methodLink RX6 77 yX6_fail, Cond.instanceMethod yX6_fail, Cond.selects RX6 yX6_fail yX6_fail, Cond.code yX6_fail cX6_fail 2 (some .int), Cond.methodLink RX6 133 yX6_why, Cond.instanceMethod yX6_why, Cond.selects RX6 yX6_why yX6_why, Cond.code yX6_why cX6_why 3 (some .int), Cond.fieldLink RX6 22 "BoardNotationModel" "board" "[I", Cond.methodLink RX6 98 yX6_sideOf, Cond.static yX6_sideOf, Cond.code yX6_sideOf cX6_sideOf 1 (some .int), Cond.methodLink RX6 120 yX6_turn, Cond.instanceMethod yX6_turn]
def wsX6_play__r2 : List Cond := [Cond.selects RX6 yX6_turn yX6_turn, Cond.code yX6_turn cX6_turn 1 (some .int), Cond.methodLink RX6 87 yX6_get, Cond.instanceMethod yX6_get, Cond.selects RX6 yX6_get yX6_get, Cond.code yX6_get cX6_get 3 (some .int), Cond.fieldLink RX6 32 "BoardNotationModel" "table" "[I", Cond.methodLink RX6 108 yX6_reaches, Cond.instanceMethod yX6_reaches, Cond.selects RX6 yX6_reaches yX6_reaches, Cond.code yX6_reaches cX6_reaches 9 (some .boolean), Cond.fieldLink RX6 13 "BoardNotationModel" "manySteps" "[I", Cond.methodLink RX6 101 yX6_reach, Cond.instanceMethod yX6_reach, Cond.selects RX6 yX6_reach yX6_reach, Cond.code yX6_reach cX6_reach 3 (some .int), Cond.fieldLink RX6 16 "BoardNotationModel" "steps" "[I", Cond.methodLink RX6 104 yX6_target, Cond.instanceMethod yX6_target, Cond.selects RX6 yX6_target yX6_target, Cond.code yX6_target cX6_target 8 (some .int), Cond.methodLink RX6 116 yX6_isLegal, Cond.instanceMethod yX6_isLegal, Cond.selects RX6 yX6_isLegal yX6_isLegal]
def wsX6_play__r3 : List Cond := [Cond.code yX6_isLegal cX6_isLegal 3 (some .boolean), Cond.fieldLink RX6 25 "BoardNotationModel" "trial" "[I", Cond.methodLink RX6 60 arraycopyName, Cond.native arraycopyName, Cond.static arraycopyName, Cond.initialized "java/lang/System", Cond.methodLink RX6 91 yX6_play, Cond.static yX6_play, Cond.code yX6_play cX6_play 3 none, Cond.methodLink RX6 112 yX6_isChecked, Cond.instanceMethod yX6_isChecked, Cond.selects RX6 yX6_isChecked yX6_isChecked, Cond.code yX6_isChecked cX6_isChecked 5 (some .boolean), Cond.methodLink RX6 139 yX6_known, Cond.instanceMethod yX6_known, Cond.selects RX6 yX6_known yX6_known, Cond.code yX6_known cX6_known 5 (some .int), Cond.methodLink RX6 136 yX6_continuation0, Cond.instanceMethod yX6_continuation0, Cond.selects RX6 yX6_continuation0 yX6_continuation0, Cond.code yX6_continuation0 cX6_continuation0 3 (some .int), Cond.fieldLink RX6 36 "BoardNotationModel" "continuations" "[I", Cond.methodLink RX6 142 yX6_playOn, Cond.instanceMethod yX6_playOn]
def wsX6_play__r4 : List Cond := [Cond.selects RX6 yX6_playOn yX6_playOn, Cond.code yX6_playOn cX6_playOn 5 none, Cond.arrayClass .int]
def wsX6_play_ : List Cond := .code yX6_play_ cX6_play_ 3 (some .int) :: ((wsX6_play__r1 ++ (wsX6_play__r2 ++ (wsX6_play__r3 ++ wsX6_play__r4))) ++ wsX60)
def wsX6_feed : List Cond := .code yX6_feed cX6_feed 12 (some .int) :: ([.fieldLink RX6 66 "BoardNotationModel" "thrown" "I", .fieldLink RX6 127 "BoardNotationModel" "taped" "I", .fieldLink RX6 39 "BoardNotationModel" "tape" "[I", .arrayClass .int, .methodLink RX6 69 yX6_isIn, .static yX6_isIn, .initialized RX6, .code yX6_isIn cX6_isIn 3 (some .boolean), .methodLink RX6 77 yX6_fail, .instanceMethod yX6_fail, .selects RX6 yX6_fail yX6_fail, .code yX6_fail cX6_fail 2 (some .int)] ++ wsX60)
def wsX6_empty : List Cond := .code yX6_empty cX6_empty 2 (some .int) :: ([.fieldLink RX6 66 "BoardNotationModel" "thrown" "I", .fieldLink RX6 127 "BoardNotationModel" "taped" "I"] ++ wsX60)
def wsX6_fits : List Cond := .code yX6_fits cX6_fits 2 (some .boolean) :: ([.methodLink RX6 69 yX6_isIn, .static yX6_isIn, .initialized RX6, .code yX6_isIn cX6_isIn 3 (some .boolean)])
def wsJ0_coder_7d493 : List Cond := .code yJ0_coder_7d493 cJ0_coder_7d493 1 (some .byte) :: ([.fieldLink RJ0 38 "java/lang/String" "COMPACT_STRINGS" "Z", .fieldLink RJ0 15 "java/lang/String" "coder" "B"])
def wsJ0_length_8abf5 : List Cond := .code yJ0_length_8abf5 cJ0_length_8abf5 1 (some .int) :: ([.fieldLink RJ0 9 "java/lang/String" "value" "[B", .methodLink RJ0 335 yJ0_coder_7d493, .instanceMethod yJ0_coder_7d493, .selects RJ0 yJ0_coder_7d493 yJ0_coder_7d493, .initialized RJ0, .code yJ0_coder_7d493 cJ0_coder_7d493 1 (some .byte), .fieldLink RJ0 38 "java/lang/String" "COMPACT_STRINGS" "Z", .fieldLink RJ0 15 "java/lang/String" "coder" "B"])
def wsJ0_isLatin1_aae02 : List Cond := .code yJ0_isLatin1_aae02 cJ0_isLatin1_aae02 1 (some .boolean) :: ([.fieldLink RJ0 38 "java/lang/String" "COMPACT_STRINGS" "Z", .fieldLink RJ0 15 "java/lang/String" "coder" "B"])
def wsJ3_checkIndex_8e157 : List Cond := .code yJ3_checkIndex_8e157 cJ3_checkIndex_8e157 3 (some .int) :: ([])
def wsJ0_checkIndex_df160 : List Cond := .code yJ0_checkIndex_df160 cJ0_checkIndex_df160 2 none :: ([.fieldLink RJ0 1053 "jdk/internal/util/Preconditions" "SIOOBE_FORMATTER" "Ljava/util/function/BiFunction;", .methodLink RJ0 1059 yJ3_checkIndex_8e157, .static yJ3_checkIndex_8e157, .initialized RJ3, .code yJ3_checkIndex_8e157 cJ3_checkIndex_8e157 3 (some .int)])
def wsJ1_charAt_3b067 : List Cond := .code yJ1_charAt_3b067 cJ1_charAt_3b067 2 (some .char) :: ([.methodLink RJ1 9 yJ0_checkIndex_df160, .static yJ0_checkIndex_df160, .initialized RJ0, .code yJ0_checkIndex_df160 cJ0_checkIndex_df160 2 none, .fieldLink RJ0 1053 "jdk/internal/util/Preconditions" "SIOOBE_FORMATTER" "Ljava/util/function/BiFunction;", .methodLink RJ0 1059 yJ3_checkIndex_8e157, .static yJ3_checkIndex_8e157, .initialized RJ3, .code yJ3_checkIndex_8e157 cJ3_checkIndex_8e157 3 (some .int)])
def wsJ2_length_9d52b : List Cond := .code yJ2_length_9d52b cJ2_length_9d52b 1 (some .int) :: ([])
def wsJ2_checkIndex_2214a : List Cond := .code yJ2_checkIndex_2214a cJ2_checkIndex_2214a 2 none :: ([.methodLink RJ2 48 yJ2_length_9d52b, .static yJ2_length_9d52b, .initialized RJ2, .code yJ2_length_9d52b cJ2_length_9d52b 1 (some .int), .methodLink RJ2 414 yJ0_checkIndex_df160, .static yJ0_checkIndex_df160, .initialized RJ0, .code yJ0_checkIndex_df160 cJ0_checkIndex_df160 2 none, .fieldLink RJ0 1053 "jdk/internal/util/Preconditions" "SIOOBE_FORMATTER" "Ljava/util/function/BiFunction;", .methodLink RJ0 1059 yJ3_checkIndex_8e157, .static yJ3_checkIndex_8e157, .initialized RJ3, .code yJ3_checkIndex_8e157 cJ3_checkIndex_8e157 3 (some .int)])
def wsJ2_getChar_3b067 : List Cond := .code yJ2_getChar_3b067 cJ2_getChar_3b067 2 (some .char) :: ([.fieldLink RJ2 44 "java/lang/StringUTF16" "$assertionsDisabled" "Z", .fieldLink RJ2 59 "java/lang/StringUTF16" "HI_BYTE_SHIFT" "I", .fieldLink RJ2 63 "java/lang/StringUTF16" "LO_BYTE_SHIFT" "I", .methodLink RJ2 48 yJ2_length_9d52b, .static yJ2_length_9d52b, .initialized RJ2, .code yJ2_length_9d52b cJ2_length_9d52b 1 (some .int)])
def wsJ2_charAt_3b067 : List Cond := .code yJ2_charAt_3b067 cJ2_charAt_3b067 2 (some .char) :: ([.methodLink RJ2 67 yJ2_checkIndex_2214a, .static yJ2_checkIndex_2214a, .initialized RJ2, .code yJ2_checkIndex_2214a cJ2_checkIndex_2214a 2 none, .methodLink RJ2 48 yJ2_length_9d52b, .static yJ2_length_9d52b, .code yJ2_length_9d52b cJ2_length_9d52b 1 (some .int), .methodLink RJ2 414 yJ0_checkIndex_df160, .static yJ0_checkIndex_df160, .initialized RJ0, .code yJ0_checkIndex_df160 cJ0_checkIndex_df160 2 none, .fieldLink RJ0 1053 "jdk/internal/util/Preconditions" "SIOOBE_FORMATTER" "Ljava/util/function/BiFunction;", .methodLink RJ0 1059 yJ3_checkIndex_8e157, .static yJ3_checkIndex_8e157, .initialized RJ3, .code yJ3_checkIndex_8e157 cJ3_checkIndex_8e157 3 (some .int), .methodLink RJ2 71 yJ2_getChar_3b067, .static yJ2_getChar_3b067, .code yJ2_getChar_3b067 cJ2_getChar_3b067 2 (some .char), .fieldLink RJ2 44 "java/lang/StringUTF16" "$assertionsDisabled" "Z", .fieldLink RJ2 59 "java/lang/StringUTF16" "HI_BYTE_SHIFT" "I", .fieldLink RJ2 63 "java/lang/StringUTF16" "LO_BYTE_SHIFT" "I"])
def wsJ0_charAt_5068e_r1 : List Cond := [Cond.fieldLink RJ0 9 "java/lang/String" "value" "[B", Cond.methodLink RJ0 492 yJ0_isLatin1_aae02, Cond.instanceMethod yJ0_isLatin1_aae02, Cond.selects RJ0 yJ0_isLatin1_aae02 yJ0_isLatin1_aae02, Cond.initialized RJ0, Cond.code yJ0_isLatin1_aae02 cJ0_isLatin1_aae02 1 (some .boolean), Cond.fieldLink RJ0 38 "java/lang/String" "COMPACT_STRINGS" "Z", Cond.fieldLink RJ0 15 "java/lang/String" "coder" "B", Cond.methodLink RJ0 495 yJ1_charAt_3b067, Cond.static yJ1_charAt_3b067, Cond.initialized RJ1, Cond.code yJ1_charAt_3b067 cJ1_charAt_3b067 2 (some .char), Cond.methodLink RJ1 9 yJ0_checkIndex_df160, Cond.static yJ0_checkIndex_df160, Cond.code yJ0_checkIndex_df160 cJ0_checkIndex_df160 2 none, Cond.fieldLink RJ0 1053 "jdk/internal/util/Preconditions" "SIOOBE_FORMATTER" "Ljava/util/function/BiFunction;", Cond.methodLink RJ0 1059 yJ3_checkIndex_8e157, Cond.static yJ3_checkIndex_8e157, Cond.initialized RJ3, Cond.code yJ3_checkIndex_8e157 cJ3_checkIndex_8e157 3 (some .int), Cond.methodLink RJ0 498 yJ2_charAt_3b067, Cond.static yJ2_charAt_3b067, Cond.initialized RJ2, Cond.code yJ2_charAt_3b067 cJ2_charAt_3b067 2 (some .char)]
def wsJ0_charAt_5068e_r2 : List Cond := [Cond.methodLink RJ2 67 yJ2_checkIndex_2214a, Cond.static yJ2_checkIndex_2214a, Cond.code yJ2_checkIndex_2214a cJ2_checkIndex_2214a 2 none, Cond.methodLink RJ2 48 yJ2_length_9d52b, Cond.static yJ2_length_9d52b, Cond.code yJ2_length_9d52b cJ2_length_9d52b 1 (some .int), Cond.methodLink RJ2 414 yJ0_checkIndex_df160, Cond.methodLink RJ2 71 yJ2_getChar_3b067, Cond.static yJ2_getChar_3b067, Cond.code yJ2_getChar_3b067 cJ2_getChar_3b067 2 (some .char), Cond.fieldLink RJ2 44 "java/lang/StringUTF16" "$assertionsDisabled" "Z", Cond.fieldLink RJ2 59 "java/lang/StringUTF16" "HI_BYTE_SHIFT" "I", Cond.fieldLink RJ2 63 "java/lang/StringUTF16" "LO_BYTE_SHIFT" "I"]
def wsJ0_charAt_5068e : List Cond := .code yJ0_charAt_5068e cJ0_charAt_5068e 2 (some .char) :: ((wsJ0_charAt_5068e_r1 ++ wsJ0_charAt_5068e_r2))
def wsX6_findForm_r1 : List Cond := [Cond.fieldLink RX6 146 "BoardNotationModel" "form" "I", Cond.fieldLink RX6 149 "BoardNotationModel" "badAt" "I", Cond.fieldLink RX6 39 "BoardNotationModel" "tape" "[I", Cond.fieldLink RX6 152 "BoardNotationModel" "FORMS" "[Ljava/lang/String;", Cond.methodLink RX6 169 Lib.Math.max.name, Cond.static Lib.Math.max.name, Cond.initialized "java/lang/Math", Cond.code Lib.Math.max.name Lib.Math.max.code 2 (some .int), Cond.methodLink RX6 69 yX6_isIn, Cond.static yX6_isIn, Cond.initialized RX6, Cond.code yX6_isIn cX6_isIn 3 (some .boolean), Cond.methodLink RX6 156 yJ0_length_8abf5, Cond.instanceMethod yJ0_length_8abf5, Cond.selects RJ0 yJ0_length_8abf5 yJ0_length_8abf5, Cond.initialized RJ0, Cond.code yJ0_length_8abf5 cJ0_length_8abf5 1 (some .int), Cond.fieldLink RJ0 9 "java/lang/String" "value" "[B", Cond.methodLink RJ0 335 yJ0_coder_7d493, Cond.instanceMethod yJ0_coder_7d493, Cond.selects RJ0 yJ0_coder_7d493 yJ0_coder_7d493, Cond.code yJ0_coder_7d493 cJ0_coder_7d493 1 (some .byte), Cond.fieldLink RJ0 38 "java/lang/String" "COMPACT_STRINGS" "Z", Cond.fieldLink RJ0 15 "java/lang/String" "coder" "B"]
def wsX6_findForm_r2 : List Cond := [Cond.methodLink RX6 161 yJ0_charAt_5068e, Cond.instanceMethod yJ0_charAt_5068e, Cond.selects RJ0 yJ0_charAt_5068e yJ0_charAt_5068e, Cond.code yJ0_charAt_5068e cJ0_charAt_5068e 2 (some .char), Cond.methodLink RJ0 492 yJ0_isLatin1_aae02, Cond.instanceMethod yJ0_isLatin1_aae02, Cond.selects RJ0 yJ0_isLatin1_aae02 yJ0_isLatin1_aae02, Cond.code yJ0_isLatin1_aae02 cJ0_isLatin1_aae02 1 (some .boolean), Cond.methodLink RJ0 495 yJ1_charAt_3b067, Cond.static yJ1_charAt_3b067, Cond.initialized RJ1, Cond.code yJ1_charAt_3b067 cJ1_charAt_3b067 2 (some .char), Cond.methodLink RJ1 9 yJ0_checkIndex_df160, Cond.static yJ0_checkIndex_df160, Cond.code yJ0_checkIndex_df160 cJ0_checkIndex_df160 2 none, Cond.fieldLink RJ0 1053 "jdk/internal/util/Preconditions" "SIOOBE_FORMATTER" "Ljava/util/function/BiFunction;", Cond.methodLink RJ0 1059 yJ3_checkIndex_8e157, Cond.static yJ3_checkIndex_8e157, Cond.initialized RJ3, Cond.code yJ3_checkIndex_8e157 cJ3_checkIndex_8e157 3 (some .int), Cond.methodLink RJ0 498 yJ2_charAt_3b067, Cond.static yJ2_charAt_3b067, Cond.initialized RJ2, Cond.code yJ2_charAt_3b067 cJ2_charAt_3b067 2 (some .char)]
def wsX6_findForm_r3 : List Cond := [Cond.methodLink RJ2 67 yJ2_checkIndex_2214a, Cond.static yJ2_checkIndex_2214a, Cond.code yJ2_checkIndex_2214a cJ2_checkIndex_2214a 2 none, Cond.methodLink RJ2 48 yJ2_length_9d52b, Cond.static yJ2_length_9d52b, Cond.code yJ2_length_9d52b cJ2_length_9d52b 1 (some .int), Cond.methodLink RJ2 414 yJ0_checkIndex_df160, Cond.methodLink RJ2 71 yJ2_getChar_3b067, Cond.static yJ2_getChar_3b067, Cond.code yJ2_getChar_3b067 cJ2_getChar_3b067 2 (some .char), Cond.fieldLink RJ2 44 "java/lang/StringUTF16" "$assertionsDisabled" "Z", Cond.fieldLink RJ2 59 "java/lang/StringUTF16" "HI_BYTE_SHIFT" "I", Cond.fieldLink RJ2 63 "java/lang/StringUTF16" "LO_BYTE_SHIFT" "I", Cond.methodLink RX6 165 yX6_fits, Cond.static yX6_fits, Cond.code yX6_fits cX6_fits 2 (some .boolean)]
def wsX6_findForm : List Cond := .code yX6_findForm cX6_findForm 6 (some .boolean) :: ((wsX6_findForm_r1 ++ (wsX6_findForm_r2 ++ wsX6_findForm_r3)) ++ wsX60)
def wsJ1_canEncode_9a6ad : List Cond := .code yJ1_canEncode_9a6ad cJ1_canEncode_9a6ad 1 (some .boolean) :: ([])
def wsJ1_indexOfChar_4cfef : List Cond := .code yJ1_indexOfChar_4cfef cJ1_indexOfChar_4cfef 6 (some .int) :: ([])
def wsJ1_indexOf_4cfef : List Cond := .code yJ1_indexOf_4cfef cJ1_indexOf_4cfef 4 (some .int) :: ([.methodLink RJ1 92 Lib.Math.max.name, .static Lib.Math.max.name, .initialized "java/lang/Math", .code Lib.Math.max.name Lib.Math.max.code 2 (some .int), .methodLink RJ1 38 Lib.Math.min.name, .static Lib.Math.min.name, .code Lib.Math.min.name Lib.Math.min.code 2 (some .int), .methodLink RJ1 88 yJ1_canEncode_9a6ad, .static yJ1_canEncode_9a6ad, .initialized RJ1, .code yJ1_canEncode_9a6ad cJ1_canEncode_9a6ad 1 (some .boolean), .methodLink RJ1 95 yJ1_indexOfChar_4cfef, .static yJ1_indexOfChar_4cfef, .code yJ1_indexOfChar_4cfef cJ1_indexOfChar_4cfef 6 (some .int)])
def wsJ3_checkFromToIndex_8c36e : List Cond := .code yJ3_checkFromToIndex_8c36e cJ3_checkFromToIndex_8c36e 4 (some .int) :: ([])
def wsJ0_checkBoundsBeginEnd_23922 : List Cond := .code yJ0_checkBoundsBeginEnd_23922 cJ0_checkBoundsBeginEnd_23922 3 none :: ([.fieldLink RJ0 1053 "jdk/internal/util/Preconditions" "SIOOBE_FORMATTER" "Ljava/util/function/BiFunction;", .methodLink RJ0 1062 yJ3_checkFromToIndex_8c36e, .static yJ3_checkFromToIndex_8c36e, .initialized RJ3, .code yJ3_checkFromToIndex_8c36e cJ3_checkFromToIndex_8c36e 4 (some .int)])
def wsJ2_checkBoundsBeginEnd_d044e : List Cond := .code yJ2_checkBoundsBeginEnd_d044e cJ2_checkBoundsBeginEnd_d044e 3 none :: ([.methodLink RJ2 48 yJ2_length_9d52b, .static yJ2_length_9d52b, .initialized RJ2, .code yJ2_length_9d52b cJ2_length_9d52b 1 (some .int), .methodLink RJ2 241 yJ0_checkBoundsBeginEnd_23922, .static yJ0_checkBoundsBeginEnd_23922, .initialized RJ0, .code yJ0_checkBoundsBeginEnd_23922 cJ0_checkBoundsBeginEnd_23922 3 none, .fieldLink RJ0 1053 "jdk/internal/util/Preconditions" "SIOOBE_FORMATTER" "Ljava/util/function/BiFunction;", .methodLink RJ0 1062 yJ3_checkFromToIndex_8c36e, .static yJ3_checkFromToIndex_8c36e, .initialized RJ3, .code yJ3_checkFromToIndex_8c36e cJ3_checkFromToIndex_8c36e 4 (some .int)])
def wsJ2_indexOfCharUnsafe_4cfef : List Cond := .code yJ2_indexOfCharUnsafe_4cfef cJ2_indexOfCharUnsafe_4cfef 5 (some .int) :: ([.methodLink RJ2 71 yJ2_getChar_3b067, .static yJ2_getChar_3b067, .initialized RJ2, .code yJ2_getChar_3b067 cJ2_getChar_3b067 2 (some .char), .fieldLink RJ2 44 "java/lang/StringUTF16" "$assertionsDisabled" "Z", .fieldLink RJ2 59 "java/lang/StringUTF16" "HI_BYTE_SHIFT" "I", .fieldLink RJ2 63 "java/lang/StringUTF16" "LO_BYTE_SHIFT" "I", .methodLink RJ2 48 yJ2_length_9d52b, .static yJ2_length_9d52b, .code yJ2_length_9d52b cJ2_length_9d52b 1 (some .int)])
def wsJ2_indexOfChar_4cfef_r1 : List Cond := [Cond.methodLink RJ2 96 yJ2_checkBoundsBeginEnd_d044e, Cond.static yJ2_checkBoundsBeginEnd_d044e, Cond.initialized RJ2, Cond.code yJ2_checkBoundsBeginEnd_d044e cJ2_checkBoundsBeginEnd_d044e 3 none, Cond.methodLink RJ2 48 yJ2_length_9d52b, Cond.static yJ2_length_9d52b, Cond.code yJ2_length_9d52b cJ2_length_9d52b 1 (some .int), Cond.methodLink RJ2 241 yJ0_checkBoundsBeginEnd_23922, Cond.static yJ0_checkBoundsBeginEnd_23922, Cond.initialized RJ0, Cond.code yJ0_checkBoundsBeginEnd_23922 cJ0_checkBoundsBeginEnd_23922 3 none, Cond.fieldLink RJ0 1053 "jdk/internal/util/Preconditions" "SIOOBE_FORMATTER" "Ljava/util/function/BiFunction;", Cond.methodLink RJ0 1062 yJ3_checkFromToIndex_8c36e, Cond.static yJ3_checkFromToIndex_8c36e, Cond.initialized RJ3, Cond.code yJ3_checkFromToIndex_8c36e cJ3_checkFromToIndex_8c36e 4 (some .int), Cond.methodLink RJ2 244 yJ2_indexOfCharUnsafe_4cfef, Cond.static yJ2_indexOfCharUnsafe_4cfef, Cond.code yJ2_indexOfCharUnsafe_4cfef cJ2_indexOfCharUnsafe_4cfef 5 (some .int), Cond.methodLink RJ2 71 yJ2_getChar_3b067, Cond.static yJ2_getChar_3b067, Cond.code yJ2_getChar_3b067 cJ2_getChar_3b067 2 (some .char), Cond.fieldLink RJ2 44 "java/lang/StringUTF16" "$assertionsDisabled" "Z", Cond.fieldLink RJ2 59 "java/lang/StringUTF16" "HI_BYTE_SHIFT" "I"]
def wsJ2_indexOfChar_4cfef_r2 : List Cond := [Cond.fieldLink RJ2 63 "java/lang/StringUTF16" "LO_BYTE_SHIFT" "I"]
def wsJ2_indexOfChar_4cfef : List Cond := .code yJ2_indexOfChar_4cfef cJ2_indexOfChar_4cfef 4 (some .int) :: ((wsJ2_indexOfChar_4cfef_r1 ++ wsJ2_indexOfChar_4cfef_r2))
def wsJ11_isValidCodePoint_9a6ad : List Cond := .code yJ11_isValidCodePoint_9a6ad cJ11_isValidCodePoint_9a6ad 2 (some .boolean) :: ([])
def wsJ11_highSurrogate_5068e : List Cond := .code yJ11_highSurrogate_5068e cJ11_highSurrogate_5068e 1 (some .char) :: ([.constant RJ11 110 (55232)])
def wsJ11_lowSurrogate_5068e : List Cond := .code yJ11_lowSurrogate_5068e cJ11_lowSurrogate_5068e 1 (some .char) :: ([.constant RJ11 76 (56320)])
def wsJ2_indexOfSupplementary_4cfef_r1 : List Cond := [Cond.methodLink RJ2 164 yJ11_isValidCodePoint_9a6ad, Cond.static yJ11_isValidCodePoint_9a6ad, Cond.initialized RJ11, Cond.code yJ11_isValidCodePoint_9a6ad cJ11_isValidCodePoint_9a6ad 2 (some .boolean), Cond.methodLink RJ2 157 yJ11_highSurrogate_5068e, Cond.static yJ11_highSurrogate_5068e, Cond.code yJ11_highSurrogate_5068e cJ11_highSurrogate_5068e 1 (some .char), Cond.constant RJ11 110 (55232), Cond.methodLink RJ2 161 yJ11_lowSurrogate_5068e, Cond.static yJ11_lowSurrogate_5068e, Cond.code yJ11_lowSurrogate_5068e cJ11_lowSurrogate_5068e 1 (some .char), Cond.constant RJ11 76 (56320), Cond.methodLink RJ2 96 yJ2_checkBoundsBeginEnd_d044e, Cond.static yJ2_checkBoundsBeginEnd_d044e, Cond.initialized RJ2, Cond.code yJ2_checkBoundsBeginEnd_d044e cJ2_checkBoundsBeginEnd_d044e 3 none, Cond.methodLink RJ2 48 yJ2_length_9d52b, Cond.static yJ2_length_9d52b, Cond.code yJ2_length_9d52b cJ2_length_9d52b 1 (some .int), Cond.methodLink RJ2 241 yJ0_checkBoundsBeginEnd_23922, Cond.static yJ0_checkBoundsBeginEnd_23922, Cond.initialized RJ0, Cond.code yJ0_checkBoundsBeginEnd_23922 cJ0_checkBoundsBeginEnd_23922 3 none, Cond.fieldLink RJ0 1053 "jdk/internal/util/Preconditions" "SIOOBE_FORMATTER" "Ljava/util/function/BiFunction;"]
def wsJ2_indexOfSupplementary_4cfef_r2 : List Cond := [Cond.methodLink RJ0 1062 yJ3_checkFromToIndex_8c36e, Cond.static yJ3_checkFromToIndex_8c36e, Cond.initialized RJ3, Cond.code yJ3_checkFromToIndex_8c36e cJ3_checkFromToIndex_8c36e 4 (some .int), Cond.methodLink RJ2 71 yJ2_getChar_3b067, Cond.static yJ2_getChar_3b067, Cond.code yJ2_getChar_3b067 cJ2_getChar_3b067 2 (some .char), Cond.fieldLink RJ2 44 "java/lang/StringUTF16" "$assertionsDisabled" "Z", Cond.fieldLink RJ2 59 "java/lang/StringUTF16" "HI_BYTE_SHIFT" "I", Cond.fieldLink RJ2 63 "java/lang/StringUTF16" "LO_BYTE_SHIFT" "I"]
def wsJ2_indexOfSupplementary_4cfef : List Cond := .code yJ2_indexOfSupplementary_4cfef cJ2_indexOfSupplementary_4cfef 7 (some .int) :: ((wsJ2_indexOfSupplementary_4cfef_r1 ++ wsJ2_indexOfSupplementary_4cfef_r2))
def wsJ2_indexOf_4cfef_r1 : List Cond := [Cond.methodLink RJ2 224 Lib.Math.max.name, Cond.static Lib.Math.max.name, Cond.initialized "java/lang/Math", Cond.code Lib.Math.max.name Lib.Math.max.code 2 (some .int), Cond.methodLink RJ2 183 Lib.Math.min.name, Cond.static Lib.Math.min.name, Cond.code Lib.Math.min.name Lib.Math.min.code 2 (some .int), Cond.constant RJ2 227 (65536), Cond.methodLink RJ2 228 yJ2_indexOfChar_4cfef, Cond.static yJ2_indexOfChar_4cfef, Cond.initialized RJ2, Cond.code yJ2_indexOfChar_4cfef cJ2_indexOfChar_4cfef 4 (some .int), Cond.methodLink RJ2 96 yJ2_checkBoundsBeginEnd_d044e, Cond.static yJ2_checkBoundsBeginEnd_d044e, Cond.code yJ2_checkBoundsBeginEnd_d044e cJ2_checkBoundsBeginEnd_d044e 3 none, Cond.methodLink RJ2 48 yJ2_length_9d52b, Cond.static yJ2_length_9d52b, Cond.code yJ2_length_9d52b cJ2_length_9d52b 1 (some .int), Cond.methodLink RJ2 241 yJ0_checkBoundsBeginEnd_23922, Cond.static yJ0_checkBoundsBeginEnd_23922, Cond.initialized RJ0, Cond.code yJ0_checkBoundsBeginEnd_23922 cJ0_checkBoundsBeginEnd_23922 3 none, Cond.fieldLink RJ0 1053 "jdk/internal/util/Preconditions" "SIOOBE_FORMATTER" "Ljava/util/function/BiFunction;", Cond.methodLink RJ0 1062 yJ3_checkFromToIndex_8c36e]
def wsJ2_indexOf_4cfef_r2 : List Cond := [Cond.static yJ3_checkFromToIndex_8c36e, Cond.initialized RJ3, Cond.code yJ3_checkFromToIndex_8c36e cJ3_checkFromToIndex_8c36e 4 (some .int), Cond.methodLink RJ2 244 yJ2_indexOfCharUnsafe_4cfef, Cond.static yJ2_indexOfCharUnsafe_4cfef, Cond.code yJ2_indexOfCharUnsafe_4cfef cJ2_indexOfCharUnsafe_4cfef 5 (some .int), Cond.methodLink RJ2 71 yJ2_getChar_3b067, Cond.static yJ2_getChar_3b067, Cond.code yJ2_getChar_3b067 cJ2_getChar_3b067 2 (some .char), Cond.fieldLink RJ2 44 "java/lang/StringUTF16" "$assertionsDisabled" "Z", Cond.fieldLink RJ2 59 "java/lang/StringUTF16" "HI_BYTE_SHIFT" "I", Cond.fieldLink RJ2 63 "java/lang/StringUTF16" "LO_BYTE_SHIFT" "I", Cond.methodLink RJ2 232 yJ2_indexOfSupplementary_4cfef, Cond.static yJ2_indexOfSupplementary_4cfef, Cond.code yJ2_indexOfSupplementary_4cfef cJ2_indexOfSupplementary_4cfef 7 (some .int), Cond.methodLink RJ2 164 yJ11_isValidCodePoint_9a6ad, Cond.static yJ11_isValidCodePoint_9a6ad, Cond.initialized RJ11, Cond.code yJ11_isValidCodePoint_9a6ad cJ11_isValidCodePoint_9a6ad 2 (some .boolean), Cond.methodLink RJ2 157 yJ11_highSurrogate_5068e, Cond.static yJ11_highSurrogate_5068e, Cond.code yJ11_highSurrogate_5068e cJ11_highSurrogate_5068e 1 (some .char), Cond.constant RJ11 110 (55232), Cond.methodLink RJ2 161 yJ11_lowSurrogate_5068e]
def wsJ2_indexOf_4cfef_r3 : List Cond := [Cond.static yJ11_lowSurrogate_5068e, Cond.code yJ11_lowSurrogate_5068e cJ11_lowSurrogate_5068e 1 (some .char), Cond.constant RJ11 76 (56320)]
def wsJ2_indexOf_4cfef : List Cond := .code yJ2_indexOf_4cfef cJ2_indexOf_4cfef 4 (some .int) :: ((wsJ2_indexOf_4cfef_r1 ++ (wsJ2_indexOf_4cfef_r2 ++ wsJ2_indexOf_4cfef_r3)))
def wsJ0_indexOf_7cf53_r1 : List Cond := [Cond.fieldLink RJ0 9 "java/lang/String" "value" "[B", Cond.methodLink RJ0 492 yJ0_isLatin1_aae02, Cond.instanceMethod yJ0_isLatin1_aae02, Cond.selects RJ0 yJ0_isLatin1_aae02 yJ0_isLatin1_aae02, Cond.initialized RJ0, Cond.code yJ0_isLatin1_aae02 cJ0_isLatin1_aae02 1 (some .boolean), Cond.fieldLink RJ0 38 "java/lang/String" "COMPACT_STRINGS" "Z", Cond.fieldLink RJ0 15 "java/lang/String" "coder" "B", Cond.methodLink RJ0 505 yJ0_length_8abf5, Cond.instanceMethod yJ0_length_8abf5, Cond.selects RJ0 yJ0_length_8abf5 yJ0_length_8abf5, Cond.code yJ0_length_8abf5 cJ0_length_8abf5 1 (some .int), Cond.methodLink RJ0 335 yJ0_coder_7d493, Cond.instanceMethod yJ0_coder_7d493, Cond.selects RJ0 yJ0_coder_7d493 yJ0_coder_7d493, Cond.code yJ0_coder_7d493 cJ0_coder_7d493 1 (some .byte), Cond.methodLink RJ0 637 yJ1_indexOf_4cfef, Cond.static yJ1_indexOf_4cfef, Cond.initialized RJ1, Cond.code yJ1_indexOf_4cfef cJ1_indexOf_4cfef 4 (some .int), Cond.methodLink RJ1 92 Lib.Math.max.name, Cond.static Lib.Math.max.name, Cond.initialized "java/lang/Math", Cond.code Lib.Math.max.name Lib.Math.max.code 2 (some .int)]
def wsJ0_indexOf_7cf53_r2 : List Cond := [Cond.methodLink RJ1 38 Lib.Math.min.name, Cond.static Lib.Math.min.name, Cond.code Lib.Math.min.name Lib.Math.min.code 2 (some .int), Cond.methodLink RJ1 88 yJ1_canEncode_9a6ad, Cond.static yJ1_canEncode_9a6ad, Cond.code yJ1_canEncode_9a6ad cJ1_canEncode_9a6ad 1 (some .boolean), Cond.methodLink RJ1 95 yJ1_indexOfChar_4cfef, Cond.static yJ1_indexOfChar_4cfef, Cond.code yJ1_indexOfChar_4cfef cJ1_indexOfChar_4cfef 6 (some .int), Cond.methodLink RJ0 640 yJ2_indexOf_4cfef, Cond.static yJ2_indexOf_4cfef, Cond.initialized RJ2, Cond.code yJ2_indexOf_4cfef cJ2_indexOf_4cfef 4 (some .int), Cond.methodLink RJ2 224 Lib.Math.max.name, Cond.methodLink RJ2 183 Lib.Math.min.name, Cond.constant RJ2 227 (65536), Cond.methodLink RJ2 228 yJ2_indexOfChar_4cfef, Cond.static yJ2_indexOfChar_4cfef, Cond.code yJ2_indexOfChar_4cfef cJ2_indexOfChar_4cfef 4 (some .int), Cond.methodLink RJ2 96 yJ2_checkBoundsBeginEnd_d044e, Cond.static yJ2_checkBoundsBeginEnd_d044e, Cond.code yJ2_checkBoundsBeginEnd_d044e cJ2_checkBoundsBeginEnd_d044e 3 none, Cond.methodLink RJ2 48 yJ2_length_9d52b, Cond.static yJ2_length_9d52b]
def wsJ0_indexOf_7cf53_r3 : List Cond := [Cond.code yJ2_length_9d52b cJ2_length_9d52b 1 (some .int), Cond.methodLink RJ2 241 yJ0_checkBoundsBeginEnd_23922, Cond.static yJ0_checkBoundsBeginEnd_23922, Cond.code yJ0_checkBoundsBeginEnd_23922 cJ0_checkBoundsBeginEnd_23922 3 none, Cond.fieldLink RJ0 1053 "jdk/internal/util/Preconditions" "SIOOBE_FORMATTER" "Ljava/util/function/BiFunction;", Cond.methodLink RJ0 1062 yJ3_checkFromToIndex_8c36e, Cond.static yJ3_checkFromToIndex_8c36e, Cond.initialized RJ3, Cond.code yJ3_checkFromToIndex_8c36e cJ3_checkFromToIndex_8c36e 4 (some .int), Cond.methodLink RJ2 244 yJ2_indexOfCharUnsafe_4cfef, Cond.static yJ2_indexOfCharUnsafe_4cfef, Cond.code yJ2_indexOfCharUnsafe_4cfef cJ2_indexOfCharUnsafe_4cfef 5 (some .int), Cond.methodLink RJ2 71 yJ2_getChar_3b067, Cond.static yJ2_getChar_3b067, Cond.code yJ2_getChar_3b067 cJ2_getChar_3b067 2 (some .char), Cond.fieldLink RJ2 44 "java/lang/StringUTF16" "$assertionsDisabled" "Z", Cond.fieldLink RJ2 59 "java/lang/StringUTF16" "HI_BYTE_SHIFT" "I", Cond.fieldLink RJ2 63 "java/lang/StringUTF16" "LO_BYTE_SHIFT" "I", Cond.methodLink RJ2 232 yJ2_indexOfSupplementary_4cfef, Cond.static yJ2_indexOfSupplementary_4cfef, Cond.code yJ2_indexOfSupplementary_4cfef cJ2_indexOfSupplementary_4cfef 7 (some .int), Cond.methodLink RJ2 164 yJ11_isValidCodePoint_9a6ad, Cond.static yJ11_isValidCodePoint_9a6ad, Cond.initialized RJ11]
def wsJ0_indexOf_7cf53_r4 : List Cond := [Cond.code yJ11_isValidCodePoint_9a6ad cJ11_isValidCodePoint_9a6ad 2 (some .boolean), Cond.methodLink RJ2 157 yJ11_highSurrogate_5068e, Cond.static yJ11_highSurrogate_5068e, Cond.code yJ11_highSurrogate_5068e cJ11_highSurrogate_5068e 1 (some .char), Cond.constant RJ11 110 (55232), Cond.methodLink RJ2 161 yJ11_lowSurrogate_5068e, Cond.static yJ11_lowSurrogate_5068e, Cond.code yJ11_lowSurrogate_5068e cJ11_lowSurrogate_5068e 1 (some .char), Cond.constant RJ11 76 (56320)]
def wsJ0_indexOf_7cf53 : List Cond := .code yJ0_indexOf_7cf53 cJ0_indexOf_7cf53 3 (some .int) :: ((wsJ0_indexOf_7cf53_r1 ++ (wsJ0_indexOf_7cf53_r2 ++ (wsJ0_indexOf_7cf53_r3 ++ wsJ0_indexOf_7cf53_r4))))
def wsJ0_indexOf_0f7a4_r1 : List Cond := [Cond.methodLink RJ0 633 yJ0_indexOf_7cf53, Cond.instanceMethod yJ0_indexOf_7cf53, Cond.selects RJ0 yJ0_indexOf_7cf53 yJ0_indexOf_7cf53, Cond.initialized RJ0, Cond.code yJ0_indexOf_7cf53 cJ0_indexOf_7cf53 3 (some .int), Cond.fieldLink RJ0 9 "java/lang/String" "value" "[B", Cond.methodLink RJ0 492 yJ0_isLatin1_aae02, Cond.instanceMethod yJ0_isLatin1_aae02, Cond.selects RJ0 yJ0_isLatin1_aae02 yJ0_isLatin1_aae02, Cond.code yJ0_isLatin1_aae02 cJ0_isLatin1_aae02 1 (some .boolean), Cond.fieldLink RJ0 38 "java/lang/String" "COMPACT_STRINGS" "Z", Cond.fieldLink RJ0 15 "java/lang/String" "coder" "B", Cond.methodLink RJ0 505 yJ0_length_8abf5, Cond.instanceMethod yJ0_length_8abf5, Cond.selects RJ0 yJ0_length_8abf5 yJ0_length_8abf5, Cond.code yJ0_length_8abf5 cJ0_length_8abf5 1 (some .int), Cond.methodLink RJ0 335 yJ0_coder_7d493, Cond.instanceMethod yJ0_coder_7d493, Cond.selects RJ0 yJ0_coder_7d493 yJ0_coder_7d493, Cond.code yJ0_coder_7d493 cJ0_coder_7d493 1 (some .byte), Cond.methodLink RJ0 637 yJ1_indexOf_4cfef, Cond.static yJ1_indexOf_4cfef, Cond.initialized RJ1, Cond.code yJ1_indexOf_4cfef cJ1_indexOf_4cfef 4 (some .int)]
def wsJ0_indexOf_0f7a4_r2 : List Cond := [Cond.methodLink RJ1 92 Lib.Math.max.name, Cond.static Lib.Math.max.name, Cond.initialized "java/lang/Math", Cond.code Lib.Math.max.name Lib.Math.max.code 2 (some .int), Cond.methodLink RJ1 38 Lib.Math.min.name, Cond.static Lib.Math.min.name, Cond.code Lib.Math.min.name Lib.Math.min.code 2 (some .int), Cond.methodLink RJ1 88 yJ1_canEncode_9a6ad, Cond.static yJ1_canEncode_9a6ad, Cond.code yJ1_canEncode_9a6ad cJ1_canEncode_9a6ad 1 (some .boolean), Cond.methodLink RJ1 95 yJ1_indexOfChar_4cfef, Cond.static yJ1_indexOfChar_4cfef, Cond.code yJ1_indexOfChar_4cfef cJ1_indexOfChar_4cfef 6 (some .int), Cond.methodLink RJ0 640 yJ2_indexOf_4cfef, Cond.static yJ2_indexOf_4cfef, Cond.initialized RJ2, Cond.code yJ2_indexOf_4cfef cJ2_indexOf_4cfef 4 (some .int), Cond.methodLink RJ2 224 Lib.Math.max.name, Cond.methodLink RJ2 183 Lib.Math.min.name, Cond.constant RJ2 227 (65536), Cond.methodLink RJ2 228 yJ2_indexOfChar_4cfef, Cond.static yJ2_indexOfChar_4cfef, Cond.code yJ2_indexOfChar_4cfef cJ2_indexOfChar_4cfef 4 (some .int), Cond.methodLink RJ2 96 yJ2_checkBoundsBeginEnd_d044e]
def wsJ0_indexOf_0f7a4_r3 : List Cond := [Cond.static yJ2_checkBoundsBeginEnd_d044e, Cond.code yJ2_checkBoundsBeginEnd_d044e cJ2_checkBoundsBeginEnd_d044e 3 none, Cond.methodLink RJ2 48 yJ2_length_9d52b, Cond.static yJ2_length_9d52b, Cond.code yJ2_length_9d52b cJ2_length_9d52b 1 (some .int), Cond.methodLink RJ2 241 yJ0_checkBoundsBeginEnd_23922, Cond.static yJ0_checkBoundsBeginEnd_23922, Cond.code yJ0_checkBoundsBeginEnd_23922 cJ0_checkBoundsBeginEnd_23922 3 none, Cond.fieldLink RJ0 1053 "jdk/internal/util/Preconditions" "SIOOBE_FORMATTER" "Ljava/util/function/BiFunction;", Cond.methodLink RJ0 1062 yJ3_checkFromToIndex_8c36e, Cond.static yJ3_checkFromToIndex_8c36e, Cond.initialized RJ3, Cond.code yJ3_checkFromToIndex_8c36e cJ3_checkFromToIndex_8c36e 4 (some .int), Cond.methodLink RJ2 244 yJ2_indexOfCharUnsafe_4cfef, Cond.static yJ2_indexOfCharUnsafe_4cfef, Cond.code yJ2_indexOfCharUnsafe_4cfef cJ2_indexOfCharUnsafe_4cfef 5 (some .int), Cond.methodLink RJ2 71 yJ2_getChar_3b067, Cond.static yJ2_getChar_3b067, Cond.code yJ2_getChar_3b067 cJ2_getChar_3b067 2 (some .char), Cond.fieldLink RJ2 44 "java/lang/StringUTF16" "$assertionsDisabled" "Z", Cond.fieldLink RJ2 59 "java/lang/StringUTF16" "HI_BYTE_SHIFT" "I", Cond.fieldLink RJ2 63 "java/lang/StringUTF16" "LO_BYTE_SHIFT" "I", Cond.methodLink RJ2 232 yJ2_indexOfSupplementary_4cfef, Cond.static yJ2_indexOfSupplementary_4cfef]
def wsJ0_indexOf_0f7a4_r4 : List Cond := [Cond.code yJ2_indexOfSupplementary_4cfef cJ2_indexOfSupplementary_4cfef 7 (some .int), Cond.methodLink RJ2 164 yJ11_isValidCodePoint_9a6ad, Cond.static yJ11_isValidCodePoint_9a6ad, Cond.initialized RJ11, Cond.code yJ11_isValidCodePoint_9a6ad cJ11_isValidCodePoint_9a6ad 2 (some .boolean), Cond.methodLink RJ2 157 yJ11_highSurrogate_5068e, Cond.static yJ11_highSurrogate_5068e, Cond.code yJ11_highSurrogate_5068e cJ11_highSurrogate_5068e 1 (some .char), Cond.constant RJ11 110 (55232), Cond.methodLink RJ2 161 yJ11_lowSurrogate_5068e, Cond.static yJ11_lowSurrogate_5068e, Cond.code yJ11_lowSurrogate_5068e cJ11_lowSurrogate_5068e 1 (some .char), Cond.constant RJ11 76 (56320)]
def wsJ0_indexOf_0f7a4 : List Cond := .code yJ0_indexOf_0f7a4 cJ0_indexOf_0f7a4 2 (some .int) :: ((wsJ0_indexOf_0f7a4_r1 ++ (wsJ0_indexOf_0f7a4_r2 ++ (wsJ0_indexOf_0f7a4_r3 ++ wsJ0_indexOf_0f7a4_r4))))
def wsJ1_lastIndexOf_7d655 : List Cond := .code yJ1_lastIndexOf_7d655 cJ1_lastIndexOf_7d655 4 (some .int) :: ([.methodLink RJ1 38 Lib.Math.min.name, .static Lib.Math.min.name, .initialized "java/lang/Math", .code Lib.Math.min.name Lib.Math.min.code 2 (some .int), .methodLink RJ1 88 yJ1_canEncode_9a6ad, .static yJ1_canEncode_9a6ad, .initialized RJ1, .code yJ1_canEncode_9a6ad cJ1_canEncode_9a6ad 1 (some .boolean)])
def wsJ2_lastIndexOfSupplementary_7d655_r1 : List Cond := [Cond.methodLink RJ2 183 Lib.Math.min.name, Cond.static Lib.Math.min.name, Cond.initialized "java/lang/Math", Cond.code Lib.Math.min.name Lib.Math.min.code 2 (some .int), Cond.methodLink RJ2 164 yJ11_isValidCodePoint_9a6ad, Cond.static yJ11_isValidCodePoint_9a6ad, Cond.initialized RJ11, Cond.code yJ11_isValidCodePoint_9a6ad cJ11_isValidCodePoint_9a6ad 2 (some .boolean), Cond.methodLink RJ2 157 yJ11_highSurrogate_5068e, Cond.static yJ11_highSurrogate_5068e, Cond.code yJ11_highSurrogate_5068e cJ11_highSurrogate_5068e 1 (some .char), Cond.constant RJ11 110 (55232), Cond.methodLink RJ2 161 yJ11_lowSurrogate_5068e, Cond.static yJ11_lowSurrogate_5068e, Cond.code yJ11_lowSurrogate_5068e cJ11_lowSurrogate_5068e 1 (some .char), Cond.constant RJ11 76 (56320), Cond.methodLink RJ2 71 yJ2_getChar_3b067, Cond.static yJ2_getChar_3b067, Cond.initialized RJ2, Cond.code yJ2_getChar_3b067 cJ2_getChar_3b067 2 (some .char), Cond.fieldLink RJ2 44 "java/lang/StringUTF16" "$assertionsDisabled" "Z", Cond.fieldLink RJ2 59 "java/lang/StringUTF16" "HI_BYTE_SHIFT" "I", Cond.fieldLink RJ2 63 "java/lang/StringUTF16" "LO_BYTE_SHIFT" "I", Cond.methodLink RJ2 48 yJ2_length_9d52b]
def wsJ2_lastIndexOfSupplementary_7d655_r2 : List Cond := [Cond.static yJ2_length_9d52b, Cond.code yJ2_length_9d52b cJ2_length_9d52b 1 (some .int)]
def wsJ2_lastIndexOfSupplementary_7d655 : List Cond := .code yJ2_lastIndexOfSupplementary_7d655 cJ2_lastIndexOfSupplementary_7d655 6 (some .int) :: ((wsJ2_lastIndexOfSupplementary_7d655_r1 ++ wsJ2_lastIndexOfSupplementary_7d655_r2))
def wsJ2_lastIndexOf_7d655_r1 : List Cond := [Cond.constant RJ2 227 (65536), Cond.methodLink RJ2 183 Lib.Math.min.name, Cond.static Lib.Math.min.name, Cond.initialized "java/lang/Math", Cond.code Lib.Math.min.name Lib.Math.min.code 2 (some .int), Cond.methodLink RJ2 71 yJ2_getChar_3b067, Cond.static yJ2_getChar_3b067, Cond.initialized RJ2, Cond.code yJ2_getChar_3b067 cJ2_getChar_3b067 2 (some .char), Cond.fieldLink RJ2 44 "java/lang/StringUTF16" "$assertionsDisabled" "Z", Cond.fieldLink RJ2 59 "java/lang/StringUTF16" "HI_BYTE_SHIFT" "I", Cond.fieldLink RJ2 63 "java/lang/StringUTF16" "LO_BYTE_SHIFT" "I", Cond.methodLink RJ2 48 yJ2_length_9d52b, Cond.static yJ2_length_9d52b, Cond.code yJ2_length_9d52b cJ2_length_9d52b 1 (some .int), Cond.methodLink RJ2 247 yJ2_lastIndexOfSupplementary_7d655, Cond.static yJ2_lastIndexOfSupplementary_7d655, Cond.code yJ2_lastIndexOfSupplementary_7d655 cJ2_lastIndexOfSupplementary_7d655 6 (some .int), Cond.methodLink RJ2 164 yJ11_isValidCodePoint_9a6ad, Cond.static yJ11_isValidCodePoint_9a6ad, Cond.initialized RJ11, Cond.code yJ11_isValidCodePoint_9a6ad cJ11_isValidCodePoint_9a6ad 2 (some .boolean), Cond.methodLink RJ2 157 yJ11_highSurrogate_5068e, Cond.static yJ11_highSurrogate_5068e]
def wsJ2_lastIndexOf_7d655_r2 : List Cond := [Cond.code yJ11_highSurrogate_5068e cJ11_highSurrogate_5068e 1 (some .char), Cond.constant RJ11 110 (55232), Cond.methodLink RJ2 161 yJ11_lowSurrogate_5068e, Cond.static yJ11_lowSurrogate_5068e, Cond.code yJ11_lowSurrogate_5068e cJ11_lowSurrogate_5068e 1 (some .char), Cond.constant RJ11 76 (56320)]
def wsJ2_lastIndexOf_7d655 : List Cond := .code yJ2_lastIndexOf_7d655 cJ2_lastIndexOf_7d655 4 (some .int) :: ((wsJ2_lastIndexOf_7d655_r1 ++ wsJ2_lastIndexOf_7d655_r2))
def wsJ0_lastIndexOf_7cf53_r1 : List Cond := [Cond.fieldLink RJ0 9 "java/lang/String" "value" "[B", Cond.methodLink RJ0 492 yJ0_isLatin1_aae02, Cond.instanceMethod yJ0_isLatin1_aae02, Cond.selects RJ0 yJ0_isLatin1_aae02 yJ0_isLatin1_aae02, Cond.initialized RJ0, Cond.code yJ0_isLatin1_aae02 cJ0_isLatin1_aae02 1 (some .boolean), Cond.fieldLink RJ0 38 "java/lang/String" "COMPACT_STRINGS" "Z", Cond.fieldLink RJ0 15 "java/lang/String" "coder" "B", Cond.methodLink RJ0 644 yJ1_lastIndexOf_7d655, Cond.static yJ1_lastIndexOf_7d655, Cond.initialized RJ1, Cond.code yJ1_lastIndexOf_7d655 cJ1_lastIndexOf_7d655 4 (some .int), Cond.methodLink RJ1 38 Lib.Math.min.name, Cond.static Lib.Math.min.name, Cond.initialized "java/lang/Math", Cond.code Lib.Math.min.name Lib.Math.min.code 2 (some .int), Cond.methodLink RJ1 88 yJ1_canEncode_9a6ad, Cond.static yJ1_canEncode_9a6ad, Cond.code yJ1_canEncode_9a6ad cJ1_canEncode_9a6ad 1 (some .boolean), Cond.methodLink RJ0 646 yJ2_lastIndexOf_7d655, Cond.static yJ2_lastIndexOf_7d655, Cond.initialized RJ2, Cond.code yJ2_lastIndexOf_7d655 cJ2_lastIndexOf_7d655 4 (some .int), Cond.constant RJ2 227 (65536)]
def wsJ0_lastIndexOf_7cf53_r2 : List Cond := [Cond.methodLink RJ2 183 Lib.Math.min.name, Cond.methodLink RJ2 71 yJ2_getChar_3b067, Cond.static yJ2_getChar_3b067, Cond.code yJ2_getChar_3b067 cJ2_getChar_3b067 2 (some .char), Cond.fieldLink RJ2 44 "java/lang/StringUTF16" "$assertionsDisabled" "Z", Cond.fieldLink RJ2 59 "java/lang/StringUTF16" "HI_BYTE_SHIFT" "I", Cond.fieldLink RJ2 63 "java/lang/StringUTF16" "LO_BYTE_SHIFT" "I", Cond.methodLink RJ2 48 yJ2_length_9d52b, Cond.static yJ2_length_9d52b, Cond.code yJ2_length_9d52b cJ2_length_9d52b 1 (some .int), Cond.methodLink RJ2 247 yJ2_lastIndexOfSupplementary_7d655, Cond.static yJ2_lastIndexOfSupplementary_7d655, Cond.code yJ2_lastIndexOfSupplementary_7d655 cJ2_lastIndexOfSupplementary_7d655 6 (some .int), Cond.methodLink RJ2 164 yJ11_isValidCodePoint_9a6ad, Cond.static yJ11_isValidCodePoint_9a6ad, Cond.initialized RJ11, Cond.code yJ11_isValidCodePoint_9a6ad cJ11_isValidCodePoint_9a6ad 2 (some .boolean), Cond.methodLink RJ2 157 yJ11_highSurrogate_5068e, Cond.static yJ11_highSurrogate_5068e, Cond.code yJ11_highSurrogate_5068e cJ11_highSurrogate_5068e 1 (some .char), Cond.constant RJ11 110 (55232), Cond.methodLink RJ2 161 yJ11_lowSurrogate_5068e, Cond.static yJ11_lowSurrogate_5068e, Cond.code yJ11_lowSurrogate_5068e cJ11_lowSurrogate_5068e 1 (some .char)]
def wsJ0_lastIndexOf_7cf53_r3 : List Cond := [Cond.constant RJ11 76 (56320)]
def wsJ0_lastIndexOf_7cf53 : List Cond := .code yJ0_lastIndexOf_7cf53 cJ0_lastIndexOf_7cf53 3 (some .int) :: ((wsJ0_lastIndexOf_7cf53_r1 ++ (wsJ0_lastIndexOf_7cf53_r2 ++ wsJ0_lastIndexOf_7cf53_r3)))
def wsJ0_lastIndexOf_0f7a4_r1 : List Cond := [Cond.methodLink RJ0 505 yJ0_length_8abf5, Cond.instanceMethod yJ0_length_8abf5, Cond.selects RJ0 yJ0_length_8abf5 yJ0_length_8abf5, Cond.initialized RJ0, Cond.code yJ0_length_8abf5 cJ0_length_8abf5 1 (some .int), Cond.fieldLink RJ0 9 "java/lang/String" "value" "[B", Cond.methodLink RJ0 335 yJ0_coder_7d493, Cond.instanceMethod yJ0_coder_7d493, Cond.selects RJ0 yJ0_coder_7d493 yJ0_coder_7d493, Cond.code yJ0_coder_7d493 cJ0_coder_7d493 1 (some .byte), Cond.fieldLink RJ0 38 "java/lang/String" "COMPACT_STRINGS" "Z", Cond.fieldLink RJ0 15 "java/lang/String" "coder" "B", Cond.methodLink RJ0 641 yJ0_lastIndexOf_7cf53, Cond.instanceMethod yJ0_lastIndexOf_7cf53, Cond.selects RJ0 yJ0_lastIndexOf_7cf53 yJ0_lastIndexOf_7cf53, Cond.code yJ0_lastIndexOf_7cf53 cJ0_lastIndexOf_7cf53 3 (some .int), Cond.methodLink RJ0 492 yJ0_isLatin1_aae02, Cond.instanceMethod yJ0_isLatin1_aae02, Cond.selects RJ0 yJ0_isLatin1_aae02 yJ0_isLatin1_aae02, Cond.code yJ0_isLatin1_aae02 cJ0_isLatin1_aae02 1 (some .boolean), Cond.methodLink RJ0 644 yJ1_lastIndexOf_7d655, Cond.static yJ1_lastIndexOf_7d655, Cond.initialized RJ1, Cond.code yJ1_lastIndexOf_7d655 cJ1_lastIndexOf_7d655 4 (some .int)]
def wsJ0_lastIndexOf_0f7a4_r2 : List Cond := [Cond.methodLink RJ1 38 Lib.Math.min.name, Cond.static Lib.Math.min.name, Cond.initialized "java/lang/Math", Cond.code Lib.Math.min.name Lib.Math.min.code 2 (some .int), Cond.methodLink RJ1 88 yJ1_canEncode_9a6ad, Cond.static yJ1_canEncode_9a6ad, Cond.code yJ1_canEncode_9a6ad cJ1_canEncode_9a6ad 1 (some .boolean), Cond.methodLink RJ0 646 yJ2_lastIndexOf_7d655, Cond.static yJ2_lastIndexOf_7d655, Cond.initialized RJ2, Cond.code yJ2_lastIndexOf_7d655 cJ2_lastIndexOf_7d655 4 (some .int), Cond.constant RJ2 227 (65536), Cond.methodLink RJ2 183 Lib.Math.min.name, Cond.methodLink RJ2 71 yJ2_getChar_3b067, Cond.static yJ2_getChar_3b067, Cond.code yJ2_getChar_3b067 cJ2_getChar_3b067 2 (some .char), Cond.fieldLink RJ2 44 "java/lang/StringUTF16" "$assertionsDisabled" "Z", Cond.fieldLink RJ2 59 "java/lang/StringUTF16" "HI_BYTE_SHIFT" "I", Cond.fieldLink RJ2 63 "java/lang/StringUTF16" "LO_BYTE_SHIFT" "I", Cond.methodLink RJ2 48 yJ2_length_9d52b, Cond.static yJ2_length_9d52b, Cond.code yJ2_length_9d52b cJ2_length_9d52b 1 (some .int), Cond.methodLink RJ2 247 yJ2_lastIndexOfSupplementary_7d655, Cond.static yJ2_lastIndexOfSupplementary_7d655]
def wsJ0_lastIndexOf_0f7a4_r3 : List Cond := [Cond.code yJ2_lastIndexOfSupplementary_7d655 cJ2_lastIndexOfSupplementary_7d655 6 (some .int), Cond.methodLink RJ2 164 yJ11_isValidCodePoint_9a6ad, Cond.static yJ11_isValidCodePoint_9a6ad, Cond.initialized RJ11, Cond.code yJ11_isValidCodePoint_9a6ad cJ11_isValidCodePoint_9a6ad 2 (some .boolean), Cond.methodLink RJ2 157 yJ11_highSurrogate_5068e, Cond.static yJ11_highSurrogate_5068e, Cond.code yJ11_highSurrogate_5068e cJ11_highSurrogate_5068e 1 (some .char), Cond.constant RJ11 110 (55232), Cond.methodLink RJ2 161 yJ11_lowSurrogate_5068e, Cond.static yJ11_lowSurrogate_5068e, Cond.code yJ11_lowSurrogate_5068e cJ11_lowSurrogate_5068e 1 (some .char), Cond.constant RJ11 76 (56320)]
def wsJ0_lastIndexOf_0f7a4 : List Cond := .code yJ0_lastIndexOf_0f7a4 cJ0_lastIndexOf_0f7a4 2 (some .int) :: ((wsJ0_lastIndexOf_0f7a4_r1 ++ (wsJ0_lastIndexOf_0f7a4_r2 ++ wsJ0_lastIndexOf_0f7a4_r3)))
def wsX6_early_r1 : List Cond := [Cond.fieldLink RX6 152 "BoardNotationModel" "FORMS" "[Ljava/lang/String;", Cond.fieldLink RX6 146 "BoardNotationModel" "form" "I", Cond.fieldLink RX6 39 "BoardNotationModel" "tape" "[I", Cond.methodLink RX6 174 yJ0_indexOf_0f7a4, Cond.instanceMethod yJ0_indexOf_0f7a4, Cond.selects RJ0 yJ0_indexOf_0f7a4 yJ0_indexOf_0f7a4, Cond.initialized RJ0, Cond.code yJ0_indexOf_0f7a4 cJ0_indexOf_0f7a4 2 (some .int), Cond.methodLink RJ0 633 yJ0_indexOf_7cf53, Cond.instanceMethod yJ0_indexOf_7cf53, Cond.selects RJ0 yJ0_indexOf_7cf53 yJ0_indexOf_7cf53, Cond.code yJ0_indexOf_7cf53 cJ0_indexOf_7cf53 3 (some .int), Cond.fieldLink RJ0 9 "java/lang/String" "value" "[B", Cond.methodLink RJ0 492 yJ0_isLatin1_aae02, Cond.instanceMethod yJ0_isLatin1_aae02, Cond.selects RJ0 yJ0_isLatin1_aae02 yJ0_isLatin1_aae02, Cond.code yJ0_isLatin1_aae02 cJ0_isLatin1_aae02 1 (some .boolean), Cond.fieldLink RJ0 38 "java/lang/String" "COMPACT_STRINGS" "Z", Cond.fieldLink RJ0 15 "java/lang/String" "coder" "B", Cond.methodLink RJ0 505 yJ0_length_8abf5, Cond.instanceMethod yJ0_length_8abf5, Cond.selects RJ0 yJ0_length_8abf5 yJ0_length_8abf5, Cond.code yJ0_length_8abf5 cJ0_length_8abf5 1 (some .int), Cond.methodLink RJ0 335 yJ0_coder_7d493]
def wsX6_early_r2 : List Cond := [Cond.instanceMethod yJ0_coder_7d493, Cond.selects RJ0 yJ0_coder_7d493 yJ0_coder_7d493, Cond.code yJ0_coder_7d493 cJ0_coder_7d493 1 (some .byte), Cond.methodLink RJ0 637 yJ1_indexOf_4cfef, Cond.static yJ1_indexOf_4cfef, Cond.initialized RJ1, Cond.code yJ1_indexOf_4cfef cJ1_indexOf_4cfef 4 (some .int), Cond.methodLink RJ1 92 Lib.Math.max.name, Cond.static Lib.Math.max.name, Cond.initialized "java/lang/Math", Cond.code Lib.Math.max.name Lib.Math.max.code 2 (some .int), Cond.methodLink RJ1 38 Lib.Math.min.name, Cond.static Lib.Math.min.name, Cond.code Lib.Math.min.name Lib.Math.min.code 2 (some .int), Cond.methodLink RJ1 88 yJ1_canEncode_9a6ad, Cond.static yJ1_canEncode_9a6ad, Cond.code yJ1_canEncode_9a6ad cJ1_canEncode_9a6ad 1 (some .boolean), Cond.methodLink RJ1 95 yJ1_indexOfChar_4cfef, Cond.static yJ1_indexOfChar_4cfef, Cond.code yJ1_indexOfChar_4cfef cJ1_indexOfChar_4cfef 6 (some .int), Cond.methodLink RJ0 640 yJ2_indexOf_4cfef, Cond.static yJ2_indexOf_4cfef, Cond.initialized RJ2, Cond.code yJ2_indexOf_4cfef cJ2_indexOf_4cfef 4 (some .int)]
def wsX6_early_r3 : List Cond := [Cond.methodLink RJ2 224 Lib.Math.max.name, Cond.methodLink RJ2 183 Lib.Math.min.name, Cond.constant RJ2 227 (65536), Cond.methodLink RJ2 228 yJ2_indexOfChar_4cfef, Cond.static yJ2_indexOfChar_4cfef, Cond.code yJ2_indexOfChar_4cfef cJ2_indexOfChar_4cfef 4 (some .int), Cond.methodLink RJ2 96 yJ2_checkBoundsBeginEnd_d044e, Cond.static yJ2_checkBoundsBeginEnd_d044e, Cond.code yJ2_checkBoundsBeginEnd_d044e cJ2_checkBoundsBeginEnd_d044e 3 none, Cond.methodLink RJ2 48 yJ2_length_9d52b, Cond.static yJ2_length_9d52b, Cond.code yJ2_length_9d52b cJ2_length_9d52b 1 (some .int), Cond.methodLink RJ2 241 yJ0_checkBoundsBeginEnd_23922, Cond.static yJ0_checkBoundsBeginEnd_23922, Cond.code yJ0_checkBoundsBeginEnd_23922 cJ0_checkBoundsBeginEnd_23922 3 none, Cond.fieldLink RJ0 1053 "jdk/internal/util/Preconditions" "SIOOBE_FORMATTER" "Ljava/util/function/BiFunction;", Cond.methodLink RJ0 1062 yJ3_checkFromToIndex_8c36e, Cond.static yJ3_checkFromToIndex_8c36e, Cond.initialized RJ3, Cond.code yJ3_checkFromToIndex_8c36e cJ3_checkFromToIndex_8c36e 4 (some .int), Cond.methodLink RJ2 244 yJ2_indexOfCharUnsafe_4cfef, Cond.static yJ2_indexOfCharUnsafe_4cfef, Cond.code yJ2_indexOfCharUnsafe_4cfef cJ2_indexOfCharUnsafe_4cfef 5 (some .int), Cond.methodLink RJ2 71 yJ2_getChar_3b067]
def wsX6_early_r4 : List Cond := [Cond.static yJ2_getChar_3b067, Cond.code yJ2_getChar_3b067 cJ2_getChar_3b067 2 (some .char), Cond.fieldLink RJ2 44 "java/lang/StringUTF16" "$assertionsDisabled" "Z", Cond.fieldLink RJ2 59 "java/lang/StringUTF16" "HI_BYTE_SHIFT" "I", Cond.fieldLink RJ2 63 "java/lang/StringUTF16" "LO_BYTE_SHIFT" "I", Cond.methodLink RJ2 232 yJ2_indexOfSupplementary_4cfef, Cond.static yJ2_indexOfSupplementary_4cfef, Cond.code yJ2_indexOfSupplementary_4cfef cJ2_indexOfSupplementary_4cfef 7 (some .int), Cond.methodLink RJ2 164 yJ11_isValidCodePoint_9a6ad, Cond.static yJ11_isValidCodePoint_9a6ad, Cond.initialized RJ11, Cond.code yJ11_isValidCodePoint_9a6ad cJ11_isValidCodePoint_9a6ad 2 (some .boolean), Cond.methodLink RJ2 157 yJ11_highSurrogate_5068e, Cond.static yJ11_highSurrogate_5068e, Cond.code yJ11_highSurrogate_5068e cJ11_highSurrogate_5068e 1 (some .char), Cond.constant RJ11 110 (55232), Cond.methodLink RJ2 161 yJ11_lowSurrogate_5068e, Cond.static yJ11_lowSurrogate_5068e, Cond.code yJ11_lowSurrogate_5068e cJ11_lowSurrogate_5068e 1 (some .char), Cond.constant RJ11 76 (56320), Cond.methodLink RX6 177 yJ0_lastIndexOf_0f7a4, Cond.instanceMethod yJ0_lastIndexOf_0f7a4, Cond.selects RJ0 yJ0_lastIndexOf_0f7a4 yJ0_lastIndexOf_0f7a4, Cond.code yJ0_lastIndexOf_0f7a4 cJ0_lastIndexOf_0f7a4 2 (some .int)]
def wsX6_early_r5 : List Cond := [Cond.methodLink RJ0 641 yJ0_lastIndexOf_7cf53, Cond.instanceMethod yJ0_lastIndexOf_7cf53, Cond.selects RJ0 yJ0_lastIndexOf_7cf53 yJ0_lastIndexOf_7cf53, Cond.code yJ0_lastIndexOf_7cf53 cJ0_lastIndexOf_7cf53 3 (some .int), Cond.methodLink RJ0 644 yJ1_lastIndexOf_7d655, Cond.static yJ1_lastIndexOf_7d655, Cond.code yJ1_lastIndexOf_7d655 cJ1_lastIndexOf_7d655 4 (some .int), Cond.methodLink RJ0 646 yJ2_lastIndexOf_7d655, Cond.static yJ2_lastIndexOf_7d655, Cond.code yJ2_lastIndexOf_7d655 cJ2_lastIndexOf_7d655 4 (some .int), Cond.methodLink RJ2 247 yJ2_lastIndexOfSupplementary_7d655, Cond.static yJ2_lastIndexOfSupplementary_7d655, Cond.code yJ2_lastIndexOfSupplementary_7d655 cJ2_lastIndexOfSupplementary_7d655 6 (some .int)]
def wsX6_early : List Cond := .code yX6_early cX6_early 5 (some .int) :: ((wsX6_early_r1 ++ (wsX6_early_r2 ++ (wsX6_early_r3 ++ (wsX6_early_r4 ++ wsX6_early_r5)))) ++ wsX60)
def wsX6_late_r1 : List Cond := [Cond.fieldLink RX6 152 "BoardNotationModel" "FORMS" "[Ljava/lang/String;", Cond.fieldLink RX6 146 "BoardNotationModel" "form" "I", Cond.fieldLink RX6 39 "BoardNotationModel" "tape" "[I", Cond.methodLink RX6 177 yJ0_lastIndexOf_0f7a4, Cond.instanceMethod yJ0_lastIndexOf_0f7a4, Cond.selects RJ0 yJ0_lastIndexOf_0f7a4 yJ0_lastIndexOf_0f7a4, Cond.initialized RJ0, Cond.code yJ0_lastIndexOf_0f7a4 cJ0_lastIndexOf_0f7a4 2 (some .int), Cond.methodLink RJ0 505 yJ0_length_8abf5, Cond.instanceMethod yJ0_length_8abf5, Cond.selects RJ0 yJ0_length_8abf5 yJ0_length_8abf5, Cond.code yJ0_length_8abf5 cJ0_length_8abf5 1 (some .int), Cond.fieldLink RJ0 9 "java/lang/String" "value" "[B", Cond.methodLink RJ0 335 yJ0_coder_7d493, Cond.instanceMethod yJ0_coder_7d493, Cond.selects RJ0 yJ0_coder_7d493 yJ0_coder_7d493, Cond.code yJ0_coder_7d493 cJ0_coder_7d493 1 (some .byte), Cond.fieldLink RJ0 38 "java/lang/String" "COMPACT_STRINGS" "Z", Cond.fieldLink RJ0 15 "java/lang/String" "coder" "B", Cond.methodLink RJ0 641 yJ0_lastIndexOf_7cf53, Cond.instanceMethod yJ0_lastIndexOf_7cf53, Cond.selects RJ0 yJ0_lastIndexOf_7cf53 yJ0_lastIndexOf_7cf53, Cond.code yJ0_lastIndexOf_7cf53 cJ0_lastIndexOf_7cf53 3 (some .int), Cond.methodLink RJ0 492 yJ0_isLatin1_aae02]
def wsX6_late_r2 : List Cond := [Cond.instanceMethod yJ0_isLatin1_aae02, Cond.selects RJ0 yJ0_isLatin1_aae02 yJ0_isLatin1_aae02, Cond.code yJ0_isLatin1_aae02 cJ0_isLatin1_aae02 1 (some .boolean), Cond.methodLink RJ0 644 yJ1_lastIndexOf_7d655, Cond.static yJ1_lastIndexOf_7d655, Cond.initialized RJ1, Cond.code yJ1_lastIndexOf_7d655 cJ1_lastIndexOf_7d655 4 (some .int), Cond.methodLink RJ1 38 Lib.Math.min.name, Cond.static Lib.Math.min.name, Cond.initialized "java/lang/Math", Cond.code Lib.Math.min.name Lib.Math.min.code 2 (some .int), Cond.methodLink RJ1 88 yJ1_canEncode_9a6ad, Cond.static yJ1_canEncode_9a6ad, Cond.code yJ1_canEncode_9a6ad cJ1_canEncode_9a6ad 1 (some .boolean), Cond.methodLink RJ0 646 yJ2_lastIndexOf_7d655, Cond.static yJ2_lastIndexOf_7d655, Cond.initialized RJ2, Cond.code yJ2_lastIndexOf_7d655 cJ2_lastIndexOf_7d655 4 (some .int), Cond.constant RJ2 227 (65536), Cond.methodLink RJ2 183 Lib.Math.min.name, Cond.methodLink RJ2 71 yJ2_getChar_3b067, Cond.static yJ2_getChar_3b067, Cond.code yJ2_getChar_3b067 cJ2_getChar_3b067 2 (some .char), Cond.fieldLink RJ2 44 "java/lang/StringUTF16" "$assertionsDisabled" "Z"]
def wsX6_late_r3 : List Cond := [Cond.fieldLink RJ2 59 "java/lang/StringUTF16" "HI_BYTE_SHIFT" "I", Cond.fieldLink RJ2 63 "java/lang/StringUTF16" "LO_BYTE_SHIFT" "I", Cond.methodLink RJ2 48 yJ2_length_9d52b, Cond.static yJ2_length_9d52b, Cond.code yJ2_length_9d52b cJ2_length_9d52b 1 (some .int), Cond.methodLink RJ2 247 yJ2_lastIndexOfSupplementary_7d655, Cond.static yJ2_lastIndexOfSupplementary_7d655, Cond.code yJ2_lastIndexOfSupplementary_7d655 cJ2_lastIndexOfSupplementary_7d655 6 (some .int), Cond.methodLink RJ2 164 yJ11_isValidCodePoint_9a6ad, Cond.static yJ11_isValidCodePoint_9a6ad, Cond.initialized RJ11, Cond.code yJ11_isValidCodePoint_9a6ad cJ11_isValidCodePoint_9a6ad 2 (some .boolean), Cond.methodLink RJ2 157 yJ11_highSurrogate_5068e, Cond.static yJ11_highSurrogate_5068e, Cond.code yJ11_highSurrogate_5068e cJ11_highSurrogate_5068e 1 (some .char), Cond.constant RJ11 110 (55232), Cond.methodLink RJ2 161 yJ11_lowSurrogate_5068e, Cond.static yJ11_lowSurrogate_5068e, Cond.code yJ11_lowSurrogate_5068e cJ11_lowSurrogate_5068e 1 (some .char), Cond.constant RJ11 76 (56320)]
def wsX6_late : List Cond := .code yX6_late cX6_late 4 (some .int) :: ((wsX6_late_r1 ++ (wsX6_late_r2 ++ wsX6_late_r3)) ++ wsX60)
def wsX6_sign_r1 : List Cond := [Cond.fieldLink RX6 22 "BoardNotationModel" "board" "[I", Cond.methodLink RX6 98 yX6_sideOf, Cond.static yX6_sideOf, Cond.initialized RX6, Cond.code yX6_sideOf cX6_sideOf 1 (some .int), Cond.methodLink RX6 91 yX6_play, Cond.static yX6_play, Cond.code yX6_play cX6_play 3 none, Cond.methodLink RX6 112 yX6_isChecked, Cond.instanceMethod yX6_isChecked, Cond.selects RX6 yX6_isChecked yX6_isChecked, Cond.code yX6_isChecked cX6_isChecked 5 (some .boolean), Cond.methodLink RX6 108 yX6_reaches, Cond.instanceMethod yX6_reaches, Cond.selects RX6 yX6_reaches yX6_reaches, Cond.code yX6_reaches cX6_reaches 9 (some .boolean), Cond.fieldLink RX6 13 "BoardNotationModel" "manySteps" "[I", Cond.methodLink RX6 101 yX6_reach, Cond.instanceMethod yX6_reach, Cond.selects RX6 yX6_reach yX6_reach, Cond.code yX6_reach cX6_reach 3 (some .int), Cond.fieldLink RX6 16 "BoardNotationModel" "steps" "[I", Cond.methodLink RX6 104 yX6_target, Cond.instanceMethod yX6_target]
def wsX6_sign_r2 : List Cond := [Cond.selects RX6 yX6_target yX6_target, Cond.code yX6_target cX6_target 8 (some .int), Cond.methodLink RX6 69 yX6_isIn, Cond.static yX6_isIn, Cond.code yX6_isIn cX6_isIn 3 (some .boolean), Cond.methodLink RX6 124 yX6_legalMoves, Cond.instanceMethod yX6_legalMoves, Cond.selects RX6 yX6_legalMoves yX6_legalMoves, Cond.code yX6_legalMoves cX6_legalMoves 6 (some .int), Cond.methodLink RX6 116 yX6_isLegal, Cond.instanceMethod yX6_isLegal, Cond.selects RX6 yX6_isLegal yX6_isLegal, Cond.code yX6_isLegal cX6_isLegal 3 (some .boolean), Cond.fieldLink RX6 25 "BoardNotationModel" "trial" "[I", Cond.methodLink RX6 60 arraycopyName, Cond.native arraycopyName, Cond.static arraycopyName, Cond.initialized "java/lang/System"]
def wsX6_sign : List Cond := .code yX6_sign cX6_sign 6 (some .int) :: ((wsX6_sign_r1 ++ wsX6_sign_r2) ++ wsX60)
def wsX6_readMove_r1 : List Cond := [Cond.fieldLink RX6 149 "BoardNotationModel" "badAt" "I", Cond.fieldLink RX6 39 "BoardNotationModel" "tape" "[I", Cond.fieldLink RX6 187 "BoardNotationModel" "to" "I", Cond.fieldLink RX6 22 "BoardNotationModel" "board" "[I", Cond.fieldLink RX6 193 "BoardNotationModel" "from" "I", Cond.methodLink RX6 180 yX6_findForm, Cond.instanceMethod yX6_findForm, Cond.selects RX6 yX6_findForm yX6_findForm, Cond.initialized RX6, Cond.code yX6_findForm cX6_findForm 6 (some .boolean), Cond.fieldLink RX6 146 "BoardNotationModel" "form" "I", Cond.fieldLink RX6 152 "BoardNotationModel" "FORMS" "[Ljava/lang/String;", Cond.methodLink RX6 169 Lib.Math.max.name, Cond.static Lib.Math.max.name, Cond.initialized "java/lang/Math", Cond.code Lib.Math.max.name Lib.Math.max.code 2 (some .int), Cond.methodLink RX6 69 yX6_isIn, Cond.static yX6_isIn, Cond.code yX6_isIn cX6_isIn 3 (some .boolean), Cond.methodLink RX6 156 yJ0_length_8abf5, Cond.instanceMethod yJ0_length_8abf5, Cond.selects RJ0 yJ0_length_8abf5 yJ0_length_8abf5, Cond.initialized RJ0, Cond.code yJ0_length_8abf5 cJ0_length_8abf5 1 (some .int)]
def wsX6_readMove_r2 : List Cond := [Cond.fieldLink RJ0 9 "java/lang/String" "value" "[B", Cond.methodLink RJ0 335 yJ0_coder_7d493, Cond.instanceMethod yJ0_coder_7d493, Cond.selects RJ0 yJ0_coder_7d493 yJ0_coder_7d493, Cond.code yJ0_coder_7d493 cJ0_coder_7d493 1 (some .byte), Cond.fieldLink RJ0 38 "java/lang/String" "COMPACT_STRINGS" "Z", Cond.fieldLink RJ0 15 "java/lang/String" "coder" "B", Cond.methodLink RX6 161 yJ0_charAt_5068e, Cond.instanceMethod yJ0_charAt_5068e, Cond.selects RJ0 yJ0_charAt_5068e yJ0_charAt_5068e, Cond.code yJ0_charAt_5068e cJ0_charAt_5068e 2 (some .char), Cond.methodLink RJ0 492 yJ0_isLatin1_aae02, Cond.instanceMethod yJ0_isLatin1_aae02, Cond.selects RJ0 yJ0_isLatin1_aae02 yJ0_isLatin1_aae02, Cond.code yJ0_isLatin1_aae02 cJ0_isLatin1_aae02 1 (some .boolean), Cond.methodLink RJ0 495 yJ1_charAt_3b067, Cond.static yJ1_charAt_3b067, Cond.initialized RJ1, Cond.code yJ1_charAt_3b067 cJ1_charAt_3b067 2 (some .char), Cond.methodLink RJ1 9 yJ0_checkIndex_df160, Cond.static yJ0_checkIndex_df160, Cond.code yJ0_checkIndex_df160 cJ0_checkIndex_df160 2 none, Cond.fieldLink RJ0 1053 "jdk/internal/util/Preconditions" "SIOOBE_FORMATTER" "Ljava/util/function/BiFunction;", Cond.methodLink RJ0 1059 yJ3_checkIndex_8e157]
def wsX6_readMove_r3 : List Cond := [Cond.static yJ3_checkIndex_8e157, Cond.initialized RJ3, Cond.code yJ3_checkIndex_8e157 cJ3_checkIndex_8e157 3 (some .int), Cond.methodLink RJ0 498 yJ2_charAt_3b067, Cond.static yJ2_charAt_3b067, Cond.initialized RJ2, Cond.code yJ2_charAt_3b067 cJ2_charAt_3b067 2 (some .char), Cond.methodLink RJ2 67 yJ2_checkIndex_2214a, Cond.static yJ2_checkIndex_2214a, Cond.code yJ2_checkIndex_2214a cJ2_checkIndex_2214a 2 none, Cond.methodLink RJ2 48 yJ2_length_9d52b, Cond.static yJ2_length_9d52b, Cond.code yJ2_length_9d52b cJ2_length_9d52b 1 (some .int), Cond.methodLink RJ2 414 yJ0_checkIndex_df160, Cond.methodLink RJ2 71 yJ2_getChar_3b067, Cond.static yJ2_getChar_3b067, Cond.code yJ2_getChar_3b067 cJ2_getChar_3b067 2 (some .char), Cond.fieldLink RJ2 44 "java/lang/StringUTF16" "$assertionsDisabled" "Z", Cond.fieldLink RJ2 59 "java/lang/StringUTF16" "HI_BYTE_SHIFT" "I", Cond.fieldLink RJ2 63 "java/lang/StringUTF16" "LO_BYTE_SHIFT" "I", Cond.methodLink RX6 165 yX6_fits, Cond.static yX6_fits, Cond.code yX6_fits cX6_fits 2 (some .boolean), Cond.methodLink RX6 73 yX6_kindOf]
def wsX6_readMove_r4 : List Cond := [Cond.instanceMethod yX6_kindOf, Cond.selects RX6 yX6_kindOf yX6_kindOf, Cond.code yX6_kindOf cX6_kindOf 3 (some .int), Cond.fieldLink RX6 80 "BoardNotationModel" "kinds" "I", Cond.fieldLink RX6 9 "BoardNotationModel" "letters" "[I", Cond.methodLink RX6 183 yX6_late, Cond.instanceMethod yX6_late, Cond.selects RX6 yX6_late yX6_late, Cond.code yX6_late cX6_late 4 (some .int), Cond.methodLink RX6 177 yJ0_lastIndexOf_0f7a4, Cond.instanceMethod yJ0_lastIndexOf_0f7a4, Cond.selects RJ0 yJ0_lastIndexOf_0f7a4 yJ0_lastIndexOf_0f7a4, Cond.code yJ0_lastIndexOf_0f7a4 cJ0_lastIndexOf_0f7a4 2 (some .int), Cond.methodLink RJ0 505 yJ0_length_8abf5, Cond.methodLink RJ0 641 yJ0_lastIndexOf_7cf53, Cond.instanceMethod yJ0_lastIndexOf_7cf53, Cond.selects RJ0 yJ0_lastIndexOf_7cf53 yJ0_lastIndexOf_7cf53, Cond.code yJ0_lastIndexOf_7cf53 cJ0_lastIndexOf_7cf53 3 (some .int), Cond.methodLink RJ0 644 yJ1_lastIndexOf_7d655, Cond.static yJ1_lastIndexOf_7d655, Cond.code yJ1_lastIndexOf_7d655 cJ1_lastIndexOf_7d655 4 (some .int), Cond.methodLink RJ1 38 Lib.Math.min.name, Cond.static Lib.Math.min.name, Cond.code Lib.Math.min.name Lib.Math.min.code 2 (some .int)]
def wsX6_readMove_r5 : List Cond := [Cond.methodLink RJ1 88 yJ1_canEncode_9a6ad, Cond.static yJ1_canEncode_9a6ad, Cond.code yJ1_canEncode_9a6ad cJ1_canEncode_9a6ad 1 (some .boolean), Cond.methodLink RJ0 646 yJ2_lastIndexOf_7d655, Cond.static yJ2_lastIndexOf_7d655, Cond.code yJ2_lastIndexOf_7d655 cJ2_lastIndexOf_7d655 4 (some .int), Cond.constant RJ2 227 (65536), Cond.methodLink RJ2 183 Lib.Math.min.name, Cond.methodLink RJ2 247 yJ2_lastIndexOfSupplementary_7d655, Cond.static yJ2_lastIndexOfSupplementary_7d655, Cond.code yJ2_lastIndexOfSupplementary_7d655 cJ2_lastIndexOfSupplementary_7d655 6 (some .int), Cond.methodLink RJ2 164 yJ11_isValidCodePoint_9a6ad, Cond.static yJ11_isValidCodePoint_9a6ad, Cond.initialized RJ11, Cond.code yJ11_isValidCodePoint_9a6ad cJ11_isValidCodePoint_9a6ad 2 (some .boolean), Cond.methodLink RJ2 157 yJ11_highSurrogate_5068e, Cond.static yJ11_highSurrogate_5068e, Cond.code yJ11_highSurrogate_5068e cJ11_highSurrogate_5068e 1 (some .char), Cond.constant RJ11 110 (55232), Cond.methodLink RJ2 161 yJ11_lowSurrogate_5068e, Cond.static yJ11_lowSurrogate_5068e, Cond.code yJ11_lowSurrogate_5068e cJ11_lowSurrogate_5068e 1 (some .char), Cond.constant RJ11 76 (56320), Cond.methodLink RX6 190 yX6_early]
def wsX6_readMove_r6 : List Cond := [Cond.instanceMethod yX6_early, Cond.selects RX6 yX6_early yX6_early, Cond.code yX6_early cX6_early 5 (some .int), Cond.methodLink RX6 174 yJ0_indexOf_0f7a4, Cond.instanceMethod yJ0_indexOf_0f7a4, Cond.selects RJ0 yJ0_indexOf_0f7a4 yJ0_indexOf_0f7a4, Cond.code yJ0_indexOf_0f7a4 cJ0_indexOf_0f7a4 2 (some .int), Cond.methodLink RJ0 633 yJ0_indexOf_7cf53, Cond.instanceMethod yJ0_indexOf_7cf53, Cond.selects RJ0 yJ0_indexOf_7cf53 yJ0_indexOf_7cf53, Cond.code yJ0_indexOf_7cf53 cJ0_indexOf_7cf53 3 (some .int), Cond.methodLink RJ0 637 yJ1_indexOf_4cfef, Cond.static yJ1_indexOf_4cfef, Cond.code yJ1_indexOf_4cfef cJ1_indexOf_4cfef 4 (some .int), Cond.methodLink RJ1 92 Lib.Math.max.name, Cond.methodLink RJ1 95 yJ1_indexOfChar_4cfef, Cond.static yJ1_indexOfChar_4cfef, Cond.code yJ1_indexOfChar_4cfef cJ1_indexOfChar_4cfef 6 (some .int), Cond.methodLink RJ0 640 yJ2_indexOf_4cfef, Cond.static yJ2_indexOf_4cfef, Cond.code yJ2_indexOf_4cfef cJ2_indexOf_4cfef 4 (some .int), Cond.methodLink RJ2 224 Lib.Math.max.name, Cond.methodLink RJ2 228 yJ2_indexOfChar_4cfef, Cond.static yJ2_indexOfChar_4cfef]
def wsX6_readMove_r7 : List Cond := [Cond.code yJ2_indexOfChar_4cfef cJ2_indexOfChar_4cfef 4 (some .int), Cond.methodLink RJ2 96 yJ2_checkBoundsBeginEnd_d044e, Cond.static yJ2_checkBoundsBeginEnd_d044e, Cond.code yJ2_checkBoundsBeginEnd_d044e cJ2_checkBoundsBeginEnd_d044e 3 none, Cond.methodLink RJ2 241 yJ0_checkBoundsBeginEnd_23922, Cond.static yJ0_checkBoundsBeginEnd_23922, Cond.code yJ0_checkBoundsBeginEnd_23922 cJ0_checkBoundsBeginEnd_23922 3 none, Cond.methodLink RJ0 1062 yJ3_checkFromToIndex_8c36e, Cond.static yJ3_checkFromToIndex_8c36e, Cond.code yJ3_checkFromToIndex_8c36e cJ3_checkFromToIndex_8c36e 4 (some .int), Cond.methodLink RJ2 244 yJ2_indexOfCharUnsafe_4cfef, Cond.static yJ2_indexOfCharUnsafe_4cfef, Cond.code yJ2_indexOfCharUnsafe_4cfef cJ2_indexOfCharUnsafe_4cfef 5 (some .int), Cond.methodLink RJ2 232 yJ2_indexOfSupplementary_4cfef, Cond.static yJ2_indexOfSupplementary_4cfef, Cond.code yJ2_indexOfSupplementary_4cfef cJ2_indexOfSupplementary_4cfef 7 (some .int), Cond.methodLink RX6 120 yX6_turn, Cond.instanceMethod yX6_turn, Cond.selects RX6 yX6_turn yX6_turn, Cond.code yX6_turn cX6_turn 1 (some .int), Cond.fieldLink RX6 95 "BoardNotationModel" "present" "I", Cond.methodLink RX6 87 yX6_get, Cond.instanceMethod yX6_get, Cond.selects RX6 yX6_get yX6_get]
def wsX6_readMove_r8 : List Cond := [Cond.code yX6_get cX6_get 3 (some .int), Cond.fieldLink RX6 32 "BoardNotationModel" "table" "[I", Cond.methodLink RX6 108 yX6_reaches, Cond.instanceMethod yX6_reaches, Cond.selects RX6 yX6_reaches yX6_reaches, Cond.code yX6_reaches cX6_reaches 9 (some .boolean), Cond.fieldLink RX6 13 "BoardNotationModel" "manySteps" "[I", Cond.methodLink RX6 98 yX6_sideOf, Cond.static yX6_sideOf, Cond.code yX6_sideOf cX6_sideOf 1 (some .int), Cond.methodLink RX6 101 yX6_reach, Cond.instanceMethod yX6_reach, Cond.selects RX6 yX6_reach yX6_reach, Cond.code yX6_reach cX6_reach 3 (some .int), Cond.fieldLink RX6 16 "BoardNotationModel" "steps" "[I", Cond.methodLink RX6 104 yX6_target, Cond.instanceMethod yX6_target, Cond.selects RX6 yX6_target yX6_target, Cond.code yX6_target cX6_target 8 (some .int), Cond.methodLink RX6 116 yX6_isLegal, Cond.instanceMethod yX6_isLegal, Cond.selects RX6 yX6_isLegal yX6_isLegal, Cond.code yX6_isLegal cX6_isLegal 3 (some .boolean), Cond.fieldLink RX6 25 "BoardNotationModel" "trial" "[I"]
def wsX6_readMove_r9 : List Cond := [Cond.methodLink RX6 60 arraycopyName, Cond.native arraycopyName, Cond.static arraycopyName, Cond.initialized "java/lang/System", Cond.methodLink RX6 91 yX6_play, Cond.static yX6_play, Cond.code yX6_play cX6_play 3 none, Cond.methodLink RX6 112 yX6_isChecked, Cond.instanceMethod yX6_isChecked, Cond.selects RX6 yX6_isChecked yX6_isChecked, Cond.code yX6_isChecked cX6_isChecked 5 (some .boolean), Cond.methodLink RX6 196 yX6_sign, Cond.instanceMethod yX6_sign, Cond.selects RX6 yX6_sign yX6_sign, Cond.code yX6_sign cX6_sign 6 (some .int), Cond.methodLink RX6 124 yX6_legalMoves, Cond.instanceMethod yX6_legalMoves, Cond.selects RX6 yX6_legalMoves yX6_legalMoves, Cond.code yX6_legalMoves cX6_legalMoves 6 (some .int)]
def wsX6_readMove : List Cond := .code yX6_readMove cX6_readMove 10 (some .int) :: ((wsX6_readMove_r1 ++ (wsX6_readMove_r2 ++ (wsX6_readMove_r3 ++ (wsX6_readMove_r4 ++ (wsX6_readMove_r5 ++ (wsX6_readMove_r6 ++ (wsX6_readMove_r7 ++ (wsX6_readMove_r8 ++ wsX6_readMove_r9)))))))) ++ wsX60)
def wsX6_read_r1 : List Cond := [Cond.fieldLink RX6 66 "BoardNotationModel" "thrown" "I", Cond.fieldLink RX6 127 "BoardNotationModel" "taped" "I", Cond.fieldLink RX6 149 "BoardNotationModel" "badAt" "I", Cond.fieldLink RX6 42 "BoardNotationModel" "errorAt" "I", Cond.fieldLink RX6 193 "BoardNotationModel" "from" "I", Cond.fieldLink RX6 45 "BoardNotationModel" "readFrom" "I", Cond.fieldLink RX6 187 "BoardNotationModel" "to" "I", Cond.fieldLink RX6 48 "BoardNotationModel" "readTo" "I", Cond.methodLink RX6 199 yX6_readMove, Cond.instanceMethod yX6_readMove, Cond.selects RX6 yX6_readMove yX6_readMove, Cond.initialized RX6, Cond.code yX6_readMove cX6_readMove 10 (some .int), Cond.fieldLink RX6 39 "BoardNotationModel" "tape" "[I", Cond.fieldLink RX6 22 "BoardNotationModel" "board" "[I", Cond.methodLink RX6 180 yX6_findForm, Cond.instanceMethod yX6_findForm, Cond.selects RX6 yX6_findForm yX6_findForm, Cond.code yX6_findForm cX6_findForm 6 (some .boolean), Cond.fieldLink RX6 146 "BoardNotationModel" "form" "I", Cond.fieldLink RX6 152 "BoardNotationModel" "FORMS" "[Ljava/lang/String;", Cond.methodLink RX6 169 Lib.Math.max.name, Cond.static Lib.Math.max.name, Cond.initialized "java/lang/Math"]
def wsX6_read_r2 : List Cond := [Cond.code Lib.Math.max.name Lib.Math.max.code 2 (some .int), Cond.methodLink RX6 69 yX6_isIn, Cond.static yX6_isIn, Cond.code yX6_isIn cX6_isIn 3 (some .boolean), Cond.methodLink RX6 156 yJ0_length_8abf5, Cond.instanceMethod yJ0_length_8abf5, Cond.selects RJ0 yJ0_length_8abf5 yJ0_length_8abf5, Cond.initialized RJ0, Cond.code yJ0_length_8abf5 cJ0_length_8abf5 1 (some .int), Cond.fieldLink RJ0 9 "java/lang/String" "value" "[B", Cond.methodLink RJ0 335 yJ0_coder_7d493, Cond.instanceMethod yJ0_coder_7d493, Cond.selects RJ0 yJ0_coder_7d493 yJ0_coder_7d493, Cond.code yJ0_coder_7d493 cJ0_coder_7d493 1 (some .byte), Cond.fieldLink RJ0 38 "java/lang/String" "COMPACT_STRINGS" "Z", Cond.fieldLink RJ0 15 "java/lang/String" "coder" "B", Cond.methodLink RX6 161 yJ0_charAt_5068e, Cond.instanceMethod yJ0_charAt_5068e, Cond.selects RJ0 yJ0_charAt_5068e yJ0_charAt_5068e, Cond.code yJ0_charAt_5068e cJ0_charAt_5068e 2 (some .char), Cond.methodLink RJ0 492 yJ0_isLatin1_aae02, Cond.instanceMethod yJ0_isLatin1_aae02, Cond.selects RJ0 yJ0_isLatin1_aae02 yJ0_isLatin1_aae02, Cond.code yJ0_isLatin1_aae02 cJ0_isLatin1_aae02 1 (some .boolean)]
def wsX6_read_r3 : List Cond := [Cond.methodLink RJ0 495 yJ1_charAt_3b067, Cond.static yJ1_charAt_3b067, Cond.initialized RJ1, Cond.code yJ1_charAt_3b067 cJ1_charAt_3b067 2 (some .char), Cond.methodLink RJ1 9 yJ0_checkIndex_df160, Cond.static yJ0_checkIndex_df160, Cond.code yJ0_checkIndex_df160 cJ0_checkIndex_df160 2 none, Cond.fieldLink RJ0 1053 "jdk/internal/util/Preconditions" "SIOOBE_FORMATTER" "Ljava/util/function/BiFunction;", Cond.methodLink RJ0 1059 yJ3_checkIndex_8e157, Cond.static yJ3_checkIndex_8e157, Cond.initialized RJ3, Cond.code yJ3_checkIndex_8e157 cJ3_checkIndex_8e157 3 (some .int), Cond.methodLink RJ0 498 yJ2_charAt_3b067, Cond.static yJ2_charAt_3b067, Cond.initialized RJ2, Cond.code yJ2_charAt_3b067 cJ2_charAt_3b067 2 (some .char), Cond.methodLink RJ2 67 yJ2_checkIndex_2214a, Cond.static yJ2_checkIndex_2214a, Cond.code yJ2_checkIndex_2214a cJ2_checkIndex_2214a 2 none, Cond.methodLink RJ2 48 yJ2_length_9d52b, Cond.static yJ2_length_9d52b, Cond.code yJ2_length_9d52b cJ2_length_9d52b 1 (some .int), Cond.methodLink RJ2 414 yJ0_checkIndex_df160, Cond.methodLink RJ2 71 yJ2_getChar_3b067]
def wsX6_read_r4 : List Cond := [Cond.static yJ2_getChar_3b067, Cond.code yJ2_getChar_3b067 cJ2_getChar_3b067 2 (some .char), Cond.fieldLink RJ2 44 "java/lang/StringUTF16" "$assertionsDisabled" "Z", Cond.fieldLink RJ2 59 "java/lang/StringUTF16" "HI_BYTE_SHIFT" "I", Cond.fieldLink RJ2 63 "java/lang/StringUTF16" "LO_BYTE_SHIFT" "I", Cond.methodLink RX6 165 yX6_fits, Cond.static yX6_fits, Cond.code yX6_fits cX6_fits 2 (some .boolean), Cond.methodLink RX6 73 yX6_kindOf, Cond.instanceMethod yX6_kindOf, Cond.selects RX6 yX6_kindOf yX6_kindOf, Cond.code yX6_kindOf cX6_kindOf 3 (some .int), Cond.fieldLink RX6 80 "BoardNotationModel" "kinds" "I", Cond.fieldLink RX6 9 "BoardNotationModel" "letters" "[I", Cond.methodLink RX6 183 yX6_late, Cond.instanceMethod yX6_late, Cond.selects RX6 yX6_late yX6_late, Cond.code yX6_late cX6_late 4 (some .int), Cond.methodLink RX6 177 yJ0_lastIndexOf_0f7a4, Cond.instanceMethod yJ0_lastIndexOf_0f7a4, Cond.selects RJ0 yJ0_lastIndexOf_0f7a4 yJ0_lastIndexOf_0f7a4, Cond.code yJ0_lastIndexOf_0f7a4 cJ0_lastIndexOf_0f7a4 2 (some .int), Cond.methodLink RJ0 505 yJ0_length_8abf5, Cond.methodLink RJ0 641 yJ0_lastIndexOf_7cf53]
def wsX6_read_r5 : List Cond := [Cond.instanceMethod yJ0_lastIndexOf_7cf53, Cond.selects RJ0 yJ0_lastIndexOf_7cf53 yJ0_lastIndexOf_7cf53, Cond.code yJ0_lastIndexOf_7cf53 cJ0_lastIndexOf_7cf53 3 (some .int), Cond.methodLink RJ0 644 yJ1_lastIndexOf_7d655, Cond.static yJ1_lastIndexOf_7d655, Cond.code yJ1_lastIndexOf_7d655 cJ1_lastIndexOf_7d655 4 (some .int), Cond.methodLink RJ1 38 Lib.Math.min.name, Cond.static Lib.Math.min.name, Cond.code Lib.Math.min.name Lib.Math.min.code 2 (some .int), Cond.methodLink RJ1 88 yJ1_canEncode_9a6ad, Cond.static yJ1_canEncode_9a6ad, Cond.code yJ1_canEncode_9a6ad cJ1_canEncode_9a6ad 1 (some .boolean), Cond.methodLink RJ0 646 yJ2_lastIndexOf_7d655, Cond.static yJ2_lastIndexOf_7d655, Cond.code yJ2_lastIndexOf_7d655 cJ2_lastIndexOf_7d655 4 (some .int), Cond.constant RJ2 227 (65536), Cond.methodLink RJ2 183 Lib.Math.min.name, Cond.methodLink RJ2 247 yJ2_lastIndexOfSupplementary_7d655, Cond.static yJ2_lastIndexOfSupplementary_7d655, Cond.code yJ2_lastIndexOfSupplementary_7d655 cJ2_lastIndexOfSupplementary_7d655 6 (some .int), Cond.methodLink RJ2 164 yJ11_isValidCodePoint_9a6ad, Cond.static yJ11_isValidCodePoint_9a6ad, Cond.initialized RJ11, Cond.code yJ11_isValidCodePoint_9a6ad cJ11_isValidCodePoint_9a6ad 2 (some .boolean)]
def wsX6_read_r6 : List Cond := [Cond.methodLink RJ2 157 yJ11_highSurrogate_5068e, Cond.static yJ11_highSurrogate_5068e, Cond.code yJ11_highSurrogate_5068e cJ11_highSurrogate_5068e 1 (some .char), Cond.constant RJ11 110 (55232), Cond.methodLink RJ2 161 yJ11_lowSurrogate_5068e, Cond.static yJ11_lowSurrogate_5068e, Cond.code yJ11_lowSurrogate_5068e cJ11_lowSurrogate_5068e 1 (some .char), Cond.constant RJ11 76 (56320), Cond.methodLink RX6 190 yX6_early, Cond.instanceMethod yX6_early, Cond.selects RX6 yX6_early yX6_early, Cond.code yX6_early cX6_early 5 (some .int), Cond.methodLink RX6 174 yJ0_indexOf_0f7a4, Cond.instanceMethod yJ0_indexOf_0f7a4, Cond.selects RJ0 yJ0_indexOf_0f7a4 yJ0_indexOf_0f7a4, Cond.code yJ0_indexOf_0f7a4 cJ0_indexOf_0f7a4 2 (some .int), Cond.methodLink RJ0 633 yJ0_indexOf_7cf53, Cond.instanceMethod yJ0_indexOf_7cf53, Cond.selects RJ0 yJ0_indexOf_7cf53 yJ0_indexOf_7cf53, Cond.code yJ0_indexOf_7cf53 cJ0_indexOf_7cf53 3 (some .int), Cond.methodLink RJ0 637 yJ1_indexOf_4cfef, Cond.static yJ1_indexOf_4cfef, Cond.code yJ1_indexOf_4cfef cJ1_indexOf_4cfef 4 (some .int), Cond.methodLink RJ1 92 Lib.Math.max.name]
def wsX6_read_r7 : List Cond := [Cond.methodLink RJ1 95 yJ1_indexOfChar_4cfef, Cond.static yJ1_indexOfChar_4cfef, Cond.code yJ1_indexOfChar_4cfef cJ1_indexOfChar_4cfef 6 (some .int), Cond.methodLink RJ0 640 yJ2_indexOf_4cfef, Cond.static yJ2_indexOf_4cfef, Cond.code yJ2_indexOf_4cfef cJ2_indexOf_4cfef 4 (some .int), Cond.methodLink RJ2 224 Lib.Math.max.name, Cond.methodLink RJ2 228 yJ2_indexOfChar_4cfef, Cond.static yJ2_indexOfChar_4cfef, Cond.code yJ2_indexOfChar_4cfef cJ2_indexOfChar_4cfef 4 (some .int), Cond.methodLink RJ2 96 yJ2_checkBoundsBeginEnd_d044e, Cond.static yJ2_checkBoundsBeginEnd_d044e, Cond.code yJ2_checkBoundsBeginEnd_d044e cJ2_checkBoundsBeginEnd_d044e 3 none, Cond.methodLink RJ2 241 yJ0_checkBoundsBeginEnd_23922, Cond.static yJ0_checkBoundsBeginEnd_23922, Cond.code yJ0_checkBoundsBeginEnd_23922 cJ0_checkBoundsBeginEnd_23922 3 none, Cond.methodLink RJ0 1062 yJ3_checkFromToIndex_8c36e, Cond.static yJ3_checkFromToIndex_8c36e, Cond.code yJ3_checkFromToIndex_8c36e cJ3_checkFromToIndex_8c36e 4 (some .int), Cond.methodLink RJ2 244 yJ2_indexOfCharUnsafe_4cfef, Cond.static yJ2_indexOfCharUnsafe_4cfef, Cond.code yJ2_indexOfCharUnsafe_4cfef cJ2_indexOfCharUnsafe_4cfef 5 (some .int), Cond.methodLink RJ2 232 yJ2_indexOfSupplementary_4cfef, Cond.static yJ2_indexOfSupplementary_4cfef]
def wsX6_read_r8 : List Cond := [Cond.code yJ2_indexOfSupplementary_4cfef cJ2_indexOfSupplementary_4cfef 7 (some .int), Cond.methodLink RX6 120 yX6_turn, Cond.instanceMethod yX6_turn, Cond.selects RX6 yX6_turn yX6_turn, Cond.code yX6_turn cX6_turn 1 (some .int), Cond.fieldLink RX6 95 "BoardNotationModel" "present" "I", Cond.methodLink RX6 87 yX6_get, Cond.instanceMethod yX6_get, Cond.selects RX6 yX6_get yX6_get, Cond.code yX6_get cX6_get 3 (some .int), Cond.fieldLink RX6 32 "BoardNotationModel" "table" "[I", Cond.methodLink RX6 108 yX6_reaches, Cond.instanceMethod yX6_reaches, Cond.selects RX6 yX6_reaches yX6_reaches, Cond.code yX6_reaches cX6_reaches 9 (some .boolean), Cond.fieldLink RX6 13 "BoardNotationModel" "manySteps" "[I", Cond.methodLink RX6 98 yX6_sideOf, Cond.static yX6_sideOf, Cond.code yX6_sideOf cX6_sideOf 1 (some .int), Cond.methodLink RX6 101 yX6_reach, Cond.instanceMethod yX6_reach, Cond.selects RX6 yX6_reach yX6_reach, Cond.code yX6_reach cX6_reach 3 (some .int), Cond.fieldLink RX6 16 "BoardNotationModel" "steps" "[I"]
def wsX6_read_r9 : List Cond := [Cond.methodLink RX6 104 yX6_target, Cond.instanceMethod yX6_target, Cond.selects RX6 yX6_target yX6_target, Cond.code yX6_target cX6_target 8 (some .int), Cond.methodLink RX6 116 yX6_isLegal, Cond.instanceMethod yX6_isLegal, Cond.selects RX6 yX6_isLegal yX6_isLegal, Cond.code yX6_isLegal cX6_isLegal 3 (some .boolean), Cond.fieldLink RX6 25 "BoardNotationModel" "trial" "[I", Cond.methodLink RX6 60 arraycopyName, Cond.native arraycopyName, Cond.static arraycopyName, Cond.initialized "java/lang/System", Cond.methodLink RX6 91 yX6_play, Cond.static yX6_play, Cond.code yX6_play cX6_play 3 none, Cond.methodLink RX6 112 yX6_isChecked, Cond.instanceMethod yX6_isChecked, Cond.selects RX6 yX6_isChecked yX6_isChecked, Cond.code yX6_isChecked cX6_isChecked 5 (some .boolean), Cond.methodLink RX6 196 yX6_sign, Cond.instanceMethod yX6_sign, Cond.selects RX6 yX6_sign yX6_sign, Cond.code yX6_sign cX6_sign 6 (some .int)]
def wsX6_read_r10 : List Cond := [Cond.methodLink RX6 124 yX6_legalMoves, Cond.instanceMethod yX6_legalMoves, Cond.selects RX6 yX6_legalMoves yX6_legalMoves, Cond.code yX6_legalMoves cX6_legalMoves 6 (some .int)]
def wsX6_read : List Cond := .code yX6_read cX6_read 2 (some .int) :: ((wsX6_read_r1 ++ (wsX6_read_r2 ++ (wsX6_read_r3 ++ (wsX6_read_r4 ++ (wsX6_read_r5 ++ (wsX6_read_r6 ++ (wsX6_read_r7 ++ (wsX6_read_r8 ++ (wsX6_read_r9 ++ wsX6_read_r10))))))))) ++ wsX60)
def wsX6_found : List Cond := .code yX6_found cX6_found 2 (some .int) :: ([.fieldLink RX6 66 "BoardNotationModel" "thrown" "I", .fieldLink RX6 42 "BoardNotationModel" "errorAt" "I", .fieldLink RX6 45 "BoardNotationModel" "readFrom" "I", .fieldLink RX6 48 "BoardNotationModel" "readTo" "I", .methodLink RX6 69 yX6_isIn, .static yX6_isIn, .initialized RX6, .code yX6_isIn cX6_isIn 3 (some .boolean), .methodLink RX6 77 yX6_fail, .instanceMethod yX6_fail, .selects RX6 yX6_fail yX6_fail, .code yX6_fail cX6_fail 2 (some .int)] ++ wsX60)
def wsX6_put_ : List Cond := .code yX6_put_ cX6_put_ 2 none :: ([.fieldLink RX6 202 "BoardNotationModel" "isTooLong" "Z", .fieldLink RX6 206 "BoardNotationModel" "written" "I", .fieldLink RX6 54 "BoardNotationModel" "paper" "[I"] ++ wsX60)
def wsX6_putMove_r1 : List Cond := [Cond.fieldLink RX6 22 "BoardNotationModel" "board" "[I", Cond.fieldLink RX6 9 "BoardNotationModel" "letters" "[I", Cond.methodLink RX6 209 yX6_put_, Cond.instanceMethod yX6_put_, Cond.selects RX6 yX6_put_ yX6_put_, Cond.initialized RX6, Cond.code yX6_put_ cX6_put_ 2 none, Cond.fieldLink RX6 202 "BoardNotationModel" "isTooLong" "Z", Cond.fieldLink RX6 206 "BoardNotationModel" "written" "I", Cond.fieldLink RX6 54 "BoardNotationModel" "paper" "[I", Cond.methodLink RX6 108 yX6_reaches, Cond.instanceMethod yX6_reaches, Cond.selects RX6 yX6_reaches yX6_reaches, Cond.code yX6_reaches cX6_reaches 9 (some .boolean), Cond.fieldLink RX6 13 "BoardNotationModel" "manySteps" "[I", Cond.methodLink RX6 98 yX6_sideOf, Cond.static yX6_sideOf, Cond.code yX6_sideOf cX6_sideOf 1 (some .int), Cond.methodLink RX6 101 yX6_reach, Cond.instanceMethod yX6_reach, Cond.selects RX6 yX6_reach yX6_reach, Cond.code yX6_reach cX6_reach 3 (some .int), Cond.fieldLink RX6 16 "BoardNotationModel" "steps" "[I", Cond.methodLink RX6 104 yX6_target]
def wsX6_putMove_r2 : List Cond := [Cond.instanceMethod yX6_target, Cond.selects RX6 yX6_target yX6_target, Cond.code yX6_target cX6_target 8 (some .int), Cond.methodLink RX6 69 yX6_isIn, Cond.static yX6_isIn, Cond.code yX6_isIn cX6_isIn 3 (some .boolean), Cond.methodLink RX6 116 yX6_isLegal, Cond.instanceMethod yX6_isLegal, Cond.selects RX6 yX6_isLegal yX6_isLegal, Cond.code yX6_isLegal cX6_isLegal 3 (some .boolean), Cond.fieldLink RX6 25 "BoardNotationModel" "trial" "[I", Cond.methodLink RX6 60 arraycopyName, Cond.native arraycopyName, Cond.static arraycopyName, Cond.initialized "java/lang/System", Cond.methodLink RX6 91 yX6_play, Cond.static yX6_play, Cond.code yX6_play cX6_play 3 none, Cond.methodLink RX6 112 yX6_isChecked, Cond.instanceMethod yX6_isChecked, Cond.selects RX6 yX6_isChecked yX6_isChecked, Cond.code yX6_isChecked cX6_isChecked 5 (some .boolean), Cond.methodLink RX6 196 yX6_sign, Cond.instanceMethod yX6_sign]
def wsX6_putMove_r3 : List Cond := [Cond.selects RX6 yX6_sign yX6_sign, Cond.code yX6_sign cX6_sign 6 (some .int), Cond.methodLink RX6 124 yX6_legalMoves, Cond.instanceMethod yX6_legalMoves, Cond.selects RX6 yX6_legalMoves yX6_legalMoves, Cond.code yX6_legalMoves cX6_legalMoves 6 (some .int)]
def wsX6_putMove : List Cond := .code yX6_putMove cX6_putMove 8 none :: ((wsX6_putMove_r1 ++ (wsX6_putMove_r2 ++ wsX6_putMove_r3)) ++ wsX60)
def wsX6_toTape : List Cond := .code yX6_toTape cX6_toTape 1 (some .int) :: ([.fieldLink RX6 54 "BoardNotationModel" "paper" "[I", .fieldLink RX6 39 "BoardNotationModel" "tape" "[I", .fieldLink RX6 206 "BoardNotationModel" "written" "I", .methodLink RX6 60 arraycopyName, .native arraycopyName, .static arraycopyName, .initialized "java/lang/System", .fieldLink RX6 127 "BoardNotationModel" "taped" "I"] ++ wsX60)
def wsX6_write_r1 : List Cond := [Cond.fieldLink RX6 66 "BoardNotationModel" "thrown" "I", Cond.fieldLink RX6 206 "BoardNotationModel" "written" "I", Cond.fieldLink RX6 202 "BoardNotationModel" "isTooLong" "Z", Cond.methodLink RX6 83 yX6_isSquare, Cond.static yX6_isSquare, Cond.initialized RX6, Cond.code yX6_isSquare cX6_isSquare 1 (some .boolean), Cond.methodLink RX6 69 yX6_isIn, Cond.static yX6_isIn, Cond.code yX6_isIn cX6_isIn 3 (some .boolean), Cond.methodLink RX6 77 yX6_fail, Cond.instanceMethod yX6_fail, Cond.selects RX6 yX6_fail yX6_fail, Cond.code yX6_fail cX6_fail 2 (some .int), Cond.methodLink RX6 133 yX6_why, Cond.instanceMethod yX6_why, Cond.selects RX6 yX6_why yX6_why, Cond.code yX6_why cX6_why 3 (some .int), Cond.fieldLink RX6 22 "BoardNotationModel" "board" "[I", Cond.methodLink RX6 98 yX6_sideOf, Cond.static yX6_sideOf, Cond.code yX6_sideOf cX6_sideOf 1 (some .int), Cond.methodLink RX6 120 yX6_turn, Cond.instanceMethod yX6_turn]
def wsX6_write_r2 : List Cond := [Cond.selects RX6 yX6_turn yX6_turn, Cond.code yX6_turn cX6_turn 1 (some .int), Cond.fieldLink RX6 95 "BoardNotationModel" "present" "I", Cond.methodLink RX6 87 yX6_get, Cond.instanceMethod yX6_get, Cond.selects RX6 yX6_get yX6_get, Cond.code yX6_get cX6_get 3 (some .int), Cond.fieldLink RX6 32 "BoardNotationModel" "table" "[I", Cond.methodLink RX6 108 yX6_reaches, Cond.instanceMethod yX6_reaches, Cond.selects RX6 yX6_reaches yX6_reaches, Cond.code yX6_reaches cX6_reaches 9 (some .boolean), Cond.fieldLink RX6 13 "BoardNotationModel" "manySteps" "[I", Cond.methodLink RX6 101 yX6_reach, Cond.instanceMethod yX6_reach, Cond.selects RX6 yX6_reach yX6_reach, Cond.code yX6_reach cX6_reach 3 (some .int), Cond.fieldLink RX6 16 "BoardNotationModel" "steps" "[I", Cond.methodLink RX6 104 yX6_target, Cond.instanceMethod yX6_target, Cond.selects RX6 yX6_target yX6_target, Cond.code yX6_target cX6_target 8 (some .int), Cond.methodLink RX6 116 yX6_isLegal, Cond.instanceMethod yX6_isLegal]
def wsX6_write_r3 : List Cond := [Cond.selects RX6 yX6_isLegal yX6_isLegal, Cond.code yX6_isLegal cX6_isLegal 3 (some .boolean), Cond.fieldLink RX6 25 "BoardNotationModel" "trial" "[I", Cond.methodLink RX6 60 arraycopyName, Cond.native arraycopyName, Cond.static arraycopyName, Cond.initialized "java/lang/System", Cond.methodLink RX6 91 yX6_play, Cond.static yX6_play, Cond.code yX6_play cX6_play 3 none, Cond.methodLink RX6 112 yX6_isChecked, Cond.instanceMethod yX6_isChecked, Cond.selects RX6 yX6_isChecked yX6_isChecked, Cond.code yX6_isChecked cX6_isChecked 5 (some .boolean), Cond.methodLink RX6 213 yX6_putMove, Cond.instanceMethod yX6_putMove, Cond.selects RX6 yX6_putMove yX6_putMove, Cond.code yX6_putMove cX6_putMove 8 none, Cond.fieldLink RX6 9 "BoardNotationModel" "letters" "[I", Cond.methodLink RX6 209 yX6_put_, Cond.instanceMethod yX6_put_, Cond.selects RX6 yX6_put_ yX6_put_, Cond.code yX6_put_ cX6_put_ 2 none, Cond.fieldLink RX6 54 "BoardNotationModel" "paper" "[I"]
def wsX6_write_r4 : List Cond := [Cond.methodLink RX6 196 yX6_sign, Cond.instanceMethod yX6_sign, Cond.selects RX6 yX6_sign yX6_sign, Cond.code yX6_sign cX6_sign 6 (some .int), Cond.methodLink RX6 124 yX6_legalMoves, Cond.instanceMethod yX6_legalMoves, Cond.selects RX6 yX6_legalMoves yX6_legalMoves, Cond.code yX6_legalMoves cX6_legalMoves 6 (some .int), Cond.methodLink RX6 216 yX6_toTape, Cond.instanceMethod yX6_toTape, Cond.selects RX6 yX6_toTape yX6_toTape, Cond.code yX6_toTape cX6_toTape 1 (some .int), Cond.fieldLink RX6 39 "BoardNotationModel" "tape" "[I", Cond.fieldLink RX6 127 "BoardNotationModel" "taped" "I"]
def wsX6_write : List Cond := .code yX6_write cX6_write 3 (some .int) :: ((wsX6_write_r1 ++ (wsX6_write_r2 ++ (wsX6_write_r3 ++ wsX6_write_r4))) ++ wsX60)
def wsX6_byteAt : List Cond := .code yX6_byteAt cX6_byteAt 2 (some .int) :: ([.fieldLink RX6 66 "BoardNotationModel" "thrown" "I", .fieldLink RX6 127 "BoardNotationModel" "taped" "I", .fieldLink RX6 39 "BoardNotationModel" "tape" "[I", .methodLink RX6 69 yX6_isIn, .static yX6_isIn, .initialized RX6, .code yX6_isIn cX6_isIn 3 (some .boolean), .methodLink RX6 77 yX6_fail, .instanceMethod yX6_fail, .selects RX6 yX6_fail yX6_fail, .code yX6_fail cX6_fail 2 (some .int)] ++ wsX60)
def wsX6_node : List Cond := .code yX6_node cX6_node 3 (some .int) :: ([.fieldLink RX6 66 "BoardNotationModel" "thrown" "I", .methodLink RX6 219 yX6_isNode, .instanceMethod yX6_isNode, .selects RX6 yX6_isNode yX6_isNode, .initialized RX6, .code yX6_isNode cX6_isNode 2 (some .boolean), .fieldLink RX6 28 "BoardNotationModel" "nodes" "I", .methodLink RX6 69 yX6_isIn, .static yX6_isIn, .code yX6_isIn cX6_isIn 3 (some .boolean), .methodLink RX6 87 yX6_get, .instanceMethod yX6_get, .selects RX6 yX6_get yX6_get, .code yX6_get cX6_get 3 (some .int), .fieldLink RX6 32 "BoardNotationModel" "table" "[I", .methodLink RX6 77 yX6_fail, .instanceMethod yX6_fail, .selects RX6 yX6_fail yX6_fail, .code yX6_fail cX6_fail 2 (some .int)] ++ wsX60)
def wsX6_continuation : List Cond := .code yX6_continuation cX6_continuation 3 (some .int) :: ([.fieldLink RX6 66 "BoardNotationModel" "thrown" "I", .methodLink RX6 219 yX6_isNode, .instanceMethod yX6_isNode, .selects RX6 yX6_isNode yX6_isNode, .initialized RX6, .code yX6_isNode cX6_isNode 2 (some .boolean), .fieldLink RX6 28 "BoardNotationModel" "nodes" "I", .methodLink RX6 69 yX6_isIn, .static yX6_isIn, .code yX6_isIn cX6_isIn 3 (some .boolean), .methodLink RX6 87 yX6_get, .instanceMethod yX6_get, .selects RX6 yX6_get yX6_get, .code yX6_get cX6_get 3 (some .int), .fieldLink RX6 32 "BoardNotationModel" "table" "[I", .methodLink RX6 136 yX6_continuation0, .instanceMethod yX6_continuation0, .selects RX6 yX6_continuation0 yX6_continuation0, .code yX6_continuation0 cX6_continuation0 3 (some .int), .fieldLink RX6 36 "BoardNotationModel" "continuations" "[I", .methodLink RX6 77 yX6_fail, .instanceMethod yX6_fail, .selects RX6 yX6_fail yX6_fail, .code yX6_fail cX6_fail 2 (some .int)] ++ wsX60)
def wsX6_goTo_r1 : List Cond := [Cond.fieldLink RX6 66 "BoardNotationModel" "thrown" "I", Cond.fieldLink RX6 95 "BoardNotationModel" "present" "I", Cond.methodLink RX6 219 yX6_isNode, Cond.instanceMethod yX6_isNode, Cond.selects RX6 yX6_isNode yX6_isNode, Cond.initialized RX6, Cond.code yX6_isNode cX6_isNode 2 (some .boolean), Cond.fieldLink RX6 28 "BoardNotationModel" "nodes" "I", Cond.methodLink RX6 69 yX6_isIn, Cond.static yX6_isIn, Cond.code yX6_isIn cX6_isIn 3 (some .boolean), Cond.methodLink RX6 77 yX6_fail, Cond.instanceMethod yX6_fail, Cond.selects RX6 yX6_fail yX6_fail, Cond.code yX6_fail cX6_fail 2 (some .int), Cond.methodLink RX6 222 yX6_set, Cond.instanceMethod yX6_set, Cond.selects RX6 yX6_set yX6_set, Cond.code yX6_set cX6_set 4 none, Cond.fieldLink RX6 19 "BoardNotationModel" "first" "[I", Cond.fieldLink RX6 22 "BoardNotationModel" "board" "[I", Cond.methodLink RX6 60 arraycopyName, Cond.native arraycopyName, Cond.static arraycopyName]
def wsX6_goTo_r2 : List Cond := [Cond.initialized "java/lang/System", Cond.fieldLink RX6 51 "BoardNotationModel" "way" "[I", Cond.methodLink RX6 87 yX6_get, Cond.instanceMethod yX6_get, Cond.selects RX6 yX6_get yX6_get, Cond.code yX6_get cX6_get 3 (some .int), Cond.fieldLink RX6 32 "BoardNotationModel" "table" "[I", Cond.methodLink RX6 91 yX6_play, Cond.static yX6_play, Cond.code yX6_play cX6_play 3 none, Cond.methodLink RX6 120 yX6_turn, Cond.instanceMethod yX6_turn, Cond.selects RX6 yX6_turn yX6_turn, Cond.code yX6_turn cX6_turn 1 (some .int)]
def wsX6_goTo : List Cond := .code yX6_goTo cX6_goTo 2 (some .int) :: ((wsX6_goTo_r1 ++ wsX6_goTo_r2) ++ wsX60)
def wsX6_promote : List Cond := .code yX6_promote cX6_promote 4 (some .int) :: ([.fieldLink RX6 66 "BoardNotationModel" "thrown" "I", .fieldLink RX6 28 "BoardNotationModel" "nodes" "I", .fieldLink RX6 36 "BoardNotationModel" "continuations" "[I", .methodLink RX6 60 arraycopyName, .native arraycopyName, .static arraycopyName, .initialized "java/lang/System", .methodLink RX6 69 yX6_isIn, .static yX6_isIn, .initialized RX6, .code yX6_isIn cX6_isIn 3 (some .boolean), .methodLink RX6 77 yX6_fail, .instanceMethod yX6_fail, .selects RX6 yX6_fail yX6_fail, .code yX6_fail cX6_fail 2 (some .int), .methodLink RX6 87 yX6_get, .instanceMethod yX6_get, .selects RX6 yX6_get yX6_get, .code yX6_get cX6_get 3 (some .int), .fieldLink RX6 32 "BoardNotationModel" "table" "[I"] ++ wsX60)
def wsX6_blank : List Cond := .code yX6_blank cX6_blank 1 none :: ([.fieldLink RX6 206 "BoardNotationModel" "written" "I", .fieldLink RX6 54 "BoardNotationModel" "paper" "[I", .methodLink RX6 209 yX6_put_, .instanceMethod yX6_put_, .selects RX6 yX6_put_ yX6_put_, .initialized RX6, .code yX6_put_ cX6_put_ 2 none, .fieldLink RX6 202 "BoardNotationModel" "isTooLong" "Z"] ++ wsX60)
def wsX6_putNode_r1 : List Cond := [Cond.methodLink RX6 87 yX6_get, Cond.instanceMethod yX6_get, Cond.selects RX6 yX6_get yX6_get, Cond.initialized RX6, Cond.code yX6_get cX6_get 3 (some .int), Cond.fieldLink RX6 32 "BoardNotationModel" "table" "[I", Cond.methodLink RX6 222 yX6_set, Cond.instanceMethod yX6_set, Cond.selects RX6 yX6_set yX6_set, Cond.code yX6_set cX6_set 4 none, Cond.fieldLink RX6 19 "BoardNotationModel" "first" "[I", Cond.fieldLink RX6 22 "BoardNotationModel" "board" "[I", Cond.methodLink RX6 60 arraycopyName, Cond.native arraycopyName, Cond.static arraycopyName, Cond.initialized "java/lang/System", Cond.fieldLink RX6 51 "BoardNotationModel" "way" "[I", Cond.methodLink RX6 91 yX6_play, Cond.static yX6_play, Cond.code yX6_play cX6_play 3 none, Cond.methodLink RX6 225 yX6_blank, Cond.instanceMethod yX6_blank, Cond.selects RX6 yX6_blank yX6_blank, Cond.code yX6_blank cX6_blank 1 none]
def wsX6_putNode_r2 : List Cond := [Cond.fieldLink RX6 206 "BoardNotationModel" "written" "I", Cond.fieldLink RX6 54 "BoardNotationModel" "paper" "[I", Cond.methodLink RX6 209 yX6_put_, Cond.instanceMethod yX6_put_, Cond.selects RX6 yX6_put_ yX6_put_, Cond.code yX6_put_ cX6_put_ 2 none, Cond.fieldLink RX6 202 "BoardNotationModel" "isTooLong" "Z", Cond.methodLink RX6 213 yX6_putMove, Cond.instanceMethod yX6_putMove, Cond.selects RX6 yX6_putMove yX6_putMove, Cond.code yX6_putMove cX6_putMove 8 none, Cond.fieldLink RX6 9 "BoardNotationModel" "letters" "[I", Cond.methodLink RX6 108 yX6_reaches, Cond.instanceMethod yX6_reaches, Cond.selects RX6 yX6_reaches yX6_reaches, Cond.code yX6_reaches cX6_reaches 9 (some .boolean), Cond.fieldLink RX6 13 "BoardNotationModel" "manySteps" "[I", Cond.methodLink RX6 98 yX6_sideOf, Cond.static yX6_sideOf, Cond.code yX6_sideOf cX6_sideOf 1 (some .int), Cond.methodLink RX6 101 yX6_reach, Cond.instanceMethod yX6_reach, Cond.selects RX6 yX6_reach yX6_reach, Cond.code yX6_reach cX6_reach 3 (some .int)]
def wsX6_putNode_r3 : List Cond := [Cond.fieldLink RX6 16 "BoardNotationModel" "steps" "[I", Cond.methodLink RX6 104 yX6_target, Cond.instanceMethod yX6_target, Cond.selects RX6 yX6_target yX6_target, Cond.code yX6_target cX6_target 8 (some .int), Cond.methodLink RX6 69 yX6_isIn, Cond.static yX6_isIn, Cond.code yX6_isIn cX6_isIn 3 (some .boolean), Cond.methodLink RX6 116 yX6_isLegal, Cond.instanceMethod yX6_isLegal, Cond.selects RX6 yX6_isLegal yX6_isLegal, Cond.code yX6_isLegal cX6_isLegal 3 (some .boolean), Cond.fieldLink RX6 25 "BoardNotationModel" "trial" "[I", Cond.methodLink RX6 112 yX6_isChecked, Cond.instanceMethod yX6_isChecked, Cond.selects RX6 yX6_isChecked yX6_isChecked, Cond.code yX6_isChecked cX6_isChecked 5 (some .boolean), Cond.methodLink RX6 196 yX6_sign, Cond.instanceMethod yX6_sign, Cond.selects RX6 yX6_sign yX6_sign, Cond.code yX6_sign cX6_sign 6 (some .int), Cond.methodLink RX6 124 yX6_legalMoves, Cond.instanceMethod yX6_legalMoves, Cond.selects RX6 yX6_legalMoves yX6_legalMoves]
def wsX6_putNode_r4 : List Cond := [Cond.code yX6_legalMoves cX6_legalMoves 6 (some .int)]
def wsX6_putNode : List Cond := .code yX6_putNode cX6_putNode 2 none :: ((wsX6_putNode_r1 ++ (wsX6_putNode_r2 ++ (wsX6_putNode_r3 ++ wsX6_putNode_r4))) ++ wsX60)
def wsX6_putBelow_r1 : List Cond := [Cond.fieldLink RX6 202 "BoardNotationModel" "isTooLong" "Z", Cond.methodLink RX6 87 yX6_get, Cond.instanceMethod yX6_get, Cond.selects RX6 yX6_get yX6_get, Cond.initialized RX6, Cond.code yX6_get cX6_get 3 (some .int), Cond.fieldLink RX6 32 "BoardNotationModel" "table" "[I", Cond.methodLink RX6 136 yX6_continuation0, Cond.instanceMethod yX6_continuation0, Cond.selects RX6 yX6_continuation0 yX6_continuation0, Cond.code yX6_continuation0 cX6_continuation0 3 (some .int), Cond.fieldLink RX6 36 "BoardNotationModel" "continuations" "[I", Cond.methodLink RX6 228 yX6_putNode, Cond.instanceMethod yX6_putNode, Cond.selects RX6 yX6_putNode yX6_putNode, Cond.code yX6_putNode cX6_putNode 2 none, Cond.methodLink RX6 222 yX6_set, Cond.instanceMethod yX6_set, Cond.selects RX6 yX6_set yX6_set, Cond.code yX6_set cX6_set 4 none, Cond.fieldLink RX6 19 "BoardNotationModel" "first" "[I", Cond.fieldLink RX6 22 "BoardNotationModel" "board" "[I", Cond.methodLink RX6 60 arraycopyName, Cond.native arraycopyName]
def wsX6_putBelow_r2 : List Cond := [Cond.static arraycopyName, Cond.initialized "java/lang/System", Cond.fieldLink RX6 51 "BoardNotationModel" "way" "[I", Cond.methodLink RX6 91 yX6_play, Cond.static yX6_play, Cond.code yX6_play cX6_play 3 none, Cond.methodLink RX6 225 yX6_blank, Cond.instanceMethod yX6_blank, Cond.selects RX6 yX6_blank yX6_blank, Cond.code yX6_blank cX6_blank 1 none, Cond.fieldLink RX6 206 "BoardNotationModel" "written" "I", Cond.fieldLink RX6 54 "BoardNotationModel" "paper" "[I", Cond.methodLink RX6 209 yX6_put_, Cond.instanceMethod yX6_put_, Cond.selects RX6 yX6_put_ yX6_put_, Cond.code yX6_put_ cX6_put_ 2 none, Cond.methodLink RX6 213 yX6_putMove, Cond.instanceMethod yX6_putMove, Cond.selects RX6 yX6_putMove yX6_putMove, Cond.code yX6_putMove cX6_putMove 8 none, Cond.fieldLink RX6 9 "BoardNotationModel" "letters" "[I", Cond.methodLink RX6 108 yX6_reaches, Cond.instanceMethod yX6_reaches, Cond.selects RX6 yX6_reaches yX6_reaches]
def wsX6_putBelow_r3 : List Cond := [Cond.code yX6_reaches cX6_reaches 9 (some .boolean), Cond.fieldLink RX6 13 "BoardNotationModel" "manySteps" "[I", Cond.methodLink RX6 98 yX6_sideOf, Cond.static yX6_sideOf, Cond.code yX6_sideOf cX6_sideOf 1 (some .int), Cond.methodLink RX6 101 yX6_reach, Cond.instanceMethod yX6_reach, Cond.selects RX6 yX6_reach yX6_reach, Cond.code yX6_reach cX6_reach 3 (some .int), Cond.fieldLink RX6 16 "BoardNotationModel" "steps" "[I", Cond.methodLink RX6 104 yX6_target, Cond.instanceMethod yX6_target, Cond.selects RX6 yX6_target yX6_target, Cond.code yX6_target cX6_target 8 (some .int), Cond.methodLink RX6 69 yX6_isIn, Cond.static yX6_isIn, Cond.code yX6_isIn cX6_isIn 3 (some .boolean), Cond.methodLink RX6 116 yX6_isLegal, Cond.instanceMethod yX6_isLegal, Cond.selects RX6 yX6_isLegal yX6_isLegal, Cond.code yX6_isLegal cX6_isLegal 3 (some .boolean), Cond.fieldLink RX6 25 "BoardNotationModel" "trial" "[I", Cond.methodLink RX6 112 yX6_isChecked, Cond.instanceMethod yX6_isChecked]
def wsX6_putBelow_r4 : List Cond := [Cond.selects RX6 yX6_isChecked yX6_isChecked, Cond.code yX6_isChecked cX6_isChecked 5 (some .boolean), Cond.methodLink RX6 196 yX6_sign, Cond.instanceMethod yX6_sign, Cond.selects RX6 yX6_sign yX6_sign, Cond.code yX6_sign cX6_sign 6 (some .int), Cond.methodLink RX6 124 yX6_legalMoves, Cond.instanceMethod yX6_legalMoves, Cond.selects RX6 yX6_legalMoves yX6_legalMoves, Cond.code yX6_legalMoves cX6_legalMoves 6 (some .int), Cond.methodLink RX6 231 yX6_putBelow, Cond.instanceMethod yX6_putBelow, Cond.selects RX6 yX6_putBelow yX6_putBelow]
def wsX6_putBelow : List Cond := .code yX6_putBelow cX6_putBelow 4 none :: ((wsX6_putBelow_r1 ++ (wsX6_putBelow_r2 ++ (wsX6_putBelow_r3 ++ wsX6_putBelow_r4))) ++ wsX60)
def wsX6_writeGame_r1 : List Cond := [Cond.fieldLink RX6 66 "BoardNotationModel" "thrown" "I", Cond.fieldLink RX6 206 "BoardNotationModel" "written" "I", Cond.fieldLink RX6 202 "BoardNotationModel" "isTooLong" "Z", Cond.fieldLink RX6 95 "BoardNotationModel" "present" "I", Cond.methodLink RX6 231 yX6_putBelow, Cond.instanceMethod yX6_putBelow, Cond.selects RX6 yX6_putBelow yX6_putBelow, Cond.initialized RX6, Cond.code yX6_putBelow cX6_putBelow 4 none, Cond.methodLink RX6 87 yX6_get, Cond.instanceMethod yX6_get, Cond.selects RX6 yX6_get yX6_get, Cond.code yX6_get cX6_get 3 (some .int), Cond.fieldLink RX6 32 "BoardNotationModel" "table" "[I", Cond.methodLink RX6 136 yX6_continuation0, Cond.instanceMethod yX6_continuation0, Cond.selects RX6 yX6_continuation0 yX6_continuation0, Cond.code yX6_continuation0 cX6_continuation0 3 (some .int), Cond.fieldLink RX6 36 "BoardNotationModel" "continuations" "[I", Cond.methodLink RX6 228 yX6_putNode, Cond.instanceMethod yX6_putNode, Cond.selects RX6 yX6_putNode yX6_putNode, Cond.code yX6_putNode cX6_putNode 2 none, Cond.methodLink RX6 222 yX6_set]
def wsX6_writeGame_r2 : List Cond := [Cond.instanceMethod yX6_set, Cond.selects RX6 yX6_set yX6_set, Cond.code yX6_set cX6_set 4 none, Cond.fieldLink RX6 19 "BoardNotationModel" "first" "[I", Cond.fieldLink RX6 22 "BoardNotationModel" "board" "[I", Cond.methodLink RX6 60 arraycopyName, Cond.native arraycopyName, Cond.static arraycopyName, Cond.initialized "java/lang/System", Cond.fieldLink RX6 51 "BoardNotationModel" "way" "[I", Cond.methodLink RX6 91 yX6_play, Cond.static yX6_play, Cond.code yX6_play cX6_play 3 none, Cond.methodLink RX6 225 yX6_blank, Cond.instanceMethod yX6_blank, Cond.selects RX6 yX6_blank yX6_blank, Cond.code yX6_blank cX6_blank 1 none, Cond.fieldLink RX6 54 "BoardNotationModel" "paper" "[I", Cond.methodLink RX6 209 yX6_put_, Cond.instanceMethod yX6_put_, Cond.selects RX6 yX6_put_ yX6_put_, Cond.code yX6_put_ cX6_put_ 2 none, Cond.methodLink RX6 213 yX6_putMove, Cond.instanceMethod yX6_putMove]
def wsX6_writeGame_r3 : List Cond := [Cond.selects RX6 yX6_putMove yX6_putMove, Cond.code yX6_putMove cX6_putMove 8 none, Cond.fieldLink RX6 9 "BoardNotationModel" "letters" "[I", Cond.methodLink RX6 108 yX6_reaches, Cond.instanceMethod yX6_reaches, Cond.selects RX6 yX6_reaches yX6_reaches, Cond.code yX6_reaches cX6_reaches 9 (some .boolean), Cond.fieldLink RX6 13 "BoardNotationModel" "manySteps" "[I", Cond.methodLink RX6 98 yX6_sideOf, Cond.static yX6_sideOf, Cond.code yX6_sideOf cX6_sideOf 1 (some .int), Cond.methodLink RX6 101 yX6_reach, Cond.instanceMethod yX6_reach, Cond.selects RX6 yX6_reach yX6_reach, Cond.code yX6_reach cX6_reach 3 (some .int), Cond.fieldLink RX6 16 "BoardNotationModel" "steps" "[I", Cond.methodLink RX6 104 yX6_target, Cond.instanceMethod yX6_target, Cond.selects RX6 yX6_target yX6_target, Cond.code yX6_target cX6_target 8 (some .int), Cond.methodLink RX6 69 yX6_isIn, Cond.static yX6_isIn, Cond.code yX6_isIn cX6_isIn 3 (some .boolean), Cond.methodLink RX6 116 yX6_isLegal]
def wsX6_writeGame_r4 : List Cond := [Cond.instanceMethod yX6_isLegal, Cond.selects RX6 yX6_isLegal yX6_isLegal, Cond.code yX6_isLegal cX6_isLegal 3 (some .boolean), Cond.fieldLink RX6 25 "BoardNotationModel" "trial" "[I", Cond.methodLink RX6 112 yX6_isChecked, Cond.instanceMethod yX6_isChecked, Cond.selects RX6 yX6_isChecked yX6_isChecked, Cond.code yX6_isChecked cX6_isChecked 5 (some .boolean), Cond.methodLink RX6 196 yX6_sign, Cond.instanceMethod yX6_sign, Cond.selects RX6 yX6_sign yX6_sign, Cond.code yX6_sign cX6_sign 6 (some .int), Cond.methodLink RX6 124 yX6_legalMoves, Cond.instanceMethod yX6_legalMoves, Cond.selects RX6 yX6_legalMoves yX6_legalMoves, Cond.code yX6_legalMoves cX6_legalMoves 6 (some .int), Cond.methodLink RX6 77 yX6_fail, Cond.instanceMethod yX6_fail, Cond.selects RX6 yX6_fail yX6_fail, Cond.code yX6_fail cX6_fail 2 (some .int), Cond.methodLink RX6 216 yX6_toTape, Cond.instanceMethod yX6_toTape, Cond.selects RX6 yX6_toTape yX6_toTape, Cond.code yX6_toTape cX6_toTape 1 (some .int)]
def wsX6_writeGame_r5 : List Cond := [Cond.fieldLink RX6 39 "BoardNotationModel" "tape" "[I", Cond.fieldLink RX6 127 "BoardNotationModel" "taped" "I"]
def wsX6_writeGame : List Cond := .code yX6_writeGame cX6_writeGame 1 (some .int) :: ((wsX6_writeGame_r1 ++ (wsX6_writeGame_r2 ++ (wsX6_writeGame_r3 ++ (wsX6_writeGame_r4 ++ wsX6_writeGame_r5)))) ++ wsX60)
def wsX6_clearNodes : List Cond := .code yX6_clearNodes cX6_clearNodes 1 none :: ([.fieldLink RX6 28 "BoardNotationModel" "nodes" "I", .fieldLink RX6 32 "BoardNotationModel" "table" "[I", .fieldLink RX6 95 "BoardNotationModel" "present" "I", .methodLink RX6 222 yX6_set, .instanceMethod yX6_set, .selects RX6 yX6_set yX6_set, .initialized RX6, .code yX6_set cX6_set 4 none, .fieldLink RX6 19 "BoardNotationModel" "first" "[I", .fieldLink RX6 22 "BoardNotationModel" "board" "[I", .methodLink RX6 60 arraycopyName, .native arraycopyName, .static arraycopyName, .initialized "java/lang/System", .fieldLink RX6 51 "BoardNotationModel" "way" "[I", .methodLink RX6 87 yX6_get, .instanceMethod yX6_get, .selects RX6 yX6_get yX6_get, .code yX6_get cX6_get 3 (some .int), .methodLink RX6 91 yX6_play, .static yX6_play, .code yX6_play cX6_play 3 none] ++ wsX60)
def wsX6_stop : List Cond := .code yX6_stop cX6_stop 3 (some .int) :: ([.fieldLink RX6 42 "BoardNotationModel" "errorAt" "I"] ++ wsX60)
def wsX6_isWord : List Cond := .code yX6_isWord cX6_isWord 2 (some .boolean) :: ([.fieldLink RX6 127 "BoardNotationModel" "taped" "I", .fieldLink RX6 39 "BoardNotationModel" "tape" "[I"] ++ wsX60)
def wsX6_readGame_r1 : List Cond := [Cond.fieldLink RX6 66 "BoardNotationModel" "thrown" "I", Cond.fieldLink RX6 42 "BoardNotationModel" "errorAt" "I", Cond.fieldLink RX6 127 "BoardNotationModel" "taped" "I", Cond.fieldLink RX6 39 "BoardNotationModel" "tape" "[I", Cond.fieldLink RX6 95 "BoardNotationModel" "present" "I", Cond.fieldLink RX6 57 "BoardNotationModel" "pile" "[I", Cond.fieldLink RX6 28 "BoardNotationModel" "nodes" "I", Cond.fieldLink RX6 193 "BoardNotationModel" "from" "I", Cond.fieldLink RX6 187 "BoardNotationModel" "to" "I", Cond.methodLink RX6 234 yX6_clearNodes, Cond.instanceMethod yX6_clearNodes, Cond.selects RX6 yX6_clearNodes yX6_clearNodes, Cond.initialized RX6, Cond.code yX6_clearNodes cX6_clearNodes 1 none, Cond.fieldLink RX6 32 "BoardNotationModel" "table" "[I", Cond.methodLink RX6 222 yX6_set, Cond.instanceMethod yX6_set, Cond.selects RX6 yX6_set yX6_set, Cond.code yX6_set cX6_set 4 none, Cond.fieldLink RX6 19 "BoardNotationModel" "first" "[I", Cond.fieldLink RX6 22 "BoardNotationModel" "board" "[I", Cond.methodLink RX6 60 arraycopyName, Cond.native arraycopyName, Cond.static arraycopyName]
def wsX6_readGame_r2 : List Cond := [Cond.initialized "java/lang/System", Cond.fieldLink RX6 51 "BoardNotationModel" "way" "[I", Cond.methodLink RX6 87 yX6_get, Cond.instanceMethod yX6_get, Cond.selects RX6 yX6_get yX6_get, Cond.code yX6_get cX6_get 3 (some .int), Cond.methodLink RX6 91 yX6_play, Cond.static yX6_play, Cond.code yX6_play cX6_play 3 none, Cond.methodLink RX6 237 yX6_stop, Cond.instanceMethod yX6_stop, Cond.selects RX6 yX6_stop yX6_stop, Cond.code yX6_stop cX6_stop 3 (some .int), Cond.methodLink RX6 240 yX6_isWord, Cond.instanceMethod yX6_isWord, Cond.selects RX6 yX6_isWord yX6_isWord, Cond.code yX6_isWord cX6_isWord 2 (some .boolean), Cond.methodLink RX6 199 yX6_readMove, Cond.instanceMethod yX6_readMove, Cond.selects RX6 yX6_readMove yX6_readMove, Cond.code yX6_readMove cX6_readMove 10 (some .int), Cond.fieldLink RX6 149 "BoardNotationModel" "badAt" "I", Cond.methodLink RX6 180 yX6_findForm, Cond.instanceMethod yX6_findForm]
def wsX6_readGame_r3 : List Cond := [Cond.selects RX6 yX6_findForm yX6_findForm, Cond.code yX6_findForm cX6_findForm 6 (some .boolean), Cond.fieldLink RX6 146 "BoardNotationModel" "form" "I", Cond.fieldLink RX6 152 "BoardNotationModel" "FORMS" "[Ljava/lang/String;", Cond.methodLink RX6 169 Lib.Math.max.name, Cond.static Lib.Math.max.name, Cond.initialized "java/lang/Math", Cond.code Lib.Math.max.name Lib.Math.max.code 2 (some .int), Cond.methodLink RX6 69 yX6_isIn, Cond.static yX6_isIn, Cond.code yX6_isIn cX6_isIn 3 (some .boolean), Cond.methodLink RX6 156 yJ0_length_8abf5, Cond.instanceMethod yJ0_length_8abf5, Cond.selects RJ0 yJ0_length_8abf5 yJ0_length_8abf5, Cond.initialized RJ0, Cond.code yJ0_length_8abf5 cJ0_length_8abf5 1 (some .int), Cond.fieldLink RJ0 9 "java/lang/String" "value" "[B", Cond.methodLink RJ0 335 yJ0_coder_7d493, Cond.instanceMethod yJ0_coder_7d493, Cond.selects RJ0 yJ0_coder_7d493 yJ0_coder_7d493, Cond.code yJ0_coder_7d493 cJ0_coder_7d493 1 (some .byte), Cond.fieldLink RJ0 38 "java/lang/String" "COMPACT_STRINGS" "Z", Cond.fieldLink RJ0 15 "java/lang/String" "coder" "B", Cond.methodLink RX6 161 yJ0_charAt_5068e]
def wsX6_readGame_r4 : List Cond := [Cond.instanceMethod yJ0_charAt_5068e, Cond.selects RJ0 yJ0_charAt_5068e yJ0_charAt_5068e, Cond.code yJ0_charAt_5068e cJ0_charAt_5068e 2 (some .char), Cond.methodLink RJ0 492 yJ0_isLatin1_aae02, Cond.instanceMethod yJ0_isLatin1_aae02, Cond.selects RJ0 yJ0_isLatin1_aae02 yJ0_isLatin1_aae02, Cond.code yJ0_isLatin1_aae02 cJ0_isLatin1_aae02 1 (some .boolean), Cond.methodLink RJ0 495 yJ1_charAt_3b067, Cond.static yJ1_charAt_3b067, Cond.initialized RJ1, Cond.code yJ1_charAt_3b067 cJ1_charAt_3b067 2 (some .char), Cond.methodLink RJ1 9 yJ0_checkIndex_df160, Cond.static yJ0_checkIndex_df160, Cond.code yJ0_checkIndex_df160 cJ0_checkIndex_df160 2 none, Cond.fieldLink RJ0 1053 "jdk/internal/util/Preconditions" "SIOOBE_FORMATTER" "Ljava/util/function/BiFunction;", Cond.methodLink RJ0 1059 yJ3_checkIndex_8e157, Cond.static yJ3_checkIndex_8e157, Cond.initialized RJ3, Cond.code yJ3_checkIndex_8e157 cJ3_checkIndex_8e157 3 (some .int), Cond.methodLink RJ0 498 yJ2_charAt_3b067, Cond.static yJ2_charAt_3b067, Cond.initialized RJ2, Cond.code yJ2_charAt_3b067 cJ2_charAt_3b067 2 (some .char), Cond.methodLink RJ2 67 yJ2_checkIndex_2214a]
def wsX6_readGame_r5 : List Cond := [Cond.static yJ2_checkIndex_2214a, Cond.code yJ2_checkIndex_2214a cJ2_checkIndex_2214a 2 none, Cond.methodLink RJ2 48 yJ2_length_9d52b, Cond.static yJ2_length_9d52b, Cond.code yJ2_length_9d52b cJ2_length_9d52b 1 (some .int), Cond.methodLink RJ2 414 yJ0_checkIndex_df160, Cond.methodLink RJ2 71 yJ2_getChar_3b067, Cond.static yJ2_getChar_3b067, Cond.code yJ2_getChar_3b067 cJ2_getChar_3b067 2 (some .char), Cond.fieldLink RJ2 44 "java/lang/StringUTF16" "$assertionsDisabled" "Z", Cond.fieldLink RJ2 59 "java/lang/StringUTF16" "HI_BYTE_SHIFT" "I", Cond.fieldLink RJ2 63 "java/lang/StringUTF16" "LO_BYTE_SHIFT" "I", Cond.methodLink RX6 165 yX6_fits, Cond.static yX6_fits, Cond.code yX6_fits cX6_fits 2 (some .boolean), Cond.methodLink RX6 73 yX6_kindOf, Cond.instanceMethod yX6_kindOf, Cond.selects RX6 yX6_kindOf yX6_kindOf, Cond.code yX6_kindOf cX6_kindOf 3 (some .int), Cond.fieldLink RX6 80 "BoardNotationModel" "kinds" "I", Cond.fieldLink RX6 9 "BoardNotationModel" "letters" "[I", Cond.methodLink RX6 183 yX6_late, Cond.instanceMethod yX6_late, Cond.selects RX6 yX6_late yX6_late]
def wsX6_readGame_r6 : List Cond := [Cond.code yX6_late cX6_late 4 (some .int), Cond.methodLink RX6 177 yJ0_lastIndexOf_0f7a4, Cond.instanceMethod yJ0_lastIndexOf_0f7a4, Cond.selects RJ0 yJ0_lastIndexOf_0f7a4 yJ0_lastIndexOf_0f7a4, Cond.code yJ0_lastIndexOf_0f7a4 cJ0_lastIndexOf_0f7a4 2 (some .int), Cond.methodLink RJ0 505 yJ0_length_8abf5, Cond.methodLink RJ0 641 yJ0_lastIndexOf_7cf53, Cond.instanceMethod yJ0_lastIndexOf_7cf53, Cond.selects RJ0 yJ0_lastIndexOf_7cf53 yJ0_lastIndexOf_7cf53, Cond.code yJ0_lastIndexOf_7cf53 cJ0_lastIndexOf_7cf53 3 (some .int), Cond.methodLink RJ0 644 yJ1_lastIndexOf_7d655, Cond.static yJ1_lastIndexOf_7d655, Cond.code yJ1_lastIndexOf_7d655 cJ1_lastIndexOf_7d655 4 (some .int), Cond.methodLink RJ1 38 Lib.Math.min.name, Cond.static Lib.Math.min.name, Cond.code Lib.Math.min.name Lib.Math.min.code 2 (some .int), Cond.methodLink RJ1 88 yJ1_canEncode_9a6ad, Cond.static yJ1_canEncode_9a6ad, Cond.code yJ1_canEncode_9a6ad cJ1_canEncode_9a6ad 1 (some .boolean), Cond.methodLink RJ0 646 yJ2_lastIndexOf_7d655, Cond.static yJ2_lastIndexOf_7d655, Cond.code yJ2_lastIndexOf_7d655 cJ2_lastIndexOf_7d655 4 (some .int), Cond.constant RJ2 227 (65536), Cond.methodLink RJ2 183 Lib.Math.min.name]
def wsX6_readGame_r7 : List Cond := [Cond.methodLink RJ2 247 yJ2_lastIndexOfSupplementary_7d655, Cond.static yJ2_lastIndexOfSupplementary_7d655, Cond.code yJ2_lastIndexOfSupplementary_7d655 cJ2_lastIndexOfSupplementary_7d655 6 (some .int), Cond.methodLink RJ2 164 yJ11_isValidCodePoint_9a6ad, Cond.static yJ11_isValidCodePoint_9a6ad, Cond.initialized RJ11, Cond.code yJ11_isValidCodePoint_9a6ad cJ11_isValidCodePoint_9a6ad 2 (some .boolean), Cond.methodLink RJ2 157 yJ11_highSurrogate_5068e, Cond.static yJ11_highSurrogate_5068e, Cond.code yJ11_highSurrogate_5068e cJ11_highSurrogate_5068e 1 (some .char), Cond.constant RJ11 110 (55232), Cond.methodLink RJ2 161 yJ11_lowSurrogate_5068e, Cond.static yJ11_lowSurrogate_5068e, Cond.code yJ11_lowSurrogate_5068e cJ11_lowSurrogate_5068e 1 (some .char), Cond.constant RJ11 76 (56320), Cond.methodLink RX6 190 yX6_early, Cond.instanceMethod yX6_early, Cond.selects RX6 yX6_early yX6_early, Cond.code yX6_early cX6_early 5 (some .int), Cond.methodLink RX6 174 yJ0_indexOf_0f7a4, Cond.instanceMethod yJ0_indexOf_0f7a4, Cond.selects RJ0 yJ0_indexOf_0f7a4 yJ0_indexOf_0f7a4, Cond.code yJ0_indexOf_0f7a4 cJ0_indexOf_0f7a4 2 (some .int), Cond.methodLink RJ0 633 yJ0_indexOf_7cf53]
def wsX6_readGame_r8 : List Cond := [Cond.instanceMethod yJ0_indexOf_7cf53, Cond.selects RJ0 yJ0_indexOf_7cf53 yJ0_indexOf_7cf53, Cond.code yJ0_indexOf_7cf53 cJ0_indexOf_7cf53 3 (some .int), Cond.methodLink RJ0 637 yJ1_indexOf_4cfef, Cond.static yJ1_indexOf_4cfef, Cond.code yJ1_indexOf_4cfef cJ1_indexOf_4cfef 4 (some .int), Cond.methodLink RJ1 92 Lib.Math.max.name, Cond.methodLink RJ1 95 yJ1_indexOfChar_4cfef, Cond.static yJ1_indexOfChar_4cfef, Cond.code yJ1_indexOfChar_4cfef cJ1_indexOfChar_4cfef 6 (some .int), Cond.methodLink RJ0 640 yJ2_indexOf_4cfef, Cond.static yJ2_indexOf_4cfef, Cond.code yJ2_indexOf_4cfef cJ2_indexOf_4cfef 4 (some .int), Cond.methodLink RJ2 224 Lib.Math.max.name, Cond.methodLink RJ2 228 yJ2_indexOfChar_4cfef, Cond.static yJ2_indexOfChar_4cfef, Cond.code yJ2_indexOfChar_4cfef cJ2_indexOfChar_4cfef 4 (some .int), Cond.methodLink RJ2 96 yJ2_checkBoundsBeginEnd_d044e, Cond.static yJ2_checkBoundsBeginEnd_d044e, Cond.code yJ2_checkBoundsBeginEnd_d044e cJ2_checkBoundsBeginEnd_d044e 3 none, Cond.methodLink RJ2 241 yJ0_checkBoundsBeginEnd_23922, Cond.static yJ0_checkBoundsBeginEnd_23922, Cond.code yJ0_checkBoundsBeginEnd_23922 cJ0_checkBoundsBeginEnd_23922 3 none, Cond.methodLink RJ0 1062 yJ3_checkFromToIndex_8c36e]
def wsX6_readGame_r9 : List Cond := [Cond.static yJ3_checkFromToIndex_8c36e, Cond.code yJ3_checkFromToIndex_8c36e cJ3_checkFromToIndex_8c36e 4 (some .int), Cond.methodLink RJ2 244 yJ2_indexOfCharUnsafe_4cfef, Cond.static yJ2_indexOfCharUnsafe_4cfef, Cond.code yJ2_indexOfCharUnsafe_4cfef cJ2_indexOfCharUnsafe_4cfef 5 (some .int), Cond.methodLink RJ2 232 yJ2_indexOfSupplementary_4cfef, Cond.static yJ2_indexOfSupplementary_4cfef, Cond.code yJ2_indexOfSupplementary_4cfef cJ2_indexOfSupplementary_4cfef 7 (some .int), Cond.methodLink RX6 120 yX6_turn, Cond.instanceMethod yX6_turn, Cond.selects RX6 yX6_turn yX6_turn, Cond.code yX6_turn cX6_turn 1 (some .int), Cond.methodLink RX6 108 yX6_reaches, Cond.instanceMethod yX6_reaches, Cond.selects RX6 yX6_reaches yX6_reaches, Cond.code yX6_reaches cX6_reaches 9 (some .boolean), Cond.fieldLink RX6 13 "BoardNotationModel" "manySteps" "[I", Cond.methodLink RX6 98 yX6_sideOf, Cond.static yX6_sideOf, Cond.code yX6_sideOf cX6_sideOf 1 (some .int), Cond.methodLink RX6 101 yX6_reach, Cond.instanceMethod yX6_reach, Cond.selects RX6 yX6_reach yX6_reach, Cond.code yX6_reach cX6_reach 3 (some .int)]
def wsX6_readGame_r10 : List Cond := [Cond.fieldLink RX6 16 "BoardNotationModel" "steps" "[I", Cond.methodLink RX6 104 yX6_target, Cond.instanceMethod yX6_target, Cond.selects RX6 yX6_target yX6_target, Cond.code yX6_target cX6_target 8 (some .int), Cond.methodLink RX6 116 yX6_isLegal, Cond.instanceMethod yX6_isLegal, Cond.selects RX6 yX6_isLegal yX6_isLegal, Cond.code yX6_isLegal cX6_isLegal 3 (some .boolean), Cond.fieldLink RX6 25 "BoardNotationModel" "trial" "[I", Cond.methodLink RX6 112 yX6_isChecked, Cond.instanceMethod yX6_isChecked, Cond.selects RX6 yX6_isChecked yX6_isChecked, Cond.code yX6_isChecked cX6_isChecked 5 (some .boolean), Cond.methodLink RX6 196 yX6_sign, Cond.instanceMethod yX6_sign, Cond.selects RX6 yX6_sign yX6_sign, Cond.code yX6_sign cX6_sign 6 (some .int), Cond.methodLink RX6 124 yX6_legalMoves, Cond.instanceMethod yX6_legalMoves, Cond.selects RX6 yX6_legalMoves yX6_legalMoves, Cond.code yX6_legalMoves cX6_legalMoves 6 (some .int), Cond.methodLink RX6 139 yX6_known, Cond.instanceMethod yX6_known]
def wsX6_readGame_r11 : List Cond := [Cond.selects RX6 yX6_known yX6_known, Cond.code yX6_known cX6_known 5 (some .int), Cond.methodLink RX6 136 yX6_continuation0, Cond.instanceMethod yX6_continuation0, Cond.selects RX6 yX6_continuation0 yX6_continuation0, Cond.code yX6_continuation0 cX6_continuation0 3 (some .int), Cond.fieldLink RX6 36 "BoardNotationModel" "continuations" "[I", Cond.methodLink RX6 142 yX6_playOn, Cond.instanceMethod yX6_playOn, Cond.selects RX6 yX6_playOn yX6_playOn, Cond.code yX6_playOn cX6_playOn 5 none, Cond.arrayClass .int]
def wsX6_readGame : List Cond := .code yX6_readGame cX6_readGame 6 (some .int) :: ((wsX6_readGame_r1 ++ (wsX6_readGame_r2 ++ (wsX6_readGame_r3 ++ (wsX6_readGame_r4 ++ (wsX6_readGame_r5 ++ (wsX6_readGame_r6 ++ (wsX6_readGame_r7 ++ (wsX6_readGame_r8 ++ (wsX6_readGame_r9 ++ (wsX6_readGame_r10 ++ wsX6_readGame_r11)))))))))) ++ wsX60)
def wsX6_clear_r1 : List Cond := [Cond.fieldLink RX6 66 "BoardNotationModel" "thrown" "I", Cond.fieldLink RX6 28 "BoardNotationModel" "nodes" "I", Cond.methodLink RX6 234 yX6_clearNodes, Cond.instanceMethod yX6_clearNodes, Cond.selects RX6 yX6_clearNodes yX6_clearNodes, Cond.initialized RX6, Cond.code yX6_clearNodes cX6_clearNodes 1 none, Cond.fieldLink RX6 32 "BoardNotationModel" "table" "[I", Cond.fieldLink RX6 95 "BoardNotationModel" "present" "I", Cond.methodLink RX6 222 yX6_set, Cond.instanceMethod yX6_set, Cond.selects RX6 yX6_set yX6_set, Cond.code yX6_set cX6_set 4 none, Cond.fieldLink RX6 19 "BoardNotationModel" "first" "[I", Cond.fieldLink RX6 22 "BoardNotationModel" "board" "[I", Cond.methodLink RX6 60 arraycopyName, Cond.native arraycopyName, Cond.static arraycopyName, Cond.initialized "java/lang/System", Cond.fieldLink RX6 51 "BoardNotationModel" "way" "[I", Cond.methodLink RX6 87 yX6_get, Cond.instanceMethod yX6_get, Cond.selects RX6 yX6_get yX6_get, Cond.code yX6_get cX6_get 3 (some .int)]
def wsX6_clear_r2 : List Cond := [Cond.methodLink RX6 91 yX6_play, Cond.static yX6_play, Cond.code yX6_play cX6_play 3 none]
def wsX6_clear : List Cond := .code yX6_clear cX6_clear 2 (some .int) :: ((wsX6_clear_r1 ++ wsX6_clear_r2) ++ wsX60)
def wsX6_branching : List Cond := .code yX6_branching cX6_branching 4 (some .double) :: ([.fieldLink RX6 66 "BoardNotationModel" "thrown" "I", .fieldLink RX6 28 "BoardNotationModel" "nodes" "I", .methodLink RX6 87 yX6_get, .instanceMethod yX6_get, .selects RX6 yX6_get yX6_get, .initialized RX6, .code yX6_get cX6_get 3 (some .int), .fieldLink RX6 32 "BoardNotationModel" "table" "[I"] ++ wsX60)
def wsX6_digest_r1 : List Cond := [Cond.fieldLink RX6 66 "BoardNotationModel" "thrown" "I", Cond.constantLong RX6 243 (353), Cond.constantLong RX6 245 (31), Cond.fieldLink RX6 22 "BoardNotationModel" "board" "[I", Cond.fieldLink RX6 28 "BoardNotationModel" "nodes" "I", Cond.fieldLink RX6 127 "BoardNotationModel" "taped" "I", Cond.fieldLink RX6 39 "BoardNotationModel" "tape" "[I", Cond.methodLink RX6 130 yX6_stateTold, Cond.instanceMethod yX6_stateTold, Cond.selects RX6 yX6_stateTold yX6_stateTold, Cond.initialized RX6, Cond.code yX6_stateTold cX6_stateTold 2 (some .int), Cond.fieldLink RX6 95 "BoardNotationModel" "present" "I", Cond.fieldLink RX6 80 "BoardNotationModel" "kinds" "I", Cond.methodLink RX6 120 yX6_turn, Cond.instanceMethod yX6_turn, Cond.selects RX6 yX6_turn yX6_turn, Cond.code yX6_turn cX6_turn 1 (some .int), Cond.methodLink RX6 87 yX6_get, Cond.instanceMethod yX6_get, Cond.selects RX6 yX6_get yX6_get, Cond.code yX6_get cX6_get 3 (some .int), Cond.fieldLink RX6 32 "BoardNotationModel" "table" "[I", Cond.methodLink RX6 112 yX6_isChecked]
def wsX6_digest_r2 : List Cond := [Cond.instanceMethod yX6_isChecked, Cond.selects RX6 yX6_isChecked yX6_isChecked, Cond.code yX6_isChecked cX6_isChecked 5 (some .boolean), Cond.methodLink RX6 98 yX6_sideOf, Cond.static yX6_sideOf, Cond.code yX6_sideOf cX6_sideOf 1 (some .int), Cond.methodLink RX6 108 yX6_reaches, Cond.instanceMethod yX6_reaches, Cond.selects RX6 yX6_reaches yX6_reaches, Cond.code yX6_reaches cX6_reaches 9 (some .boolean), Cond.fieldLink RX6 13 "BoardNotationModel" "manySteps" "[I", Cond.methodLink RX6 101 yX6_reach, Cond.instanceMethod yX6_reach, Cond.selects RX6 yX6_reach yX6_reach, Cond.code yX6_reach cX6_reach 3 (some .int), Cond.fieldLink RX6 16 "BoardNotationModel" "steps" "[I", Cond.methodLink RX6 104 yX6_target, Cond.instanceMethod yX6_target, Cond.selects RX6 yX6_target yX6_target, Cond.code yX6_target cX6_target 8 (some .int), Cond.methodLink RX6 69 yX6_isIn, Cond.static yX6_isIn, Cond.code yX6_isIn cX6_isIn 3 (some .boolean), Cond.methodLink RX6 124 yX6_legalMoves]
def wsX6_digest_r3 : List Cond := [Cond.instanceMethod yX6_legalMoves, Cond.selects RX6 yX6_legalMoves yX6_legalMoves, Cond.code yX6_legalMoves cX6_legalMoves 6 (some .int), Cond.methodLink RX6 116 yX6_isLegal, Cond.instanceMethod yX6_isLegal, Cond.selects RX6 yX6_isLegal yX6_isLegal, Cond.code yX6_isLegal cX6_isLegal 3 (some .boolean), Cond.fieldLink RX6 25 "BoardNotationModel" "trial" "[I", Cond.methodLink RX6 60 arraycopyName, Cond.native arraycopyName, Cond.static arraycopyName, Cond.initialized "java/lang/System", Cond.methodLink RX6 91 yX6_play, Cond.static yX6_play, Cond.code yX6_play cX6_play 3 none, Cond.methodLink RX6 136 yX6_continuation0, Cond.instanceMethod yX6_continuation0, Cond.selects RX6 yX6_continuation0 yX6_continuation0, Cond.code yX6_continuation0 cX6_continuation0 3 (some .int), Cond.fieldLink RX6 36 "BoardNotationModel" "continuations" "[I"]
def wsX6_digest : List Cond := .code yX6_digest cX6_digest 5 (some .long) :: ((wsX6_digest_r1 ++ (wsX6_digest_r2 ++ wsX6_digest_r3)) ++ wsX60)
def wsJ9_max_7cf53 : List Cond := .code yJ9_max_7cf53 cJ9_max_7cf53 2 (some .int) :: ([])
def wsJ9_min_7cf53 : List Cond := .code yJ9_min_7cf53 cJ9_min_7cf53 2 (some .int) :: ([])
def wsL_addKind_r1 : List Cond := [Cond.classLink RL 13 "java/lang/IllegalArgumentException", Cond.classLink RL 15 "java/lang/IllegalStateException", Cond.methodLink RL 7 yX5_addKind, Cond.instanceMethod yX5_addKind, Cond.selects RX5 yX5_addKind yX5_addKind, Cond.initialized RX5, Cond.code yX5_addKind cX5_addKind 2 (some .int), Cond.classLink RX5 86 "java/lang/IllegalArgumentException", Cond.initialized "java/lang/IllegalArgumentException", Cond.classLink RX5 98 "java/lang/IllegalStateException", Cond.initialized "java/lang/IllegalStateException", Cond.fieldLink RX5 12 "BoardNotation" "kinds" "LBoardNotation$Kinds;", Cond.fieldLink RX5 28 "BoardNotation" "tree" "LBoardNotation$Tree;", Cond.methodLink RX5 82 yX1_withLetter, Cond.instanceMethod yX1_withLetter, Cond.selects RX1 yX1_withLetter yX1_withLetter, Cond.initialized RX1, Cond.code yX1_withLetter cX1_withLetter 3 (some .int), Cond.fieldLink RX1 27 "BoardNotation$Kinds" "size" "I", Cond.fieldLink RX1 9 "BoardNotation$Kinds" "letters" "[I", Cond.methodLink RX5 93 yX1_size, Cond.instanceMethod yX1_size, Cond.selects RX1 yX1_size yX1_size, Cond.code yX1_size cX1_size 1 (some .int)]
def wsL_addKind_r2 : List Cond := [Cond.methodLink RX5 97 yX4_size, Cond.instanceMethod yX4_size, Cond.selects RX4 yX4_size yX4_size, Cond.initialized RX4, Cond.code yX4_size cX4_size 1 (some .int), Cond.fieldLink RX4 36 "BoardNotation$Tree" "size" "I", Cond.methodLink RX5 103 yX1_include, Cond.instanceMethod yX1_include, Cond.selects RX1 yX1_include yX1_include, Cond.code yX1_include cX1_include 2 (some .int)]
def wsL_addKind : List Cond := .codeWith yL_addKind cL_addKind 4 (some .int) [(0, 9, 12, 13), (0, 9, 15, 15)] :: ((wsL_addKind_r1 ++ wsL_addKind_r2) ++ wsX50 ++ wsX10 ++ wsX40 ++ (vx_atS RX5 90 "java/lang/IllegalArgumentException" ["java/lang/RuntimeException", "java/lang/Exception"]).filter goodWord ++ (vx_atS RX5 102 "java/lang/IllegalStateException" ["java/lang/RuntimeException", "java/lang/Exception"]).filter goodWord)
def wsL_addStep_r1 : List Cond := [Cond.classLink RL 21 "java/lang/IndexOutOfBoundsException", Cond.classLink RL 13 "java/lang/IllegalArgumentException", Cond.classLink RL 15 "java/lang/IllegalStateException", Cond.methodLink RL 17 yX5_addStep, Cond.instanceMethod yX5_addStep, Cond.selects RX5 yX5_addStep yX5_addStep, Cond.initialized RX5, Cond.code yX5_addStep cX5_addStep 5 (some .int), Cond.classLink RX5 110 "java/lang/IndexOutOfBoundsException", Cond.initialized "java/lang/IndexOutOfBoundsException", Cond.classLink RX5 86 "java/lang/IllegalArgumentException", Cond.initialized "java/lang/IllegalArgumentException", Cond.classLink RX5 98 "java/lang/IllegalStateException", Cond.initialized "java/lang/IllegalStateException", Cond.fieldLink RX5 12 "BoardNotation" "kinds" "LBoardNotation$Kinds;", Cond.fieldLink RX5 28 "BoardNotation" "tree" "LBoardNotation$Tree;", Cond.methodLink RX5 106 yX1_has, Cond.instanceMethod yX1_has, Cond.selects RX1 yX1_has yX1_has, Cond.initialized RX1, Cond.code yX1_has cX1_has 2 (some .boolean), Cond.fieldLink RX1 27 "BoardNotation$Kinds" "size" "I", Cond.methodLink RX5 115 yX5_isStep, Cond.static yX5_isStep]
def wsL_addStep_r2 : List Cond := [Cond.code yX5_isStep cX5_isStep 2 (some .boolean), Cond.methodLink RX5 121 yX1_stepCount, Cond.instanceMethod yX1_stepCount, Cond.selects RX1 yX1_stepCount yX1_stepCount, Cond.code yX1_stepCount cX1_stepCount 2 (some .int), Cond.fieldLink RX1 15 "BoardNotation$Kinds" "stepCounts" "[I", Cond.methodLink RX1 31 yX1_has, Cond.methodLink RX5 97 yX4_size, Cond.instanceMethod yX4_size, Cond.selects RX4 yX4_size yX4_size, Cond.initialized RX4, Cond.code yX4_size cX4_size 1 (some .int), Cond.fieldLink RX4 36 "BoardNotation$Tree" "size" "I", Cond.methodLink RX5 126 yX1_includeStep, Cond.instanceMethod yX1_includeStep, Cond.selects RX1 yX1_includeStep yX1_includeStep, Cond.code yX1_includeStep cX1_includeStep 6 (some .int), Cond.fieldLink RX1 18 "BoardNotation$Kinds" "stepX" "[I", Cond.fieldLink RX1 21 "BoardNotation$Kinds" "stepY" "[I", Cond.fieldLink RX1 24 "BoardNotation$Kinds" "stepReach" "[I"]
def wsL_addStep : List Cond := .codeWith yL_addStep cL_addStep 7 (some .int) [(0, 14, 17, 21), (0, 14, 21, 13), (0, 14, 25, 15)] :: ((wsL_addStep_r1 ++ wsL_addStep_r2) ++ wsX50 ++ wsX10 ++ wsX40 ++ (vx_atS RX5 114 "java/lang/IndexOutOfBoundsException" ["java/lang/RuntimeException", "java/lang/Exception"]).filter goodWord ++ (vx_atS RX5 90 "java/lang/IllegalArgumentException" ["java/lang/RuntimeException", "java/lang/Exception"]).filter goodWord ++ (vx_atS RX5 102 "java/lang/IllegalStateException" ["java/lang/RuntimeException", "java/lang/Exception"]).filter goodWord)
def wsL_put_r1 : List Cond := [Cond.classLink RL 21 "java/lang/IndexOutOfBoundsException", Cond.classLink RL 13 "java/lang/IllegalArgumentException", Cond.classLink RL 15 "java/lang/IllegalStateException", Cond.methodLink RL 23 yX5_put, Cond.instanceMethod yX5_put, Cond.selects RX5 yX5_put yX5_put, Cond.initialized RX5, Cond.code yX5_put cX5_put 4 (some .int), Cond.classLink RX5 110 "java/lang/IndexOutOfBoundsException", Cond.initialized "java/lang/IndexOutOfBoundsException", Cond.classLink RX5 86 "java/lang/IllegalArgumentException", Cond.initialized "java/lang/IllegalArgumentException", Cond.classLink RX5 98 "java/lang/IllegalStateException", Cond.initialized "java/lang/IllegalStateException", Cond.fieldLink RX5 12 "BoardNotation" "kinds" "LBoardNotation$Kinds;", Cond.fieldLink RX5 28 "BoardNotation" "tree" "LBoardNotation$Tree;", Cond.fieldLink RX5 21 "BoardNotation" "board" "LBoardNotation$Board;", Cond.methodLink RX5 130 yX5_isSquare, Cond.static yX5_isSquare, Cond.code yX5_isSquare cX5_isSquare 1 (some .boolean), Cond.methodLink RX5 106 yX1_has, Cond.instanceMethod yX1_has, Cond.selects RX1 yX1_has yX1_has, Cond.initialized RX1]
def wsL_put_r2 : List Cond := [Cond.code yX1_has cX1_has 2 (some .boolean), Cond.fieldLink RX1 27 "BoardNotation$Kinds" "size" "I", Cond.methodLink RX5 97 yX4_size, Cond.instanceMethod yX4_size, Cond.selects RX4 yX4_size yX4_size, Cond.initialized RX4, Cond.code yX4_size cX4_size 1 (some .int), Cond.fieldLink RX4 36 "BoardNotation$Tree" "size" "I", Cond.methodLink RX5 139 yX0_replace, Cond.instanceMethod yX0_replace, Cond.selects RX0 yX0_replace yX0_replace, Cond.initialized RX0, Cond.code yX0_replace cX0_replace 4 (some .int), Cond.fieldLink RX0 9 "BoardNotation$Board" "pieces" "[I"]
def wsL_put : List Cond := .codeWith yL_put cL_put 6 (some .int) [(0, 12, 15, 21), (0, 12, 19, 13), (0, 12, 23, 15)] :: ((wsL_put_r1 ++ wsL_put_r2) ++ wsX50 ++ wsX10 ++ wsX40 ++ wsX00 ++ (vx_atS RX5 114 "java/lang/IndexOutOfBoundsException" ["java/lang/RuntimeException", "java/lang/Exception"]).filter goodWord ++ (vx_atS RX5 90 "java/lang/IllegalArgumentException" ["java/lang/RuntimeException", "java/lang/Exception"]).filter goodWord ++ (vx_atS RX5 102 "java/lang/IllegalStateException" ["java/lang/RuntimeException", "java/lang/Exception"]).filter goodWord)
def wsL_at : List Cond := .codeWith yL_at cL_at 4 (some .int) [(0, 9, 12, 21)] :: ([.classLink RL 21 "java/lang/IndexOutOfBoundsException", .methodLink RL 27 yX5_at, .instanceMethod yX5_at, .selects RX5 yX5_at yX5_at, .initialized RX5, .code yX5_at cX5_at 2 (some .int), .classLink RX5 110 "java/lang/IndexOutOfBoundsException", .initialized "java/lang/IndexOutOfBoundsException", .fieldLink RX5 21 "BoardNotation" "board" "LBoardNotation$Board;", .methodLink RX5 130 yX5_isSquare, .static yX5_isSquare, .code yX5_isSquare cX5_isSquare 1 (some .boolean), .methodLink RX5 145 yX0_pieceOn, .instanceMethod yX0_pieceOn, .selects RX0 yX0_pieceOn yX0_pieceOn, .initialized RX0, .code yX0_pieceOn cX0_pieceOn 2 (some .int), .fieldLink RX0 9 "BoardNotation$Board" "pieces" "[I"] ++ wsX50 ++ wsX00 ++ (vx_atS RX5 114 "java/lang/IndexOutOfBoundsException" ["java/lang/RuntimeException", "java/lang/Exception"]).filter goodWord)
def wsL_state_r1 : List Cond := [Cond.classLink RL 21 "java/lang/IndexOutOfBoundsException", Cond.methodLink RL 30 yX5_state, Cond.instanceMethod yX5_state, Cond.selects RX5 yX5_state yX5_state, Cond.initialized RX5, Cond.code yX5_state cX5_state 2 (some .int), Cond.classLink RX5 110 "java/lang/IndexOutOfBoundsException", Cond.initialized "java/lang/IndexOutOfBoundsException", Cond.fieldLink RX5 21 "BoardNotation" "board" "LBoardNotation$Board;", Cond.fieldLink RX5 56 "BoardNotation" "present" "I", Cond.fieldLink RX5 28 "BoardNotation" "tree" "LBoardNotation$Tree;", Cond.fieldLink RX5 12 "BoardNotation" "kinds" "LBoardNotation$Kinds;", Cond.fieldLink RX5 49 "BoardNotation" "tape" "LBoardNotation$Text;", Cond.methodLink RX5 148 yX5_turn, Cond.instanceMethod yX5_turn, Cond.selects RX5 yX5_turn yX5_turn, Cond.code yX5_turn cX5_turn 1 (some .int), Cond.methodLink RX5 276 yX4_depth, Cond.instanceMethod yX4_depth, Cond.selects RX4 yX4_depth yX4_depth, Cond.initialized RX4, Cond.code yX4_depth cX4_depth 2 (some .int), Cond.fieldLink RX4 24 "BoardNotation$Tree" "depth" "[I", Cond.methodLink RX4 44 yX4_has]
def wsL_state_r2 : List Cond := [Cond.instanceMethod yX4_has, Cond.selects RX4 yX4_has yX4_has, Cond.code yX4_has cX4_has 2 (some .boolean), Cond.fieldLink RX4 36 "BoardNotation$Tree" "size" "I", Cond.methodLink RX5 151 yX0_inCheck, Cond.instanceMethod yX0_inCheck, Cond.selects RX0 yX0_inCheck yX0_inCheck, Cond.initialized RX0, Cond.code yX0_inCheck cX0_inCheck 6 (some .boolean), Cond.fieldLink RX0 9 "BoardNotation$Board" "pieces" "[I", Cond.methodLink RX0 58 yX0_royalsOf, Cond.instanceMethod yX0_royalsOf, Cond.selects RX0 yX0_royalsOf yX0_royalsOf, Cond.code yX0_royalsOf cX0_royalsOf 5 (some .long), Cond.methodLink RX0 36 yX0_reachedFrom, Cond.instanceMethod yX0_reachedFrom, Cond.selects RX0 yX0_reachedFrom yX0_reachedFrom, Cond.code yX0_reachedFrom cX0_reachedFrom 16 (some .long), Cond.fieldLink RX0 15 "BoardNotation$Board" "kinds" "LBoardNotation$Kinds;", Cond.methodLink RX5 154 yX0_countLegalMoves, Cond.instanceMethod yX0_countLegalMoves, Cond.selects RX0 yX0_countLegalMoves yX0_countLegalMoves, Cond.code yX0_countLegalMoves cX0_countLegalMoves 8 (some .int), Cond.methodLink RX0 72 yX0_keepsRoyalsSafe]
def wsL_state_r3 : List Cond := [Cond.instanceMethod yX0_keepsRoyalsSafe, Cond.selects RX0 yX0_keepsRoyalsSafe yX0_keepsRoyalsSafe, Cond.code yX0_keepsRoyalsSafe cX0_keepsRoyalsSafe 6 (some .boolean), Cond.methodLink RX0 29 yX0_pieceOn, Cond.instanceMethod yX0_pieceOn, Cond.selects RX0 yX0_pieceOn yX0_pieceOn, Cond.code yX0_pieceOn cX0_pieceOn 2 (some .int), Cond.static yX5_isSquare, Cond.code yX5_isSquare cX5_isSquare 1 (some .boolean), Cond.methodLink RX0 61 yX0_move, Cond.instanceMethod yX0_move, Cond.selects RX0 yX0_move yX0_move, Cond.code yX0_move cX0_move 4 (some .int), Cond.methodLink RX0 65 yX0_inCheck, Cond.methodLink RX0 68 yX0_takeBack, Cond.instanceMethod yX0_takeBack, Cond.selects RX0 yX0_takeBack yX0_takeBack, Cond.code yX0_takeBack cX0_takeBack 4 none, Cond.methodLink RX5 97 yX4_size, Cond.instanceMethod yX4_size, Cond.selects RX4 yX4_size yX4_size, Cond.code yX4_size cX4_size 1 (some .int), Cond.methodLink RX5 93 yX1_size, Cond.instanceMethod yX1_size]
def wsL_state_r4 : List Cond := [Cond.selects RX1 yX1_size yX1_size, Cond.initialized RX1, Cond.code yX1_size cX1_size 1 (some .int), Cond.fieldLink RX1 27 "BoardNotation$Kinds" "size" "I", Cond.methodLink RX5 157 yX3_size, Cond.instanceMethod yX3_size, Cond.selects RX3 yX3_size yX3_size, Cond.initialized RX3, Cond.code yX3_size cX3_size 1 (some .int), Cond.fieldLink RX3 15 "BoardNotation$Text" "size" "I"]
def wsL_state : List Cond := .codeWith yL_state cL_state 4 (some .int) [(0, 9, 12, 21)] :: ((wsL_state_r1 ++ (wsL_state_r2 ++ (wsL_state_r3 ++ wsL_state_r4))) ++ wsX50 ++ wsX40 ++ wsX00 ++ wsX10 ++ wsX30 ++ (vx_atS RX5 114 "java/lang/IndexOutOfBoundsException" ["java/lang/RuntimeException", "java/lang/Exception"]).filter goodWord)
def wsL_reason_r1 : List Cond := [Cond.classLink RL 21 "java/lang/IndexOutOfBoundsException", Cond.methodLink RL 33 yX5_reason, Cond.instanceMethod yX5_reason, Cond.selects RX5 yX5_reason yX5_reason, Cond.initialized RX5, Cond.code yX5_reason cX5_reason 3 (some .int), Cond.classLink RX5 110 "java/lang/IndexOutOfBoundsException", Cond.initialized "java/lang/IndexOutOfBoundsException", Cond.methodLink RX5 130 yX5_isSquare, Cond.static yX5_isSquare, Cond.code yX5_isSquare cX5_isSquare 1 (some .boolean), Cond.methodLink RX5 160 yX5_reasonAgainst, Cond.instanceMethod yX5_reasonAgainst, Cond.selects RX5 yX5_reasonAgainst yX5_reasonAgainst, Cond.code yX5_reasonAgainst cX5_reasonAgainst 3 (some .int), Cond.fieldLink RX5 21 "BoardNotation" "board" "LBoardNotation$Board;", Cond.methodLink RX5 148 yX5_turn, Cond.instanceMethod yX5_turn, Cond.selects RX5 yX5_turn yX5_turn, Cond.code yX5_turn cX5_turn 1 (some .int), Cond.fieldLink RX5 28 "BoardNotation" "tree" "LBoardNotation$Tree;", Cond.fieldLink RX5 56 "BoardNotation" "present" "I", Cond.methodLink RX5 276 yX4_depth, Cond.instanceMethod yX4_depth]
def wsL_reason_r2 : List Cond := [Cond.selects RX4 yX4_depth yX4_depth, Cond.initialized RX4, Cond.code yX4_depth cX4_depth 2 (some .int), Cond.fieldLink RX4 24 "BoardNotation$Tree" "depth" "[I", Cond.methodLink RX4 44 yX4_has, Cond.instanceMethod yX4_has, Cond.selects RX4 yX4_has yX4_has, Cond.code yX4_has cX4_has 2 (some .boolean), Cond.fieldLink RX4 36 "BoardNotation$Tree" "size" "I", Cond.methodLink RX5 279 yX0_isOf, Cond.instanceMethod yX0_isOf, Cond.selects RX0 yX0_isOf yX0_isOf, Cond.initialized RX0, Cond.code yX0_isOf cX0_isOf 3 (some .boolean), Cond.methodLink RX0 33 yX0_isTaken, Cond.instanceMethod yX0_isTaken, Cond.selects RX0 yX0_isTaken yX0_isTaken, Cond.code yX0_isTaken cX0_isTaken 2 (some .boolean), Cond.methodLink RX0 29 yX0_pieceOn, Cond.instanceMethod yX0_pieceOn, Cond.selects RX0 yX0_pieceOn yX0_pieceOn, Cond.code yX0_pieceOn cX0_pieceOn 2 (some .int), Cond.fieldLink RX0 9 "BoardNotation$Board" "pieces" "[I", Cond.methodLink RX5 282 yX0_reaches]
def wsL_reason_r3 : List Cond := [Cond.instanceMethod yX0_reaches, Cond.selects RX0 yX0_reaches yX0_reaches, Cond.code yX0_reaches cX0_reaches 3 (some .boolean), Cond.methodLink RX0 36 yX0_reachedFrom, Cond.instanceMethod yX0_reachedFrom, Cond.selects RX0 yX0_reachedFrom yX0_reachedFrom, Cond.code yX0_reachedFrom cX0_reachedFrom 16 (some .long), Cond.fieldLink RX0 15 "BoardNotation$Board" "kinds" "LBoardNotation$Kinds;", Cond.methodLink RX5 285 yX0_keepsRoyalsSafe, Cond.instanceMethod yX0_keepsRoyalsSafe, Cond.selects RX0 yX0_keepsRoyalsSafe yX0_keepsRoyalsSafe, Cond.code yX0_keepsRoyalsSafe cX0_keepsRoyalsSafe 6 (some .boolean), Cond.methodLink RX0 61 yX0_move, Cond.instanceMethod yX0_move, Cond.selects RX0 yX0_move yX0_move, Cond.code yX0_move cX0_move 4 (some .int), Cond.methodLink RX0 65 yX0_inCheck, Cond.instanceMethod yX0_inCheck, Cond.selects RX0 yX0_inCheck yX0_inCheck, Cond.code yX0_inCheck cX0_inCheck 6 (some .boolean), Cond.methodLink RX0 58 yX0_royalsOf, Cond.instanceMethod yX0_royalsOf, Cond.selects RX0 yX0_royalsOf yX0_royalsOf, Cond.code yX0_royalsOf cX0_royalsOf 5 (some .long)]
def wsL_reason_r4 : List Cond := [Cond.methodLink RX0 68 yX0_takeBack, Cond.instanceMethod yX0_takeBack, Cond.selects RX0 yX0_takeBack yX0_takeBack, Cond.code yX0_takeBack cX0_takeBack 4 none]
def wsL_reason : List Cond := .codeWith yL_reason cL_reason 5 (some .int) [(0, 10, 13, 21)] :: ((wsL_reason_r1 ++ (wsL_reason_r2 ++ (wsL_reason_r3 ++ wsL_reason_r4))) ++ wsX50 ++ wsX40 ++ wsX00 ++ wsX10 ++ (vx_atS RX5 114 "java/lang/IndexOutOfBoundsException" ["java/lang/RuntimeException", "java/lang/Exception"]).filter goodWord)
def wsL_play_r1 : List Cond := [Cond.classLink RL 21 "java/lang/IndexOutOfBoundsException", Cond.classLink RL 15 "java/lang/IllegalStateException", Cond.methodLink RL 37 yX5_play, Cond.instanceMethod yX5_play, Cond.selects RX5 yX5_play yX5_play, Cond.initialized RX5, Cond.code yX5_play cX5_play 3 (some .int), Cond.classLink RX5 110 "java/lang/IndexOutOfBoundsException", Cond.initialized "java/lang/IndexOutOfBoundsException", Cond.classLink RX5 98 "java/lang/IllegalStateException", Cond.initialized "java/lang/IllegalStateException", Cond.fieldLink RX5 56 "BoardNotation" "present" "I", Cond.methodLink RX5 130 yX5_isSquare, Cond.static yX5_isSquare, Cond.code yX5_isSquare cX5_isSquare 1 (some .boolean), Cond.methodLink RX5 160 yX5_reasonAgainst, Cond.instanceMethod yX5_reasonAgainst, Cond.selects RX5 yX5_reasonAgainst yX5_reasonAgainst, Cond.code yX5_reasonAgainst cX5_reasonAgainst 3 (some .int), Cond.fieldLink RX5 21 "BoardNotation" "board" "LBoardNotation$Board;", Cond.methodLink RX5 148 yX5_turn, Cond.instanceMethod yX5_turn, Cond.selects RX5 yX5_turn yX5_turn, Cond.code yX5_turn cX5_turn 1 (some .int)]
def wsL_play_r2 : List Cond := [Cond.fieldLink RX5 28 "BoardNotation" "tree" "LBoardNotation$Tree;", Cond.methodLink RX5 276 yX4_depth, Cond.instanceMethod yX4_depth, Cond.selects RX4 yX4_depth yX4_depth, Cond.initialized RX4, Cond.code yX4_depth cX4_depth 2 (some .int), Cond.fieldLink RX4 24 "BoardNotation$Tree" "depth" "[I", Cond.methodLink RX4 44 yX4_has, Cond.instanceMethod yX4_has, Cond.selects RX4 yX4_has yX4_has, Cond.code yX4_has cX4_has 2 (some .boolean), Cond.fieldLink RX4 36 "BoardNotation$Tree" "size" "I", Cond.methodLink RX5 279 yX0_isOf, Cond.instanceMethod yX0_isOf, Cond.selects RX0 yX0_isOf yX0_isOf, Cond.initialized RX0, Cond.code yX0_isOf cX0_isOf 3 (some .boolean), Cond.methodLink RX0 33 yX0_isTaken, Cond.instanceMethod yX0_isTaken, Cond.selects RX0 yX0_isTaken yX0_isTaken, Cond.code yX0_isTaken cX0_isTaken 2 (some .boolean), Cond.methodLink RX0 29 yX0_pieceOn, Cond.instanceMethod yX0_pieceOn, Cond.selects RX0 yX0_pieceOn yX0_pieceOn]
def wsL_play_r3 : List Cond := [Cond.code yX0_pieceOn cX0_pieceOn 2 (some .int), Cond.fieldLink RX0 9 "BoardNotation$Board" "pieces" "[I", Cond.methodLink RX5 282 yX0_reaches, Cond.instanceMethod yX0_reaches, Cond.selects RX0 yX0_reaches yX0_reaches, Cond.code yX0_reaches cX0_reaches 3 (some .boolean), Cond.methodLink RX0 36 yX0_reachedFrom, Cond.instanceMethod yX0_reachedFrom, Cond.selects RX0 yX0_reachedFrom yX0_reachedFrom, Cond.code yX0_reachedFrom cX0_reachedFrom 16 (some .long), Cond.fieldLink RX0 15 "BoardNotation$Board" "kinds" "LBoardNotation$Kinds;", Cond.methodLink RX5 285 yX0_keepsRoyalsSafe, Cond.instanceMethod yX0_keepsRoyalsSafe, Cond.selects RX0 yX0_keepsRoyalsSafe yX0_keepsRoyalsSafe, Cond.code yX0_keepsRoyalsSafe cX0_keepsRoyalsSafe 6 (some .boolean), Cond.methodLink RX0 61 yX0_move, Cond.instanceMethod yX0_move, Cond.selects RX0 yX0_move yX0_move, Cond.code yX0_move cX0_move 4 (some .int), Cond.methodLink RX0 65 yX0_inCheck, Cond.instanceMethod yX0_inCheck, Cond.selects RX0 yX0_inCheck yX0_inCheck, Cond.code yX0_inCheck cX0_inCheck 6 (some .boolean), Cond.methodLink RX0 58 yX0_royalsOf]
def wsL_play_r4 : List Cond := [Cond.instanceMethod yX0_royalsOf, Cond.selects RX0 yX0_royalsOf yX0_royalsOf, Cond.code yX0_royalsOf cX0_royalsOf 5 (some .long), Cond.methodLink RX0 68 yX0_takeBack, Cond.instanceMethod yX0_takeBack, Cond.selects RX0 yX0_takeBack yX0_takeBack, Cond.code yX0_takeBack cX0_takeBack 4 none, Cond.methodLink RX5 165 yX5_follow, Cond.instanceMethod yX5_follow, Cond.selects RX5 yX5_follow yX5_follow, Cond.code yX5_follow cX5_follow 4 (some .boolean), Cond.methodLink RX5 319 yX4_childOfMove, Cond.instanceMethod yX4_childOfMove, Cond.selects RX4 yX4_childOfMove yX4_childOfMove, Cond.code yX4_childOfMove cX4_childOfMove 6 (some .int), Cond.fieldLink RX4 15 "BoardNotation$Tree" "from" "[I", Cond.fieldLink RX4 18 "BoardNotation$Tree" "to" "[I", Cond.fieldLink RX4 33 "BoardNotation$Tree" "nextBeside" "[I", Cond.methodLink RX4 59 yX4_child, Cond.instanceMethod yX4_child, Cond.selects RX4 yX4_child yX4_child, Cond.code yX4_child cX4_child 5 (some .int), Cond.fieldLink RX4 27 "BoardNotation$Tree" "childCount" "[I", Cond.fieldLink RX4 30 "BoardNotation$Tree" "firstChild" "[I"]
def wsL_play_r5 : List Cond := [Cond.methodLink RX4 57 yX4_childCount, Cond.instanceMethod yX4_childCount, Cond.selects RX4 yX4_childCount yX4_childCount, Cond.code yX4_childCount cX4_childCount 2 (some .int), Cond.methodLink RX5 97 yX4_size, Cond.instanceMethod yX4_size, Cond.selects RX4 yX4_size yX4_size, Cond.code yX4_size cX4_size 1 (some .int), Cond.methodLink RX5 323 yX4_grow, Cond.instanceMethod yX4_grow, Cond.selects RX4 yX4_grow yX4_grow, Cond.code yX4_grow cX4_grow 6 (some .int), Cond.methodLink RX4 40 yX4_occupy, Cond.instanceMethod yX4_occupy, Cond.selects RX4 yX4_occupy yX4_occupy, Cond.code yX4_occupy cX4_occupy 5 (some .int), Cond.fieldLink RX4 9 "BoardNotation$Tree" "above" "[I", Cond.fieldLink RX4 21 "BoardNotation$Tree" "taken" "[I", Cond.methodLink RX5 313 yX5_stepDown, Cond.instanceMethod yX5_stepDown, Cond.selects RX5 yX5_stepDown yX5_stepDown, Cond.code yX5_stepDown cX5_stepDown 2 none, Cond.methodLink RX5 237 yX4_from, Cond.instanceMethod yX4_from]
def wsL_play_r6 : List Cond := [Cond.selects RX4 yX4_from yX4_from, Cond.code yX4_from cX4_from 2 (some .int), Cond.methodLink RX5 240 yX4_to, Cond.instanceMethod yX4_to, Cond.selects RX4 yX4_to yX4_to, Cond.code yX4_to cX4_to 2 (some .int), Cond.methodLink RX5 288 yX0_move, Cond.methodLink RX5 291 yX4_keepTaken, Cond.instanceMethod yX4_keepTaken, Cond.selects RX4 yX4_keepTaken yX4_keepTaken, Cond.code yX4_keepTaken cX4_keepTaken 3 none]
def wsL_play : List Cond := .codeWith yL_play cL_play 5 (some .int) [(0, 10, 13, 21), (0, 10, 17, 15)] :: ((wsL_play_r1 ++ (wsL_play_r2 ++ (wsL_play_r3 ++ (wsL_play_r4 ++ (wsL_play_r5 ++ wsL_play_r6))))) ++ wsX50 ++ wsX40 ++ wsX00 ++ wsX10 ++ (vx_atS RX5 114 "java/lang/IndexOutOfBoundsException" ["java/lang/RuntimeException", "java/lang/Exception"]).filter goodWord ++ (vx_atS RX5 102 "java/lang/IllegalStateException" ["java/lang/RuntimeException", "java/lang/Exception"]).filter goodWord)
def wsL_feed_r1 : List Cond := [Cond.classLink RL 13 "java/lang/IllegalArgumentException", Cond.classLink RL 15 "java/lang/IllegalStateException", Cond.methodLink RL 40 yX5_feed, Cond.instanceMethod yX5_feed, Cond.selects RX5 yX5_feed yX5_feed, Cond.initialized RX5, Cond.code yX5_feed cX5_feed 6 (some .int), Cond.classLink RX5 86 "java/lang/IllegalArgumentException", Cond.initialized "java/lang/IllegalArgumentException", Cond.classLink RX5 98 "java/lang/IllegalStateException", Cond.initialized "java/lang/IllegalStateException", Cond.fieldLink RX5 49 "BoardNotation" "tape" "LBoardNotation$Text;", Cond.methodLink RX5 170 yX5_isByteOrNothing, Cond.static yX5_isByteOrNothing, Cond.code yX5_isByteOrNothing cX5_isByteOrNothing 1 (some .boolean), Cond.methodLink RX5 175 yX5_countByte, Cond.static yX5_countByte, Cond.code yX5_countByte cX5_countByte 1 (some .int), Cond.methodLink RX5 157 yX3_size, Cond.instanceMethod yX3_size, Cond.selects RX3 yX3_size yX3_size, Cond.initialized RX3, Cond.code yX3_size cX3_size 1 (some .int), Cond.fieldLink RX3 15 "BoardNotation$Text" "size" "I"]
def wsL_feed_r2 : List Cond := [Cond.methodLink RX5 180 yX3_append, Cond.instanceMethod yX3_append, Cond.selects RX3 yX3_append yX3_append, Cond.code yX3_append cX3_append 2 none, Cond.fieldLink RX3 9 "BoardNotation$Text" "bytes" "[I", Cond.fieldLink RX3 19 "BoardNotation$Text" "spilled" "Z", Cond.methodLink RX5 184 yX5_appendUnlessNothing, Cond.instanceMethod yX5_appendUnlessNothing, Cond.selects RX5 yX5_appendUnlessNothing yX5_appendUnlessNothing, Cond.code yX5_appendUnlessNothing cX5_appendUnlessNothing 2 none]
def wsL_feed : List Cond := .codeWith yL_feed cL_feed 7 (some .int) [(0, 14, 17, 13), (0, 14, 21, 15)] :: ((wsL_feed_r1 ++ wsL_feed_r2) ++ wsX50 ++ wsX30 ++ (vx_atS RX5 90 "java/lang/IllegalArgumentException" ["java/lang/RuntimeException", "java/lang/Exception"]).filter goodWord ++ (vx_atS RX5 102 "java/lang/IllegalStateException" ["java/lang/RuntimeException", "java/lang/Exception"]).filter goodWord)
def wsL_found : List Cond := .codeWith yL_found cL_found 4 (some .int) [(0, 9, 12, 21)] :: ([.classLink RL 21 "java/lang/IndexOutOfBoundsException", .methodLink RL 43 yX5_found, .instanceMethod yX5_found, .selects RX5 yX5_found yX5_found, .initialized RX5, .code yX5_found cX5_found 2 (some .int), .classLink RX5 110 "java/lang/IndexOutOfBoundsException", .initialized "java/lang/IndexOutOfBoundsException", .fieldLink RX5 73 "BoardNotation" "errorPlace" "I", .fieldLink RX5 76 "BoardNotation" "foundFrom" "I", .fieldLink RX5 79 "BoardNotation" "foundTo" "I"] ++ wsX50 ++ (vx_atS RX5 114 "java/lang/IndexOutOfBoundsException" ["java/lang/RuntimeException", "java/lang/Exception"]).filter goodWord)
def wsL_write_r1 : List Cond := [Cond.classLink RL 21 "java/lang/IndexOutOfBoundsException", Cond.classLink RL 15 "java/lang/IllegalStateException", Cond.methodLink RL 46 yX5_write, Cond.instanceMethod yX5_write, Cond.selects RX5 yX5_write yX5_write, Cond.initialized RX5, Cond.code yX5_write cX5_write 3 (some .int), Cond.classLink RX5 110 "java/lang/IndexOutOfBoundsException", Cond.initialized "java/lang/IndexOutOfBoundsException", Cond.classLink RX5 98 "java/lang/IllegalStateException", Cond.initialized "java/lang/IllegalStateException", Cond.fieldLink RX5 49 "BoardNotation" "tape" "LBoardNotation$Text;", Cond.methodLink RX5 130 yX5_isSquare, Cond.static yX5_isSquare, Cond.code yX5_isSquare cX5_isSquare 1 (some .boolean), Cond.methodLink RX5 160 yX5_reasonAgainst, Cond.instanceMethod yX5_reasonAgainst, Cond.selects RX5 yX5_reasonAgainst yX5_reasonAgainst, Cond.code yX5_reasonAgainst cX5_reasonAgainst 3 (some .int), Cond.fieldLink RX5 21 "BoardNotation" "board" "LBoardNotation$Board;", Cond.methodLink RX5 148 yX5_turn, Cond.instanceMethod yX5_turn, Cond.selects RX5 yX5_turn yX5_turn, Cond.code yX5_turn cX5_turn 1 (some .int)]
def wsL_write_r2 : List Cond := [Cond.fieldLink RX5 28 "BoardNotation" "tree" "LBoardNotation$Tree;", Cond.fieldLink RX5 56 "BoardNotation" "present" "I", Cond.methodLink RX5 276 yX4_depth, Cond.instanceMethod yX4_depth, Cond.selects RX4 yX4_depth yX4_depth, Cond.initialized RX4, Cond.code yX4_depth cX4_depth 2 (some .int), Cond.fieldLink RX4 24 "BoardNotation$Tree" "depth" "[I", Cond.methodLink RX4 44 yX4_has, Cond.instanceMethod yX4_has, Cond.selects RX4 yX4_has yX4_has, Cond.code yX4_has cX4_has 2 (some .boolean), Cond.fieldLink RX4 36 "BoardNotation$Tree" "size" "I", Cond.methodLink RX5 279 yX0_isOf, Cond.instanceMethod yX0_isOf, Cond.selects RX0 yX0_isOf yX0_isOf, Cond.initialized RX0, Cond.code yX0_isOf cX0_isOf 3 (some .boolean), Cond.methodLink RX0 33 yX0_isTaken, Cond.instanceMethod yX0_isTaken, Cond.selects RX0 yX0_isTaken yX0_isTaken, Cond.code yX0_isTaken cX0_isTaken 2 (some .boolean), Cond.methodLink RX0 29 yX0_pieceOn, Cond.instanceMethod yX0_pieceOn]
def wsL_write_r3 : List Cond := [Cond.selects RX0 yX0_pieceOn yX0_pieceOn, Cond.code yX0_pieceOn cX0_pieceOn 2 (some .int), Cond.fieldLink RX0 9 "BoardNotation$Board" "pieces" "[I", Cond.methodLink RX5 282 yX0_reaches, Cond.instanceMethod yX0_reaches, Cond.selects RX0 yX0_reaches yX0_reaches, Cond.code yX0_reaches cX0_reaches 3 (some .boolean), Cond.methodLink RX0 36 yX0_reachedFrom, Cond.instanceMethod yX0_reachedFrom, Cond.selects RX0 yX0_reachedFrom yX0_reachedFrom, Cond.code yX0_reachedFrom cX0_reachedFrom 16 (some .long), Cond.fieldLink RX0 15 "BoardNotation$Board" "kinds" "LBoardNotation$Kinds;", Cond.methodLink RX5 285 yX0_keepsRoyalsSafe, Cond.instanceMethod yX0_keepsRoyalsSafe, Cond.selects RX0 yX0_keepsRoyalsSafe yX0_keepsRoyalsSafe, Cond.code yX0_keepsRoyalsSafe cX0_keepsRoyalsSafe 6 (some .boolean), Cond.methodLink RX0 61 yX0_move, Cond.instanceMethod yX0_move, Cond.selects RX0 yX0_move yX0_move, Cond.code yX0_move cX0_move 4 (some .int), Cond.methodLink RX0 65 yX0_inCheck, Cond.instanceMethod yX0_inCheck, Cond.selects RX0 yX0_inCheck yX0_inCheck, Cond.code yX0_inCheck cX0_inCheck 6 (some .boolean)]
def wsL_write_r4 : List Cond := [Cond.methodLink RX0 58 yX0_royalsOf, Cond.instanceMethod yX0_royalsOf, Cond.selects RX0 yX0_royalsOf yX0_royalsOf, Cond.code yX0_royalsOf cX0_royalsOf 5 (some .long), Cond.methodLink RX0 68 yX0_takeBack, Cond.instanceMethod yX0_takeBack, Cond.selects RX0 yX0_takeBack yX0_takeBack, Cond.code yX0_takeBack cX0_takeBack 4 none, Cond.methodLink RX5 187 yX3_wipe, Cond.instanceMethod yX3_wipe, Cond.selects RX3 yX3_wipe yX3_wipe, Cond.initialized RX3, Cond.code yX3_wipe cX3_wipe 1 none, Cond.fieldLink RX3 15 "BoardNotation$Text" "size" "I", Cond.fieldLink RX3 19 "BoardNotation$Text" "spilled" "Z", Cond.methodLink RX5 198 yX5_writeMove, Cond.instanceMethod yX5_writeMove, Cond.selects RX5 yX5_writeMove yX5_writeMove, Cond.code yX5_writeMove cX5_writeMove 6 none, Cond.fieldLink RX5 12 "BoardNotation" "kinds" "LBoardNotation$Kinds;", Cond.methodLink RX5 145 yX0_pieceOn, Cond.methodLink RX5 350 yX1_letter, Cond.instanceMethod yX1_letter, Cond.selects RX1 yX1_letter yX1_letter]
def wsL_write_r5 : List Cond := [Cond.initialized RX1, Cond.code yX1_letter cX1_letter 2 (some .int), Cond.fieldLink RX1 9 "BoardNotation$Kinds" "letters" "[I", Cond.methodLink RX1 31 yX1_has, Cond.instanceMethod yX1_has, Cond.selects RX1 yX1_has yX1_has, Cond.code yX1_has cX1_has 2 (some .boolean), Cond.fieldLink RX1 27 "BoardNotation$Kinds" "size" "I", Cond.methodLink RX5 180 yX3_append, Cond.instanceMethod yX3_append, Cond.selects RX3 yX3_append yX3_append, Cond.code yX3_append cX3_append 2 none, Cond.fieldLink RX3 9 "BoardNotation$Text" "bytes" "[I", Cond.methodLink RX5 352 yX5_writeOrigin, Cond.instanceMethod yX5_writeOrigin, Cond.selects RX5 yX5_writeOrigin yX5_writeOrigin, Cond.code yX5_writeOrigin cX5_writeOrigin 9 none, Cond.methodLink RX5 341 yX0_isTaken, Cond.methodLink RX5 347 yX0_signBehind, Cond.instanceMethod yX0_signBehind, Cond.selects RX0 yX0_signBehind yX0_signBehind, Cond.code yX0_signBehind cX0_signBehind 6 (some .int), Cond.methodLink RX0 76 yX0_countLegalMoves, Cond.instanceMethod yX0_countLegalMoves]
def wsL_write_r6 : List Cond := [Cond.selects RX0 yX0_countLegalMoves yX0_countLegalMoves, Cond.code yX0_countLegalMoves cX0_countLegalMoves 8 (some .int), Cond.methodLink RX0 72 yX0_keepsRoyalsSafe, Cond.methodLink RX5 157 yX3_size, Cond.instanceMethod yX3_size, Cond.selects RX3 yX3_size yX3_size, Cond.code yX3_size cX3_size 1 (some .int)]
def wsL_write : List Cond := .codeWith yL_write cL_write 5 (some .int) [(0, 10, 13, 21), (0, 10, 17, 15)] :: ((wsL_write_r1 ++ (wsL_write_r2 ++ (wsL_write_r3 ++ (wsL_write_r4 ++ (wsL_write_r5 ++ wsL_write_r6))))) ++ wsX50 ++ wsX40 ++ wsX00 ++ wsX10 ++ wsX30 ++ (vx_atS RX5 114 "java/lang/IndexOutOfBoundsException" ["java/lang/RuntimeException", "java/lang/Exception"]).filter goodWord ++ (vx_atS RX5 102 "java/lang/IllegalStateException" ["java/lang/RuntimeException", "java/lang/Exception"]).filter goodWord)
def wsL_byteAt : List Cond := .codeWith yL_byteAt cL_byteAt 4 (some .int) [(0, 9, 12, 21)] :: ([.classLink RL 21 "java/lang/IndexOutOfBoundsException", .methodLink RL 49 yX5_byteAt, .instanceMethod yX5_byteAt, .selects RX5 yX5_byteAt yX5_byteAt, .initialized RX5, .code yX5_byteAt cX5_byteAt 2 (some .int), .classLink RX5 110 "java/lang/IndexOutOfBoundsException", .initialized "java/lang/IndexOutOfBoundsException", .fieldLink RX5 49 "BoardNotation" "tape" "LBoardNotation$Text;", .methodLink RX5 157 yX3_size, .instanceMethod yX3_size, .selects RX3 yX3_size yX3_size, .initialized RX3, .code yX3_size cX3_size 1 (some .int), .fieldLink RX3 15 "BoardNotation$Text" "size" "I", .methodLink RX5 204 yX3_get, .instanceMethod yX3_get, .selects RX3 yX3_get yX3_get, .code yX3_get cX3_get 2 (some .int), .fieldLink RX3 9 "BoardNotation$Text" "bytes" "[I"] ++ wsX50 ++ wsX30 ++ (vx_atS RX5 114 "java/lang/IndexOutOfBoundsException" ["java/lang/RuntimeException", "java/lang/Exception"]).filter goodWord)
def wsL_node_r1 : List Cond := [Cond.classLink RL 21 "java/lang/IndexOutOfBoundsException", Cond.methodLink RL 52 yX5_node, Cond.instanceMethod yX5_node, Cond.selects RX5 yX5_node yX5_node, Cond.initialized RX5, Cond.code yX5_node cX5_node 3 (some .int), Cond.classLink RX5 110 "java/lang/IndexOutOfBoundsException", Cond.initialized "java/lang/IndexOutOfBoundsException", Cond.fieldLink RX5 28 "BoardNotation" "tree" "LBoardNotation$Tree;", Cond.methodLink RX5 207 yX4_has, Cond.instanceMethod yX4_has, Cond.selects RX4 yX4_has yX4_has, Cond.initialized RX4, Cond.code yX4_has cX4_has 2 (some .boolean), Cond.fieldLink RX4 36 "BoardNotation$Tree" "size" "I", Cond.methodLink RX5 210 yX4_fact, Cond.instanceMethod yX4_fact, Cond.selects RX4 yX4_fact yX4_fact, Cond.code yX4_fact cX4_fact 3 (some .int), Cond.methodLink RX4 48 yX4_above, Cond.instanceMethod yX4_above, Cond.selects RX4 yX4_above yX4_above, Cond.code yX4_above cX4_above 2 (some .int), Cond.fieldLink RX4 9 "BoardNotation$Tree" "above" "[I"]
def wsL_node_r2 : List Cond := [Cond.methodLink RX4 44 yX4_has, Cond.methodLink RX4 51 yX4_from, Cond.instanceMethod yX4_from, Cond.selects RX4 yX4_from yX4_from, Cond.code yX4_from cX4_from 2 (some .int), Cond.fieldLink RX4 15 "BoardNotation$Tree" "from" "[I", Cond.methodLink RX4 53 yX4_to, Cond.instanceMethod yX4_to, Cond.selects RX4 yX4_to yX4_to, Cond.code yX4_to cX4_to 2 (some .int), Cond.fieldLink RX4 18 "BoardNotation$Tree" "to" "[I", Cond.methodLink RX4 55 yX4_depth, Cond.instanceMethod yX4_depth, Cond.selects RX4 yX4_depth yX4_depth, Cond.code yX4_depth cX4_depth 2 (some .int), Cond.fieldLink RX4 24 "BoardNotation$Tree" "depth" "[I", Cond.methodLink RX4 57 yX4_childCount, Cond.instanceMethod yX4_childCount, Cond.selects RX4 yX4_childCount yX4_childCount, Cond.code yX4_childCount cX4_childCount 2 (some .int), Cond.fieldLink RX4 27 "BoardNotation$Tree" "childCount" "[I"]
def wsL_node : List Cond := .codeWith yL_node cL_node 5 (some .int) [(0, 10, 13, 21)] :: ((wsL_node_r1 ++ wsL_node_r2) ++ wsX50 ++ wsX40 ++ (vx_atS RX5 114 "java/lang/IndexOutOfBoundsException" ["java/lang/RuntimeException", "java/lang/Exception"]).filter goodWord)
def wsL_continuation_r1 : List Cond := [Cond.classLink RL 21 "java/lang/IndexOutOfBoundsException", Cond.methodLink RL 55 yX5_continuation, Cond.instanceMethod yX5_continuation, Cond.selects RX5 yX5_continuation yX5_continuation, Cond.initialized RX5, Cond.code yX5_continuation cX5_continuation 3 (some .int), Cond.classLink RX5 110 "java/lang/IndexOutOfBoundsException", Cond.initialized "java/lang/IndexOutOfBoundsException", Cond.fieldLink RX5 28 "BoardNotation" "tree" "LBoardNotation$Tree;", Cond.methodLink RX5 207 yX4_has, Cond.instanceMethod yX4_has, Cond.selects RX4 yX4_has yX4_has, Cond.initialized RX4, Cond.code yX4_has cX4_has 2 (some .boolean), Cond.fieldLink RX4 36 "BoardNotation$Tree" "size" "I", Cond.methodLink RX5 213 yX4_childCount, Cond.instanceMethod yX4_childCount, Cond.selects RX4 yX4_childCount yX4_childCount, Cond.code yX4_childCount cX4_childCount 2 (some .int), Cond.fieldLink RX4 27 "BoardNotation$Tree" "childCount" "[I", Cond.methodLink RX4 44 yX4_has, Cond.methodLink RX5 218 yX4_child, Cond.instanceMethod yX4_child, Cond.selects RX4 yX4_child yX4_child]
def wsL_continuation_r2 : List Cond := [Cond.code yX4_child cX4_child 5 (some .int), Cond.fieldLink RX4 30 "BoardNotation$Tree" "firstChild" "[I", Cond.fieldLink RX4 33 "BoardNotation$Tree" "nextBeside" "[I"]
def wsL_continuation : List Cond := .codeWith yL_continuation cL_continuation 5 (some .int) [(0, 10, 13, 21)] :: ((wsL_continuation_r1 ++ wsL_continuation_r2) ++ wsX50 ++ wsX40 ++ (vx_atS RX5 114 "java/lang/IndexOutOfBoundsException" ["java/lang/RuntimeException", "java/lang/Exception"]).filter goodWord)
def wsL_goTo_r1 : List Cond := [Cond.classLink RL 21 "java/lang/IndexOutOfBoundsException", Cond.methodLink RL 58 yX5_goTo, Cond.instanceMethod yX5_goTo, Cond.selects RX5 yX5_goTo yX5_goTo, Cond.initialized RX5, Cond.code yX5_goTo cX5_goTo 2 (some .int), Cond.classLink RX5 110 "java/lang/IndexOutOfBoundsException", Cond.initialized "java/lang/IndexOutOfBoundsException", Cond.fieldLink RX5 28 "BoardNotation" "tree" "LBoardNotation$Tree;", Cond.methodLink RX5 207 yX4_has, Cond.instanceMethod yX4_has, Cond.selects RX4 yX4_has yX4_has, Cond.initialized RX4, Cond.code yX4_has cX4_has 2 (some .boolean), Cond.fieldLink RX4 36 "BoardNotation$Tree" "size" "I", Cond.methodLink RX5 223 yX5_visit, Cond.instanceMethod yX5_visit, Cond.selects RX5 yX5_visit yX5_visit, Cond.code yX5_visit cX5_visit 5 none, Cond.fieldLink RX5 56 "BoardNotation" "present" "I", Cond.fieldLink RX5 39 "BoardNotation" "path" "[I", Cond.methodLink RX5 308 Lib.Math.min.name, Cond.static Lib.Math.min.name, Cond.initialized "java/lang/Math"]
def wsL_goTo_r2 : List Cond := [Cond.code Lib.Math.min.name Lib.Math.min.code 2 (some .int), Cond.methodLink RX5 276 yX4_depth, Cond.instanceMethod yX4_depth, Cond.selects RX4 yX4_depth yX4_depth, Cond.code yX4_depth cX4_depth 2 (some .int), Cond.fieldLink RX4 24 "BoardNotation$Tree" "depth" "[I", Cond.methodLink RX4 44 yX4_has, Cond.methodLink RX5 305 yX5_stepUp, Cond.instanceMethod yX5_stepUp, Cond.selects RX5 yX5_stepUp yX5_stepUp, Cond.code yX5_stepUp cX5_stepUp 1 none, Cond.fieldLink RX5 21 "BoardNotation" "board" "LBoardNotation$Board;", Cond.methodLink RX5 237 yX4_from, Cond.instanceMethod yX4_from, Cond.selects RX4 yX4_from yX4_from, Cond.code yX4_from cX4_from 2 (some .int), Cond.fieldLink RX4 15 "BoardNotation$Tree" "from" "[I", Cond.methodLink RX5 240 yX4_to, Cond.instanceMethod yX4_to, Cond.selects RX4 yX4_to yX4_to, Cond.code yX4_to cX4_to 2 (some .int), Cond.fieldLink RX4 18 "BoardNotation$Tree" "to" "[I", Cond.methodLink RX5 295 yX4_taken, Cond.instanceMethod yX4_taken]
def wsL_goTo_r3 : List Cond := [Cond.selects RX4 yX4_taken yX4_taken, Cond.code yX4_taken cX4_taken 2 (some .int), Cond.fieldLink RX4 21 "BoardNotation$Tree" "taken" "[I", Cond.methodLink RX5 298 yX0_takeBack, Cond.instanceMethod yX0_takeBack, Cond.selects RX0 yX0_takeBack yX0_takeBack, Cond.initialized RX0, Cond.code yX0_takeBack cX0_takeBack 4 none, Cond.fieldLink RX0 9 "BoardNotation$Board" "pieces" "[I", Cond.static yX5_isSquare, Cond.code yX5_isSquare cX5_isSquare 1 (some .boolean), Cond.methodLink RX5 302 yX4_above, Cond.instanceMethod yX4_above, Cond.selects RX4 yX4_above yX4_above, Cond.code yX4_above cX4_above 2 (some .int), Cond.fieldLink RX4 9 "BoardNotation$Tree" "above" "[I", Cond.methodLink RX5 313 yX5_stepDown, Cond.instanceMethod yX5_stepDown, Cond.selects RX5 yX5_stepDown yX5_stepDown, Cond.code yX5_stepDown cX5_stepDown 2 none, Cond.methodLink RX5 288 yX0_move, Cond.instanceMethod yX0_move, Cond.selects RX0 yX0_move yX0_move, Cond.code yX0_move cX0_move 4 (some .int)]
def wsL_goTo_r4 : List Cond := [Cond.methodLink RX5 291 yX4_keepTaken, Cond.instanceMethod yX4_keepTaken, Cond.selects RX4 yX4_keepTaken yX4_keepTaken, Cond.code yX4_keepTaken cX4_keepTaken 3 none, Cond.methodLink RX5 148 yX5_turn, Cond.instanceMethod yX5_turn, Cond.selects RX5 yX5_turn yX5_turn, Cond.code yX5_turn cX5_turn 1 (some .int)]
def wsL_goTo : List Cond := .codeWith yL_goTo cL_goTo 4 (some .int) [(0, 9, 12, 21)] :: ((wsL_goTo_r1 ++ (wsL_goTo_r2 ++ (wsL_goTo_r3 ++ wsL_goTo_r4))) ++ wsX50 ++ wsX40 ++ wsX00 ++ (vx_atS RX5 114 "java/lang/IndexOutOfBoundsException" ["java/lang/RuntimeException", "java/lang/Exception"]).filter goodWord)
def wsL_promote_r1 : List Cond := [Cond.classLink RL 21 "java/lang/IndexOutOfBoundsException", Cond.methodLink RL 61 yX5_promote, Cond.instanceMethod yX5_promote, Cond.selects RX5 yX5_promote yX5_promote, Cond.initialized RX5, Cond.code yX5_promote cX5_promote 2 (some .int), Cond.classLink RX5 110 "java/lang/IndexOutOfBoundsException", Cond.initialized "java/lang/IndexOutOfBoundsException", Cond.fieldLink RX5 28 "BoardNotation" "tree" "LBoardNotation$Tree;", Cond.methodLink RX5 207 yX4_has, Cond.instanceMethod yX4_has, Cond.selects RX4 yX4_has yX4_has, Cond.initialized RX4, Cond.code yX4_has cX4_has 2 (some .boolean), Cond.fieldLink RX4 36 "BoardNotation$Tree" "size" "I", Cond.methodLink RX5 228 yX4_makeMain, Cond.instanceMethod yX4_makeMain, Cond.selects RX4 yX4_makeMain yX4_makeMain, Cond.code yX4_makeMain cX4_makeMain 5 (some .int), Cond.fieldLink RX4 33 "BoardNotation$Tree" "nextBeside" "[I", Cond.fieldLink RX4 30 "BoardNotation$Tree" "firstChild" "[I", Cond.methodLink RX4 63 yX4_placeOf, Cond.instanceMethod yX4_placeOf, Cond.selects RX4 yX4_placeOf yX4_placeOf]
def wsL_promote_r2 : List Cond := [Cond.code yX4_placeOf cX4_placeOf 4 (some .int), Cond.methodLink RX4 48 yX4_above, Cond.instanceMethod yX4_above, Cond.selects RX4 yX4_above yX4_above, Cond.code yX4_above cX4_above 2 (some .int), Cond.fieldLink RX4 9 "BoardNotation$Tree" "above" "[I", Cond.methodLink RX4 44 yX4_has, Cond.methodLink RX4 59 yX4_child, Cond.instanceMethod yX4_child, Cond.selects RX4 yX4_child yX4_child, Cond.code yX4_child cX4_child 5 (some .int), Cond.fieldLink RX4 27 "BoardNotation$Tree" "childCount" "[I", Cond.methodLink RX4 57 yX4_childCount, Cond.instanceMethod yX4_childCount, Cond.selects RX4 yX4_childCount yX4_childCount, Cond.code yX4_childCount cX4_childCount 2 (some .int)]
def wsL_promote : List Cond := .codeWith yL_promote cL_promote 4 (some .int) [(0, 9, 12, 21)] :: ((wsL_promote_r1 ++ wsL_promote_r2) ++ wsX50 ++ wsX40 ++ (vx_atS RX5 114 "java/lang/IndexOutOfBoundsException" ["java/lang/RuntimeException", "java/lang/Exception"]).filter goodWord)
def wsL_writeGame_r1 : List Cond := [Cond.classLink RL 15 "java/lang/IllegalStateException", Cond.methodLink RL 64 yX5_writeGame, Cond.instanceMethod yX5_writeGame, Cond.selects RX5 yX5_writeGame yX5_writeGame, Cond.initialized RX5, Cond.code yX5_writeGame cX5_writeGame 5 (some .int), Cond.classLink RX5 98 "java/lang/IllegalStateException", Cond.initialized "java/lang/IllegalStateException", Cond.fieldLink RX5 56 "BoardNotation" "present" "I", Cond.fieldLink RX5 53 "BoardNotation" "draft" "LBoardNotation$Text;", Cond.fieldLink RX5 28 "BoardNotation" "tree" "LBoardNotation$Tree;", Cond.fieldLink RX5 49 "BoardNotation" "tape" "LBoardNotation$Text;", Cond.methodLink RX5 223 yX5_visit, Cond.instanceMethod yX5_visit, Cond.selects RX5 yX5_visit yX5_visit, Cond.code yX5_visit cX5_visit 5 none, Cond.fieldLink RX5 39 "BoardNotation" "path" "[I", Cond.methodLink RX5 308 Lib.Math.min.name, Cond.static Lib.Math.min.name, Cond.initialized "java/lang/Math", Cond.code Lib.Math.min.name Lib.Math.min.code 2 (some .int), Cond.methodLink RX5 276 yX4_depth, Cond.instanceMethod yX4_depth, Cond.selects RX4 yX4_depth yX4_depth]
def wsL_writeGame_r2 : List Cond := [Cond.initialized RX4, Cond.code yX4_depth cX4_depth 2 (some .int), Cond.fieldLink RX4 24 "BoardNotation$Tree" "depth" "[I", Cond.methodLink RX4 44 yX4_has, Cond.instanceMethod yX4_has, Cond.selects RX4 yX4_has yX4_has, Cond.code yX4_has cX4_has 2 (some .boolean), Cond.fieldLink RX4 36 "BoardNotation$Tree" "size" "I", Cond.methodLink RX5 305 yX5_stepUp, Cond.instanceMethod yX5_stepUp, Cond.selects RX5 yX5_stepUp yX5_stepUp, Cond.code yX5_stepUp cX5_stepUp 1 none, Cond.fieldLink RX5 21 "BoardNotation" "board" "LBoardNotation$Board;", Cond.methodLink RX5 237 yX4_from, Cond.instanceMethod yX4_from, Cond.selects RX4 yX4_from yX4_from, Cond.code yX4_from cX4_from 2 (some .int), Cond.fieldLink RX4 15 "BoardNotation$Tree" "from" "[I", Cond.methodLink RX5 240 yX4_to, Cond.instanceMethod yX4_to, Cond.selects RX4 yX4_to yX4_to, Cond.code yX4_to cX4_to 2 (some .int), Cond.fieldLink RX4 18 "BoardNotation$Tree" "to" "[I", Cond.methodLink RX5 295 yX4_taken]
def wsL_writeGame_r3 : List Cond := [Cond.instanceMethod yX4_taken, Cond.selects RX4 yX4_taken yX4_taken, Cond.code yX4_taken cX4_taken 2 (some .int), Cond.fieldLink RX4 21 "BoardNotation$Tree" "taken" "[I", Cond.methodLink RX5 298 yX0_takeBack, Cond.instanceMethod yX0_takeBack, Cond.selects RX0 yX0_takeBack yX0_takeBack, Cond.initialized RX0, Cond.code yX0_takeBack cX0_takeBack 4 none, Cond.fieldLink RX0 9 "BoardNotation$Board" "pieces" "[I", Cond.static yX5_isSquare, Cond.code yX5_isSquare cX5_isSquare 1 (some .boolean), Cond.methodLink RX5 302 yX4_above, Cond.instanceMethod yX4_above, Cond.selects RX4 yX4_above yX4_above, Cond.code yX4_above cX4_above 2 (some .int), Cond.fieldLink RX4 9 "BoardNotation$Tree" "above" "[I", Cond.methodLink RX5 313 yX5_stepDown, Cond.instanceMethod yX5_stepDown, Cond.selects RX5 yX5_stepDown yX5_stepDown, Cond.code yX5_stepDown cX5_stepDown 2 none, Cond.methodLink RX5 288 yX0_move, Cond.instanceMethod yX0_move, Cond.selects RX0 yX0_move yX0_move]
def wsL_writeGame_r4 : List Cond := [Cond.code yX0_move cX0_move 4 (some .int), Cond.methodLink RX5 291 yX4_keepTaken, Cond.instanceMethod yX4_keepTaken, Cond.selects RX4 yX4_keepTaken yX4_keepTaken, Cond.code yX4_keepTaken cX4_keepTaken 3 none, Cond.methodLink RX5 187 yX3_wipe, Cond.instanceMethod yX3_wipe, Cond.selects RX3 yX3_wipe yX3_wipe, Cond.initialized RX3, Cond.code yX3_wipe cX3_wipe 1 none, Cond.fieldLink RX3 15 "BoardNotation$Text" "size" "I", Cond.fieldLink RX3 19 "BoardNotation$Text" "spilled" "Z", Cond.methodLink RX5 218 yX4_child, Cond.instanceMethod yX4_child, Cond.selects RX4 yX4_child yX4_child, Cond.code yX4_child cX4_child 5 (some .int), Cond.fieldLink RX4 27 "BoardNotation$Tree" "childCount" "[I", Cond.fieldLink RX4 30 "BoardNotation$Tree" "firstChild" "[I", Cond.fieldLink RX4 33 "BoardNotation$Tree" "nextBeside" "[I", Cond.methodLink RX5 231 yX5_writeOpening, Cond.instanceMethod yX5_writeOpening, Cond.selects RX5 yX5_writeOpening yX5_writeOpening, Cond.code yX5_writeOpening cX5_writeOpening 2 none, Cond.methodLink RX5 234 yX3_separate]
def wsL_writeGame_r5 : List Cond := [Cond.instanceMethod yX3_separate, Cond.selects RX3 yX3_separate yX3_separate, Cond.code yX3_separate cX3_separate 1 none, Cond.methodLink RX3 23 yX3_get, Cond.instanceMethod yX3_get, Cond.selects RX3 yX3_get yX3_get, Cond.code yX3_get cX3_get 2 (some .int), Cond.fieldLink RX3 9 "BoardNotation$Text" "bytes" "[I", Cond.methodLink RX3 27 yX3_append, Cond.instanceMethod yX3_append, Cond.selects RX3 yX3_append yX3_append, Cond.code yX3_append cX3_append 2 none, Cond.methodLink RX5 180 yX3_append, Cond.methodLink RX5 198 yX5_writeMove, Cond.instanceMethod yX5_writeMove, Cond.selects RX5 yX5_writeMove yX5_writeMove, Cond.code yX5_writeMove cX5_writeMove 6 none, Cond.fieldLink RX5 12 "BoardNotation" "kinds" "LBoardNotation$Kinds;", Cond.methodLink RX5 145 yX0_pieceOn, Cond.instanceMethod yX0_pieceOn, Cond.selects RX0 yX0_pieceOn yX0_pieceOn, Cond.code yX0_pieceOn cX0_pieceOn 2 (some .int), Cond.methodLink RX5 350 yX1_letter, Cond.instanceMethod yX1_letter]
def wsL_writeGame_r6 : List Cond := [Cond.selects RX1 yX1_letter yX1_letter, Cond.initialized RX1, Cond.code yX1_letter cX1_letter 2 (some .int), Cond.fieldLink RX1 9 "BoardNotation$Kinds" "letters" "[I", Cond.methodLink RX1 31 yX1_has, Cond.instanceMethod yX1_has, Cond.selects RX1 yX1_has yX1_has, Cond.code yX1_has cX1_has 2 (some .boolean), Cond.fieldLink RX1 27 "BoardNotation$Kinds" "size" "I", Cond.methodLink RX5 352 yX5_writeOrigin, Cond.instanceMethod yX5_writeOrigin, Cond.selects RX5 yX5_writeOrigin yX5_writeOrigin, Cond.code yX5_writeOrigin cX5_writeOrigin 9 none, Cond.methodLink RX5 282 yX0_reaches, Cond.instanceMethod yX0_reaches, Cond.selects RX0 yX0_reaches yX0_reaches, Cond.code yX0_reaches cX0_reaches 3 (some .boolean), Cond.methodLink RX0 36 yX0_reachedFrom, Cond.instanceMethod yX0_reachedFrom, Cond.selects RX0 yX0_reachedFrom yX0_reachedFrom, Cond.code yX0_reachedFrom cX0_reachedFrom 16 (some .long), Cond.fieldLink RX0 15 "BoardNotation$Board" "kinds" "LBoardNotation$Kinds;", Cond.methodLink RX5 285 yX0_keepsRoyalsSafe, Cond.instanceMethod yX0_keepsRoyalsSafe]
def wsL_writeGame_r7 : List Cond := [Cond.selects RX0 yX0_keepsRoyalsSafe yX0_keepsRoyalsSafe, Cond.code yX0_keepsRoyalsSafe cX0_keepsRoyalsSafe 6 (some .boolean), Cond.methodLink RX0 29 yX0_pieceOn, Cond.methodLink RX0 61 yX0_move, Cond.methodLink RX0 65 yX0_inCheck, Cond.instanceMethod yX0_inCheck, Cond.selects RX0 yX0_inCheck yX0_inCheck, Cond.code yX0_inCheck cX0_inCheck 6 (some .boolean), Cond.methodLink RX0 58 yX0_royalsOf, Cond.instanceMethod yX0_royalsOf, Cond.selects RX0 yX0_royalsOf yX0_royalsOf, Cond.code yX0_royalsOf cX0_royalsOf 5 (some .long), Cond.methodLink RX0 68 yX0_takeBack, Cond.methodLink RX5 341 yX0_isTaken, Cond.instanceMethod yX0_isTaken, Cond.selects RX0 yX0_isTaken yX0_isTaken, Cond.code yX0_isTaken cX0_isTaken 2 (some .boolean), Cond.methodLink RX5 347 yX0_signBehind, Cond.instanceMethod yX0_signBehind, Cond.selects RX0 yX0_signBehind yX0_signBehind, Cond.code yX0_signBehind cX0_signBehind 6 (some .int), Cond.methodLink RX0 76 yX0_countLegalMoves, Cond.instanceMethod yX0_countLegalMoves, Cond.selects RX0 yX0_countLegalMoves yX0_countLegalMoves]
def wsL_writeGame_r8 : List Cond := [Cond.code yX0_countLegalMoves cX0_countLegalMoves 8 (some .int), Cond.methodLink RX0 72 yX0_keepsRoyalsSafe, Cond.methodLink RX5 243 yX5_goOn, Cond.instanceMethod yX5_goOn, Cond.selects RX5 yX5_goOn yX5_goOn, Cond.code yX5_goOn cX5_goOn 4 (some .int), Cond.methodLink RX5 356 yX5_leaveLine, Cond.instanceMethod yX5_leaveLine, Cond.selects RX5 yX5_leaveLine yX5_leaveLine, Cond.code yX5_leaveLine cX5_leaveLine 3 (some .int), Cond.methodLink RX5 359 yX4_placeOf, Cond.instanceMethod yX4_placeOf, Cond.selects RX4 yX4_placeOf yX4_placeOf, Cond.code yX4_placeOf cX4_placeOf 4 (some .int), Cond.methodLink RX4 48 yX4_above, Cond.methodLink RX4 59 yX4_child, Cond.methodLink RX4 57 yX4_childCount, Cond.instanceMethod yX4_childCount, Cond.selects RX4 yX4_childCount yX4_childCount, Cond.code yX4_childCount cX4_childCount 2 (some .int), Cond.methodLink RX5 246 yX3_hasSpilled, Cond.instanceMethod yX3_hasSpilled, Cond.selects RX3 yX3_hasSpilled yX3_hasSpilled, Cond.code yX3_hasSpilled cX3_hasSpilled 1 (some .boolean)]
def wsL_writeGame_r9 : List Cond := [Cond.methodLink RX5 157 yX3_size, Cond.instanceMethod yX3_size, Cond.selects RX3 yX3_size yX3_size, Cond.code yX3_size cX3_size 1 (some .int)]
def wsL_writeGame : List Cond := .codeWith yL_writeGame cL_writeGame 3 (some .int) [(0, 8, 11, 15)] :: ((wsL_writeGame_r1 ++ (wsL_writeGame_r2 ++ (wsL_writeGame_r3 ++ (wsL_writeGame_r4 ++ (wsL_writeGame_r5 ++ (wsL_writeGame_r6 ++ (wsL_writeGame_r7 ++ (wsL_writeGame_r8 ++ wsL_writeGame_r9)))))))) ++ wsX50 ++ wsX40 ++ wsX00 ++ wsX30 ++ wsX10 ++ (vx_atS RX5 102 "java/lang/IllegalStateException" ["java/lang/RuntimeException", "java/lang/Exception"]).filter goodWord)
def wsL_law0_r1 : List Cond := [Cond.classLink RL 8 RX5, Cond.instantiable RX5 16, Cond.initialized RX5, Cond.classLink RL 69 RX6, Cond.instantiable RX6 26, Cond.initialized RX6, Cond.arrayClass .long, Cond.methodLink RL 68 yX5_init, Cond.instanceMethod yX5_init, Cond.code yX5_init cX5_init 1 none, Cond.methodLink RX5 3 objectInit, Cond.instanceMethod objectInit, Cond.code objectInit ⟨#[0xb1]⟩ 1 none, Cond.classLink RX5 9 RX1, Cond.instantiable RX1 6, Cond.initialized RX1, Cond.fieldLink RX5 12 "BoardNotation" "kinds" "LBoardNotation$Kinds;", Cond.classLink RX5 16 RX0, Cond.instantiable RX0 2, Cond.initialized RX0, Cond.fieldLink RX5 21 "BoardNotation" "board" "LBoardNotation$Board;", Cond.classLink RX5 25 RX4, Cond.instantiable RX4 9, Cond.initialized RX4]
def wsL_law0_r2 : List Cond := [Cond.fieldLink RX5 28 "BoardNotation" "tree" "LBoardNotation$Tree;", Cond.classLink RX5 32 RX2, Cond.instantiable RX2 8, Cond.initialized RX2, Cond.fieldLink RX5 35 "BoardNotation" "form" "LBoardNotation$ShortForm;", Cond.arrayClass .int, Cond.fieldLink RX5 39 "BoardNotation" "path" "[I", Cond.fieldLink RX5 43 "BoardNotation" "bracketNodes" "[I", Cond.classLink RX5 46 RX3, Cond.instantiable RX3 3, Cond.initialized RX3, Cond.fieldLink RX5 49 "BoardNotation" "tape" "LBoardNotation$Text;", Cond.fieldLink RX5 53 "BoardNotation" "draft" "LBoardNotation$Text;", Cond.fieldLink RX5 56 "BoardNotation" "present" "I", Cond.fieldLink RX5 60 "BoardNotation" "openBrackets" "I", Cond.fieldLink RX5 63 "BoardNotation" "moveIsDue" "Z", Cond.fieldLink RX5 67 "BoardNotation" "judgedFrom" "I", Cond.fieldLink RX5 70 "BoardNotation" "judgedTo" "I", Cond.fieldLink RX5 73 "BoardNotation" "errorPlace" "I", Cond.fieldLink RX5 76 "BoardNotation" "foundFrom" "I", Cond.fieldLink RX5 79 "BoardNotation" "foundTo" "I", Cond.instanceMethod yX1_init, Cond.code yX1_init cX1_init 1 none, Cond.methodLink RX1 3 objectInit]
def wsL_law0_r3 : List Cond := [Cond.fieldLink RX1 9 "BoardNotation$Kinds" "letters" "[I", Cond.fieldLink RX1 15 "BoardNotation$Kinds" "stepCounts" "[I", Cond.fieldLink RX1 18 "BoardNotation$Kinds" "stepX" "[I", Cond.fieldLink RX1 21 "BoardNotation$Kinds" "stepY" "[I", Cond.fieldLink RX1 24 "BoardNotation$Kinds" "stepReach" "[I", Cond.fieldLink RX1 27 "BoardNotation$Kinds" "size" "I", Cond.methodLink RX5 18 yX0_init, Cond.instanceMethod yX0_init, Cond.code yX0_init cX0_init 2 none, Cond.methodLink RX0 3 objectInit, Cond.fieldLink RX0 9 "BoardNotation$Board" "pieces" "[I", Cond.fieldLink RX0 15 "BoardNotation$Board" "kinds" "LBoardNotation$Kinds;", Cond.methodLink RX0 19 yJ7_fill_53178, Cond.static yJ7_fill_53178, Cond.initialized RJ7, Cond.code yJ7_fill_53178 cJ7_fill_53178 4 none, Cond.methodLink RX5 27 yX4_init, Cond.instanceMethod yX4_init, Cond.code yX4_init cX4_init 1 none, Cond.methodLink RX4 3 objectInit, Cond.fieldLink RX4 9 "BoardNotation$Tree" "above" "[I", Cond.fieldLink RX4 15 "BoardNotation$Tree" "from" "[I", Cond.fieldLink RX4 18 "BoardNotation$Tree" "to" "[I", Cond.fieldLink RX4 21 "BoardNotation$Tree" "taken" "[I"]
def wsL_law0_r4 : List Cond := [Cond.fieldLink RX4 24 "BoardNotation$Tree" "depth" "[I", Cond.fieldLink RX4 27 "BoardNotation$Tree" "childCount" "[I", Cond.fieldLink RX4 30 "BoardNotation$Tree" "firstChild" "[I", Cond.fieldLink RX4 33 "BoardNotation$Tree" "nextBeside" "[I", Cond.fieldLink RX4 36 "BoardNotation$Tree" "size" "I", Cond.methodLink RX4 40 yX4_occupy, Cond.instanceMethod yX4_occupy, Cond.selects RX4 yX4_occupy yX4_occupy, Cond.code yX4_occupy cX4_occupy 5 (some .int), Cond.instanceMethod yX2_init, Cond.code yX2_init cX2_init 1 none, Cond.methodLink RX2 3 objectInit, Cond.fieldLink RX2 9 "BoardNotation$ShortForm" "misfit" "I", Cond.fieldLink RX2 15 "BoardNotation$ShortForm" "letter" "I", Cond.fieldLink RX2 18 "BoardNotation$ShortForm" "fromFile" "I", Cond.fieldLink RX2 21 "BoardNotation$ShortForm" "fromRank" "I", Cond.fieldLink RX2 24 "BoardNotation$ShortForm" "toFile" "I", Cond.fieldLink RX2 27 "BoardNotation$ShortForm" "toRank" "I", Cond.fieldLink RX2 30 "BoardNotation$ShortForm" "sign" "I", Cond.fieldLink RX2 33 "BoardNotation$ShortForm" "captures" "Z", Cond.instanceMethod yX3_init, Cond.code yX3_init cX3_init 1 none, Cond.methodLink RX3 3 objectInit, Cond.fieldLink RX3 9 "BoardNotation$Text" "bytes" "[I"]
def wsL_law0_r5 : List Cond := [Cond.fieldLink RX3 15 "BoardNotation$Text" "size" "I", Cond.fieldLink RX3 19 "BoardNotation$Text" "spilled" "Z", Cond.methodLink RL 71 yX6_init, Cond.instanceMethod yX6_init, Cond.code yX6_init cX6_init 2 none, Cond.methodLink RX6 1 objectInit, Cond.fieldLink RX6 9 "BoardNotationModel" "letters" "[I", Cond.fieldLink RX6 13 "BoardNotationModel" "manySteps" "[I", Cond.fieldLink RX6 16 "BoardNotationModel" "steps" "[I", Cond.fieldLink RX6 19 "BoardNotationModel" "first" "[I", Cond.fieldLink RX6 22 "BoardNotationModel" "board" "[I", Cond.fieldLink RX6 25 "BoardNotationModel" "trial" "[I", Cond.fieldLink RX6 28 "BoardNotationModel" "nodes" "I", Cond.fieldLink RX6 32 "BoardNotationModel" "table" "[I", Cond.constant RX6 35 (40000), Cond.fieldLink RX6 36 "BoardNotationModel" "continuations" "[I", Cond.fieldLink RX6 39 "BoardNotationModel" "tape" "[I", Cond.fieldLink RX6 42 "BoardNotationModel" "errorAt" "I", Cond.fieldLink RX6 45 "BoardNotationModel" "readFrom" "I", Cond.fieldLink RX6 48 "BoardNotationModel" "readTo" "I", Cond.fieldLink RX6 51 "BoardNotationModel" "way" "[I", Cond.fieldLink RX6 54 "BoardNotationModel" "paper" "[I", Cond.fieldLink RX6 57 "BoardNotationModel" "pile" "[I", Cond.methodLink RX6 60 arraycopyName]
def wsL_law0_r6 : List Cond := [Cond.native arraycopyName, Cond.static arraycopyName, Cond.initialized "java/lang/System", Cond.methodLink RL 72 yL_addKind, Cond.static yL_addKind, Cond.initialized RL, Cond.codeWith yL_addKind cL_addKind 4 (some .int) [(0, 9, 12, 13), (0, 9, 15, 15)], Cond.classLink RL 13 "java/lang/IllegalArgumentException", Cond.classLink RL 15 "java/lang/IllegalStateException", Cond.methodLink RL 7 yX5_addKind, Cond.instanceMethod yX5_addKind, Cond.selects RX5 yX5_addKind yX5_addKind, Cond.code yX5_addKind cX5_addKind 2 (some .int), Cond.classLink RX5 86 "java/lang/IllegalArgumentException", Cond.initialized "java/lang/IllegalArgumentException", Cond.classLink RX5 98 "java/lang/IllegalStateException", Cond.initialized "java/lang/IllegalStateException", Cond.methodLink RX5 82 yX1_withLetter, Cond.instanceMethod yX1_withLetter, Cond.selects RX1 yX1_withLetter yX1_withLetter, Cond.code yX1_withLetter cX1_withLetter 3 (some .int), Cond.methodLink RX5 93 yX1_size, Cond.instanceMethod yX1_size, Cond.selects RX1 yX1_size yX1_size]
def wsL_law0_r7 : List Cond := [Cond.code yX1_size cX1_size 1 (some .int), Cond.methodLink RX5 97 yX4_size, Cond.instanceMethod yX4_size, Cond.selects RX4 yX4_size yX4_size, Cond.code yX4_size cX4_size 1 (some .int), Cond.methodLink RX5 103 yX1_include, Cond.instanceMethod yX1_include, Cond.selects RX1 yX1_include yX1_include, Cond.code yX1_include cX1_include 2 (some .int), Cond.methodLink RL 77 yX6_addKind, Cond.instanceMethod yX6_addKind, Cond.selects RX6 yX6_addKind yX6_addKind, Cond.code yX6_addKind cX6_addKind 2 (some .int), Cond.fieldLink RX6 66 "BoardNotationModel" "thrown" "I", Cond.fieldLink RX6 80 "BoardNotationModel" "kinds" "I", Cond.methodLink RX6 69 yX6_isIn, Cond.static yX6_isIn, Cond.code yX6_isIn cX6_isIn 3 (some .boolean), Cond.methodLink RX6 73 yX6_kindOf, Cond.instanceMethod yX6_kindOf, Cond.selects RX6 yX6_kindOf yX6_kindOf, Cond.code yX6_kindOf cX6_kindOf 3 (some .int), Cond.methodLink RX6 77 yX6_fail, Cond.instanceMethod yX6_fail]
def wsL_law0_r8 : List Cond := [Cond.selects RX6 yX6_fail yX6_fail, Cond.code yX6_fail cX6_fail 2 (some .int), Cond.methodLink RL 78 yX6_thrown, Cond.instanceMethod yX6_thrown, Cond.selects RX6 yX6_thrown yX6_thrown, Cond.code yX6_thrown cX6_thrown 1 (some .int), Cond.methodLink RL 81 yL_addStep, Cond.static yL_addStep, Cond.codeWith yL_addStep cL_addStep 7 (some .int) [(0, 14, 17, 21), (0, 14, 21, 13), (0, 14, 25, 15)], Cond.classLink RL 21 "java/lang/IndexOutOfBoundsException", Cond.methodLink RL 17 yX5_addStep, Cond.instanceMethod yX5_addStep, Cond.selects RX5 yX5_addStep yX5_addStep, Cond.code yX5_addStep cX5_addStep 5 (some .int), Cond.classLink RX5 110 "java/lang/IndexOutOfBoundsException", Cond.initialized "java/lang/IndexOutOfBoundsException", Cond.methodLink RX5 106 yX1_has, Cond.instanceMethod yX1_has, Cond.selects RX1 yX1_has yX1_has, Cond.code yX1_has cX1_has 2 (some .boolean), Cond.methodLink RX5 115 yX5_isStep, Cond.static yX5_isStep, Cond.code yX5_isStep cX5_isStep 2 (some .boolean), Cond.methodLink RX5 121 yX1_stepCount]
def wsL_law0_r9 : List Cond := [Cond.instanceMethod yX1_stepCount, Cond.selects RX1 yX1_stepCount yX1_stepCount, Cond.code yX1_stepCount cX1_stepCount 2 (some .int), Cond.methodLink RX1 31 yX1_has, Cond.methodLink RX5 126 yX1_includeStep, Cond.instanceMethod yX1_includeStep, Cond.selects RX1 yX1_includeStep yX1_includeStep, Cond.code yX1_includeStep cX1_includeStep 6 (some .int), Cond.methodLink RL 84 yX6_addStep, Cond.instanceMethod yX6_addStep, Cond.selects RX6 yX6_addStep yX6_addStep, Cond.code yX6_addStep cX6_addStep 6 (some .int), Cond.methodLink RL 85 yL_put, Cond.static yL_put, Cond.codeWith yL_put cL_put 6 (some .int) [(0, 12, 15, 21), (0, 12, 19, 13), (0, 12, 23, 15)], Cond.methodLink RL 23 yX5_put, Cond.instanceMethod yX5_put, Cond.selects RX5 yX5_put yX5_put, Cond.code yX5_put cX5_put 4 (some .int), Cond.methodLink RX5 130 yX5_isSquare, Cond.static yX5_isSquare, Cond.code yX5_isSquare cX5_isSquare 1 (some .boolean), Cond.methodLink RX5 139 yX0_replace, Cond.instanceMethod yX0_replace]
def wsL_law0_r10 : List Cond := [Cond.selects RX0 yX0_replace yX0_replace, Cond.code yX0_replace cX0_replace 4 (some .int), Cond.methodLink RL 88 yX6_put, Cond.instanceMethod yX6_put, Cond.selects RX6 yX6_put yX6_put, Cond.code yX6_put cX6_put 5 (some .int), Cond.methodLink RX6 83 yX6_isSquare, Cond.static yX6_isSquare, Cond.code yX6_isSquare cX6_isSquare 1 (some .boolean), Cond.methodLink RL 89 yL_at, Cond.static yL_at, Cond.codeWith yL_at cL_at 4 (some .int) [(0, 9, 12, 21)], Cond.methodLink RL 27 yX5_at, Cond.instanceMethod yX5_at, Cond.selects RX5 yX5_at yX5_at, Cond.code yX5_at cX5_at 2 (some .int), Cond.methodLink RX5 145 yX0_pieceOn, Cond.instanceMethod yX0_pieceOn, Cond.selects RX0 yX0_pieceOn yX0_pieceOn, Cond.code yX0_pieceOn cX0_pieceOn 2 (some .int), Cond.methodLink RL 91 yX6_at, Cond.instanceMethod yX6_at, Cond.selects RX6 yX6_at yX6_at, Cond.code yX6_at cX6_at 2 (some .int)]
def wsL_law0_r11 : List Cond := [Cond.methodLink RL 92 yL_state, Cond.static yL_state, Cond.codeWith yL_state cL_state 4 (some .int) [(0, 9, 12, 21)], Cond.methodLink RL 30 yX5_state, Cond.instanceMethod yX5_state, Cond.selects RX5 yX5_state yX5_state, Cond.code yX5_state cX5_state 2 (some .int), Cond.methodLink RX5 148 yX5_turn, Cond.instanceMethod yX5_turn, Cond.selects RX5 yX5_turn yX5_turn, Cond.code yX5_turn cX5_turn 1 (some .int), Cond.methodLink RX5 276 yX4_depth, Cond.instanceMethod yX4_depth, Cond.selects RX4 yX4_depth yX4_depth, Cond.code yX4_depth cX4_depth 2 (some .int), Cond.methodLink RX4 44 yX4_has, Cond.instanceMethod yX4_has, Cond.selects RX4 yX4_has yX4_has, Cond.code yX4_has cX4_has 2 (some .boolean), Cond.methodLink RX5 151 yX0_inCheck, Cond.instanceMethod yX0_inCheck, Cond.selects RX0 yX0_inCheck yX0_inCheck, Cond.code yX0_inCheck cX0_inCheck 6 (some .boolean), Cond.methodLink RX0 58 yX0_royalsOf]
def wsL_law0_r12 : List Cond := [Cond.instanceMethod yX0_royalsOf, Cond.selects RX0 yX0_royalsOf yX0_royalsOf, Cond.code yX0_royalsOf cX0_royalsOf 5 (some .long), Cond.methodLink RX0 36 yX0_reachedFrom, Cond.instanceMethod yX0_reachedFrom, Cond.selects RX0 yX0_reachedFrom yX0_reachedFrom, Cond.code yX0_reachedFrom cX0_reachedFrom 16 (some .long), Cond.methodLink RX5 154 yX0_countLegalMoves, Cond.instanceMethod yX0_countLegalMoves, Cond.selects RX0 yX0_countLegalMoves yX0_countLegalMoves, Cond.code yX0_countLegalMoves cX0_countLegalMoves 8 (some .int), Cond.methodLink RX0 72 yX0_keepsRoyalsSafe, Cond.instanceMethod yX0_keepsRoyalsSafe, Cond.selects RX0 yX0_keepsRoyalsSafe yX0_keepsRoyalsSafe, Cond.code yX0_keepsRoyalsSafe cX0_keepsRoyalsSafe 6 (some .boolean), Cond.methodLink RX0 29 yX0_pieceOn, Cond.methodLink RX0 61 yX0_move, Cond.instanceMethod yX0_move, Cond.selects RX0 yX0_move yX0_move, Cond.code yX0_move cX0_move 4 (some .int), Cond.methodLink RX0 65 yX0_inCheck, Cond.methodLink RX0 68 yX0_takeBack, Cond.instanceMethod yX0_takeBack, Cond.selects RX0 yX0_takeBack yX0_takeBack]
def wsL_law0_r13 : List Cond := [Cond.code yX0_takeBack cX0_takeBack 4 none, Cond.methodLink RX5 157 yX3_size, Cond.instanceMethod yX3_size, Cond.selects RX3 yX3_size yX3_size, Cond.code yX3_size cX3_size 1 (some .int), Cond.methodLink RL 94 yX6_state, Cond.instanceMethod yX6_state, Cond.selects RX6 yX6_state yX6_state, Cond.code yX6_state cX6_state 2 (some .int), Cond.methodLink RX6 130 yX6_stateTold, Cond.instanceMethod yX6_stateTold, Cond.selects RX6 yX6_stateTold yX6_stateTold, Cond.code yX6_stateTold cX6_stateTold 2 (some .int), Cond.fieldLink RX6 95 "BoardNotationModel" "present" "I", Cond.fieldLink RX6 127 "BoardNotationModel" "taped" "I", Cond.methodLink RX6 120 yX6_turn, Cond.instanceMethod yX6_turn, Cond.selects RX6 yX6_turn yX6_turn, Cond.code yX6_turn cX6_turn 1 (some .int), Cond.methodLink RX6 87 yX6_get, Cond.instanceMethod yX6_get, Cond.selects RX6 yX6_get yX6_get, Cond.code yX6_get cX6_get 3 (some .int), Cond.methodLink RX6 112 yX6_isChecked]
def wsL_law0_r14 : List Cond := [Cond.instanceMethod yX6_isChecked, Cond.selects RX6 yX6_isChecked yX6_isChecked, Cond.code yX6_isChecked cX6_isChecked 5 (some .boolean), Cond.methodLink RX6 98 yX6_sideOf, Cond.static yX6_sideOf, Cond.code yX6_sideOf cX6_sideOf 1 (some .int), Cond.methodLink RX6 108 yX6_reaches, Cond.instanceMethod yX6_reaches, Cond.selects RX6 yX6_reaches yX6_reaches, Cond.code yX6_reaches cX6_reaches 9 (some .boolean), Cond.methodLink RX6 101 yX6_reach, Cond.instanceMethod yX6_reach, Cond.selects RX6 yX6_reach yX6_reach, Cond.code yX6_reach cX6_reach 3 (some .int), Cond.methodLink RX6 104 yX6_target, Cond.instanceMethod yX6_target, Cond.selects RX6 yX6_target yX6_target, Cond.code yX6_target cX6_target 8 (some .int), Cond.methodLink RX6 124 yX6_legalMoves, Cond.instanceMethod yX6_legalMoves, Cond.selects RX6 yX6_legalMoves yX6_legalMoves, Cond.code yX6_legalMoves cX6_legalMoves 6 (some .int), Cond.methodLink RX6 116 yX6_isLegal, Cond.instanceMethod yX6_isLegal]
def wsL_law0_r15 : List Cond := [Cond.selects RX6 yX6_isLegal yX6_isLegal, Cond.code yX6_isLegal cX6_isLegal 3 (some .boolean), Cond.methodLink RX6 91 yX6_play, Cond.static yX6_play, Cond.code yX6_play cX6_play 3 none, Cond.methodLink RL 95 yL_reason, Cond.static yL_reason, Cond.codeWith yL_reason cL_reason 5 (some .int) [(0, 10, 13, 21)], Cond.methodLink RL 33 yX5_reason, Cond.instanceMethod yX5_reason, Cond.selects RX5 yX5_reason yX5_reason, Cond.code yX5_reason cX5_reason 3 (some .int), Cond.methodLink RX5 160 yX5_reasonAgainst, Cond.instanceMethod yX5_reasonAgainst, Cond.selects RX5 yX5_reasonAgainst yX5_reasonAgainst, Cond.code yX5_reasonAgainst cX5_reasonAgainst 3 (some .int), Cond.methodLink RX5 279 yX0_isOf, Cond.instanceMethod yX0_isOf, Cond.selects RX0 yX0_isOf yX0_isOf, Cond.code yX0_isOf cX0_isOf 3 (some .boolean), Cond.methodLink RX0 33 yX0_isTaken, Cond.instanceMethod yX0_isTaken, Cond.selects RX0 yX0_isTaken yX0_isTaken, Cond.code yX0_isTaken cX0_isTaken 2 (some .boolean)]
def wsL_law0_r16 : List Cond := [Cond.methodLink RX5 282 yX0_reaches, Cond.instanceMethod yX0_reaches, Cond.selects RX0 yX0_reaches yX0_reaches, Cond.code yX0_reaches cX0_reaches 3 (some .boolean), Cond.methodLink RX5 285 yX0_keepsRoyalsSafe, Cond.methodLink RL 98 yX6_reason, Cond.instanceMethod yX6_reason, Cond.selects RX6 yX6_reason yX6_reason, Cond.code yX6_reason cX6_reason 3 (some .int), Cond.methodLink RX6 133 yX6_why, Cond.instanceMethod yX6_why, Cond.selects RX6 yX6_why yX6_why, Cond.code yX6_why cX6_why 3 (some .int), Cond.methodLink RL 99 yL_play, Cond.static yL_play, Cond.codeWith yL_play cL_play 5 (some .int) [(0, 10, 13, 21), (0, 10, 17, 15)], Cond.methodLink RL 37 yX5_play, Cond.instanceMethod yX5_play, Cond.selects RX5 yX5_play yX5_play, Cond.code yX5_play cX5_play 3 (some .int), Cond.methodLink RX5 165 yX5_follow, Cond.instanceMethod yX5_follow, Cond.selects RX5 yX5_follow yX5_follow, Cond.code yX5_follow cX5_follow 4 (some .boolean)]
def wsL_law0_r17 : List Cond := [Cond.methodLink RX5 319 yX4_childOfMove, Cond.instanceMethod yX4_childOfMove, Cond.selects RX4 yX4_childOfMove yX4_childOfMove, Cond.code yX4_childOfMove cX4_childOfMove 6 (some .int), Cond.methodLink RX4 59 yX4_child, Cond.instanceMethod yX4_child, Cond.selects RX4 yX4_child yX4_child, Cond.code yX4_child cX4_child 5 (some .int), Cond.methodLink RX4 57 yX4_childCount, Cond.instanceMethod yX4_childCount, Cond.selects RX4 yX4_childCount yX4_childCount, Cond.code yX4_childCount cX4_childCount 2 (some .int), Cond.methodLink RX5 323 yX4_grow, Cond.instanceMethod yX4_grow, Cond.selects RX4 yX4_grow yX4_grow, Cond.code yX4_grow cX4_grow 6 (some .int), Cond.methodLink RX5 313 yX5_stepDown, Cond.instanceMethod yX5_stepDown, Cond.selects RX5 yX5_stepDown yX5_stepDown, Cond.code yX5_stepDown cX5_stepDown 2 none, Cond.methodLink RX5 237 yX4_from, Cond.instanceMethod yX4_from, Cond.selects RX4 yX4_from yX4_from, Cond.code yX4_from cX4_from 2 (some .int)]
def wsL_law0_r18 : List Cond := [Cond.methodLink RX5 240 yX4_to, Cond.instanceMethod yX4_to, Cond.selects RX4 yX4_to yX4_to, Cond.code yX4_to cX4_to 2 (some .int), Cond.methodLink RX5 288 yX0_move, Cond.methodLink RX5 291 yX4_keepTaken, Cond.instanceMethod yX4_keepTaken, Cond.selects RX4 yX4_keepTaken yX4_keepTaken, Cond.code yX4_keepTaken cX4_keepTaken 3 none, Cond.methodLink RL 101 yX6_play_, Cond.instanceMethod yX6_play_, Cond.selects RX6 yX6_play_ yX6_play_, Cond.code yX6_play_ cX6_play_ 3 (some .int), Cond.methodLink RX6 139 yX6_known, Cond.instanceMethod yX6_known, Cond.selects RX6 yX6_known yX6_known, Cond.code yX6_known cX6_known 5 (some .int), Cond.methodLink RX6 136 yX6_continuation0, Cond.instanceMethod yX6_continuation0, Cond.selects RX6 yX6_continuation0 yX6_continuation0, Cond.code yX6_continuation0 cX6_continuation0 3 (some .int), Cond.methodLink RX6 142 yX6_playOn, Cond.instanceMethod yX6_playOn, Cond.selects RX6 yX6_playOn yX6_playOn]
def wsL_law0_r19 : List Cond := [Cond.code yX6_playOn cX6_playOn 5 none, Cond.methodLink RL 102 yL_feed, Cond.static yL_feed, Cond.codeWith yL_feed cL_feed 7 (some .int) [(0, 14, 17, 13), (0, 14, 21, 15)], Cond.methodLink RL 40 yX5_feed, Cond.instanceMethod yX5_feed, Cond.selects RX5 yX5_feed yX5_feed, Cond.code yX5_feed cX5_feed 6 (some .int), Cond.methodLink RX5 170 yX5_isByteOrNothing, Cond.static yX5_isByteOrNothing, Cond.code yX5_isByteOrNothing cX5_isByteOrNothing 1 (some .boolean), Cond.methodLink RX5 175 yX5_countByte, Cond.static yX5_countByte, Cond.code yX5_countByte cX5_countByte 1 (some .int), Cond.methodLink RX5 180 yX3_append, Cond.instanceMethod yX3_append, Cond.selects RX3 yX3_append yX3_append, Cond.code yX3_append cX3_append 2 none, Cond.methodLink RX5 184 yX5_appendUnlessNothing, Cond.instanceMethod yX5_appendUnlessNothing, Cond.selects RX5 yX5_appendUnlessNothing yX5_appendUnlessNothing, Cond.code yX5_appendUnlessNothing cX5_appendUnlessNothing 2 none, Cond.methodLink RL 104 yX6_feed, Cond.instanceMethod yX6_feed]
def wsL_law0_r20 : List Cond := [Cond.selects RX6 yX6_feed yX6_feed, Cond.code yX6_feed cX6_feed 12 (some .int), Cond.methodLink RL 105 yX5_empty, Cond.instanceMethod yX5_empty, Cond.selects RX5 yX5_empty yX5_empty, Cond.code yX5_empty cX5_empty 2 (some .int), Cond.methodLink RX5 187 yX3_wipe, Cond.instanceMethod yX3_wipe, Cond.selects RX3 yX3_wipe yX3_wipe, Cond.code yX3_wipe cX3_wipe 1 none, Cond.methodLink RL 108 yX6_empty, Cond.instanceMethod yX6_empty, Cond.selects RX6 yX6_empty yX6_empty, Cond.code yX6_empty cX6_empty 2 (some .int), Cond.methodLink RL 109 yX5_read, Cond.instanceMethod yX5_read, Cond.selects RX5 yX5_read yX5_read, Cond.code yX5_read cX5_read 2 (some .int), Cond.methodLink RX5 190 yX5_judge, Cond.instanceMethod yX5_judge, Cond.selects RX5 yX5_judge yX5_judge, Cond.code yX5_judge cX5_judge 10 (some .int), Cond.methodLink RX5 326 yX2_fits, Cond.instanceMethod yX2_fits]
def wsL_law0_r21 : List Cond := [Cond.selects RX2 yX2_fits yX2_fits, Cond.code yX2_fits cX2_fits 6 (some .boolean), Cond.methodLink RX2 37 yX2_forget, Cond.instanceMethod yX2_forget, Cond.selects RX2 yX2_forget yX2_forget, Cond.code yX2_forget cX2_forget 1 none, Cond.methodLink RX2 40 yX3_get, Cond.instanceMethod yX3_get, Cond.selects RX3 yX3_get yX3_get, Cond.code yX3_get cX3_get 2 (some .int), Cond.methodLink RX2 46 yX2_stateBehind, Cond.static yX2_stateBehind, Cond.code yX2_stateBehind cX2_stateBehind 2 (some .int), Cond.methodLink RX2 54 yX2_isFile, Cond.static yX2_isFile, Cond.code yX2_isFile cX2_isFile 1 (some .boolean), Cond.methodLink RX2 58 yX2_isRank, Cond.static yX2_isRank, Cond.code yX2_isRank cX2_isRank 1 (some .boolean), Cond.methodLink RX2 64 yX2_stateBehindOrigin, Cond.static yX2_stateBehindOrigin, Cond.code yX2_stateBehindOrigin cX2_stateBehindOrigin 1 (some .int), Cond.methodLink RX2 61 yX2_isSign, Cond.static yX2_isSign]
def wsL_law0_r22 : List Cond := [Cond.code yX2_isSign cX2_isSign 1 (some .boolean), Cond.methodLink RX2 50 yX2_keep, Cond.instanceMethod yX2_keep, Cond.selects RX2 yX2_keep yX2_keep, Cond.code yX2_keep cX2_keep 2 none, Cond.methodLink RX5 330 yX2_letter, Cond.instanceMethod yX2_letter, Cond.selects RX2 yX2_letter yX2_letter, Cond.code yX2_letter cX2_letter 1 (some .int), Cond.methodLink RX5 333 yX2_to, Cond.instanceMethod yX2_to, Cond.selects RX2 yX2_to yX2_to, Cond.code yX2_to cX2_to 1 (some .int), Cond.methodLink RX5 335 yX2_allowsFrom, Cond.instanceMethod yX2_allowsFrom, Cond.selects RX2 yX2_allowsFrom yX2_allowsFrom, Cond.code yX2_allowsFrom cX2_allowsFrom 2 (some .boolean), Cond.methodLink RX5 338 yX2_captures, Cond.instanceMethod yX2_captures, Cond.selects RX2 yX2_captures yX2_captures, Cond.code yX2_captures cX2_captures 1 (some .boolean), Cond.methodLink RX5 341 yX0_isTaken, Cond.methodLink RX5 344 yX2_sign, Cond.instanceMethod yX2_sign]
def wsL_law0_r23 : List Cond := [Cond.selects RX2 yX2_sign yX2_sign, Cond.code yX2_sign cX2_sign 1 (some .int), Cond.methodLink RX5 347 yX0_signBehind, Cond.instanceMethod yX0_signBehind, Cond.selects RX0 yX0_signBehind yX0_signBehind, Cond.code yX0_signBehind cX0_signBehind 6 (some .int), Cond.methodLink RX0 76 yX0_countLegalMoves, Cond.methodLink RX5 193 yX2_misfit, Cond.instanceMethod yX2_misfit, Cond.selects RX2 yX2_misfit yX2_misfit, Cond.code yX2_misfit cX2_misfit 1 (some .int), Cond.methodLink RL 112 yX6_read, Cond.instanceMethod yX6_read, Cond.selects RX6 yX6_read yX6_read, Cond.code yX6_read cX6_read 2 (some .int), Cond.fieldLink RX6 149 "BoardNotationModel" "badAt" "I", Cond.fieldLink RX6 193 "BoardNotationModel" "from" "I", Cond.fieldLink RX6 187 "BoardNotationModel" "to" "I", Cond.methodLink RX6 199 yX6_readMove, Cond.instanceMethod yX6_readMove, Cond.selects RX6 yX6_readMove yX6_readMove, Cond.code yX6_readMove cX6_readMove 10 (some .int), Cond.methodLink RX6 180 yX6_findForm, Cond.instanceMethod yX6_findForm]
def wsL_law0_r24 : List Cond := [Cond.selects RX6 yX6_findForm yX6_findForm, Cond.code yX6_findForm cX6_findForm 6 (some .boolean), Cond.fieldLink RX6 146 "BoardNotationModel" "form" "I", Cond.fieldLink RX6 152 "BoardNotationModel" "FORMS" "[Ljava/lang/String;", Cond.methodLink RX6 169 Lib.Math.max.name, Cond.static Lib.Math.max.name, Cond.initialized "java/lang/Math", Cond.code Lib.Math.max.name Lib.Math.max.code 2 (some .int), Cond.methodLink RX6 156 yJ0_length_8abf5, Cond.instanceMethod yJ0_length_8abf5, Cond.selects RJ0 yJ0_length_8abf5 yJ0_length_8abf5, Cond.initialized RJ0, Cond.code yJ0_length_8abf5 cJ0_length_8abf5 1 (some .int), Cond.fieldLink RJ0 9 "java/lang/String" "value" "[B", Cond.methodLink RJ0 335 yJ0_coder_7d493, Cond.instanceMethod yJ0_coder_7d493, Cond.selects RJ0 yJ0_coder_7d493 yJ0_coder_7d493, Cond.code yJ0_coder_7d493 cJ0_coder_7d493 1 (some .byte), Cond.fieldLink RJ0 38 "java/lang/String" "COMPACT_STRINGS" "Z", Cond.fieldLink RJ0 15 "java/lang/String" "coder" "B", Cond.methodLink RX6 161 yJ0_charAt_5068e, Cond.instanceMethod yJ0_charAt_5068e, Cond.selects RJ0 yJ0_charAt_5068e yJ0_charAt_5068e, Cond.code yJ0_charAt_5068e cJ0_charAt_5068e 2 (some .char)]
def wsL_law0_r25 : List Cond := [Cond.methodLink RJ0 492 yJ0_isLatin1_aae02, Cond.instanceMethod yJ0_isLatin1_aae02, Cond.selects RJ0 yJ0_isLatin1_aae02 yJ0_isLatin1_aae02, Cond.code yJ0_isLatin1_aae02 cJ0_isLatin1_aae02 1 (some .boolean), Cond.methodLink RJ0 495 yJ1_charAt_3b067, Cond.static yJ1_charAt_3b067, Cond.initialized RJ1, Cond.code yJ1_charAt_3b067 cJ1_charAt_3b067 2 (some .char), Cond.methodLink RJ1 9 yJ0_checkIndex_df160, Cond.static yJ0_checkIndex_df160, Cond.code yJ0_checkIndex_df160 cJ0_checkIndex_df160 2 none, Cond.fieldLink RJ0 1053 "jdk/internal/util/Preconditions" "SIOOBE_FORMATTER" "Ljava/util/function/BiFunction;", Cond.methodLink RJ0 1059 yJ3_checkIndex_8e157, Cond.static yJ3_checkIndex_8e157, Cond.initialized RJ3, Cond.code yJ3_checkIndex_8e157 cJ3_checkIndex_8e157 3 (some .int), Cond.methodLink RJ0 498 yJ2_charAt_3b067, Cond.static yJ2_charAt_3b067, Cond.initialized RJ2, Cond.code yJ2_charAt_3b067 cJ2_charAt_3b067 2 (some .char), Cond.methodLink RJ2 67 yJ2_checkIndex_2214a, Cond.static yJ2_checkIndex_2214a, Cond.code yJ2_checkIndex_2214a cJ2_checkIndex_2214a 2 none, Cond.methodLink RJ2 48 yJ2_length_9d52b]
def wsL_law0_r26 : List Cond := [Cond.static yJ2_length_9d52b, Cond.code yJ2_length_9d52b cJ2_length_9d52b 1 (some .int), Cond.methodLink RJ2 414 yJ0_checkIndex_df160, Cond.methodLink RJ2 71 yJ2_getChar_3b067, Cond.static yJ2_getChar_3b067, Cond.code yJ2_getChar_3b067 cJ2_getChar_3b067 2 (some .char), Cond.fieldLink RJ2 44 "java/lang/StringUTF16" "$assertionsDisabled" "Z", Cond.fieldLink RJ2 59 "java/lang/StringUTF16" "HI_BYTE_SHIFT" "I", Cond.fieldLink RJ2 63 "java/lang/StringUTF16" "LO_BYTE_SHIFT" "I", Cond.methodLink RX6 165 yX6_fits, Cond.static yX6_fits, Cond.code yX6_fits cX6_fits 2 (some .boolean), Cond.methodLink RX6 183 yX6_late, Cond.instanceMethod yX6_late, Cond.selects RX6 yX6_late yX6_late, Cond.code yX6_late cX6_late 4 (some .int), Cond.methodLink RX6 177 yJ0_lastIndexOf_0f7a4, Cond.instanceMethod yJ0_lastIndexOf_0f7a4, Cond.selects RJ0 yJ0_lastIndexOf_0f7a4 yJ0_lastIndexOf_0f7a4, Cond.code yJ0_lastIndexOf_0f7a4 cJ0_lastIndexOf_0f7a4 2 (some .int), Cond.methodLink RJ0 505 yJ0_length_8abf5, Cond.methodLink RJ0 641 yJ0_lastIndexOf_7cf53, Cond.instanceMethod yJ0_lastIndexOf_7cf53, Cond.selects RJ0 yJ0_lastIndexOf_7cf53 yJ0_lastIndexOf_7cf53]
def wsL_law0_r27 : List Cond := [Cond.code yJ0_lastIndexOf_7cf53 cJ0_lastIndexOf_7cf53 3 (some .int), Cond.methodLink RJ0 644 yJ1_lastIndexOf_7d655, Cond.static yJ1_lastIndexOf_7d655, Cond.code yJ1_lastIndexOf_7d655 cJ1_lastIndexOf_7d655 4 (some .int), Cond.methodLink RJ1 38 Lib.Math.min.name, Cond.static Lib.Math.min.name, Cond.code Lib.Math.min.name Lib.Math.min.code 2 (some .int), Cond.methodLink RJ1 88 yJ1_canEncode_9a6ad, Cond.static yJ1_canEncode_9a6ad, Cond.code yJ1_canEncode_9a6ad cJ1_canEncode_9a6ad 1 (some .boolean), Cond.methodLink RJ0 646 yJ2_lastIndexOf_7d655, Cond.static yJ2_lastIndexOf_7d655, Cond.code yJ2_lastIndexOf_7d655 cJ2_lastIndexOf_7d655 4 (some .int), Cond.constant RJ2 227 (65536), Cond.methodLink RJ2 183 Lib.Math.min.name, Cond.methodLink RJ2 247 yJ2_lastIndexOfSupplementary_7d655, Cond.static yJ2_lastIndexOfSupplementary_7d655, Cond.code yJ2_lastIndexOfSupplementary_7d655 cJ2_lastIndexOfSupplementary_7d655 6 (some .int), Cond.methodLink RJ2 164 yJ11_isValidCodePoint_9a6ad, Cond.static yJ11_isValidCodePoint_9a6ad, Cond.initialized RJ11, Cond.code yJ11_isValidCodePoint_9a6ad cJ11_isValidCodePoint_9a6ad 2 (some .boolean), Cond.methodLink RJ2 157 yJ11_highSurrogate_5068e, Cond.static yJ11_highSurrogate_5068e]
def wsL_law0_r28 : List Cond := [Cond.code yJ11_highSurrogate_5068e cJ11_highSurrogate_5068e 1 (some .char), Cond.constant RJ11 110 (55232), Cond.methodLink RJ2 161 yJ11_lowSurrogate_5068e, Cond.static yJ11_lowSurrogate_5068e, Cond.code yJ11_lowSurrogate_5068e cJ11_lowSurrogate_5068e 1 (some .char), Cond.constant RJ11 76 (56320), Cond.methodLink RX6 190 yX6_early, Cond.instanceMethod yX6_early, Cond.selects RX6 yX6_early yX6_early, Cond.code yX6_early cX6_early 5 (some .int), Cond.methodLink RX6 174 yJ0_indexOf_0f7a4, Cond.instanceMethod yJ0_indexOf_0f7a4, Cond.selects RJ0 yJ0_indexOf_0f7a4 yJ0_indexOf_0f7a4, Cond.code yJ0_indexOf_0f7a4 cJ0_indexOf_0f7a4 2 (some .int), Cond.methodLink RJ0 633 yJ0_indexOf_7cf53, Cond.instanceMethod yJ0_indexOf_7cf53, Cond.selects RJ0 yJ0_indexOf_7cf53 yJ0_indexOf_7cf53, Cond.code yJ0_indexOf_7cf53 cJ0_indexOf_7cf53 3 (some .int), Cond.methodLink RJ0 637 yJ1_indexOf_4cfef, Cond.static yJ1_indexOf_4cfef, Cond.code yJ1_indexOf_4cfef cJ1_indexOf_4cfef 4 (some .int), Cond.methodLink RJ1 92 Lib.Math.max.name, Cond.methodLink RJ1 95 yJ1_indexOfChar_4cfef, Cond.static yJ1_indexOfChar_4cfef]
def wsL_law0_r29 : List Cond := [Cond.code yJ1_indexOfChar_4cfef cJ1_indexOfChar_4cfef 6 (some .int), Cond.methodLink RJ0 640 yJ2_indexOf_4cfef, Cond.static yJ2_indexOf_4cfef, Cond.code yJ2_indexOf_4cfef cJ2_indexOf_4cfef 4 (some .int), Cond.methodLink RJ2 224 Lib.Math.max.name, Cond.methodLink RJ2 228 yJ2_indexOfChar_4cfef, Cond.static yJ2_indexOfChar_4cfef, Cond.code yJ2_indexOfChar_4cfef cJ2_indexOfChar_4cfef 4 (some .int), Cond.methodLink RJ2 96 yJ2_checkBoundsBeginEnd_d044e, Cond.static yJ2_checkBoundsBeginEnd_d044e, Cond.code yJ2_checkBoundsBeginEnd_d044e cJ2_checkBoundsBeginEnd_d044e 3 none, Cond.methodLink RJ2 241 yJ0_checkBoundsBeginEnd_23922, Cond.static yJ0_checkBoundsBeginEnd_23922, Cond.code yJ0_checkBoundsBeginEnd_23922 cJ0_checkBoundsBeginEnd_23922 3 none, Cond.methodLink RJ0 1062 yJ3_checkFromToIndex_8c36e, Cond.static yJ3_checkFromToIndex_8c36e, Cond.code yJ3_checkFromToIndex_8c36e cJ3_checkFromToIndex_8c36e 4 (some .int), Cond.methodLink RJ2 244 yJ2_indexOfCharUnsafe_4cfef, Cond.static yJ2_indexOfCharUnsafe_4cfef, Cond.code yJ2_indexOfCharUnsafe_4cfef cJ2_indexOfCharUnsafe_4cfef 5 (some .int), Cond.methodLink RJ2 232 yJ2_indexOfSupplementary_4cfef, Cond.static yJ2_indexOfSupplementary_4cfef, Cond.code yJ2_indexOfSupplementary_4cfef cJ2_indexOfSupplementary_4cfef 7 (some .int), Cond.methodLink RX6 196 yX6_sign]
def wsL_law0_r30 : List Cond := [Cond.instanceMethod yX6_sign, Cond.selects RX6 yX6_sign yX6_sign, Cond.code yX6_sign cX6_sign 6 (some .int), Cond.methodLink RL 113 yL_found, Cond.static yL_found, Cond.codeWith yL_found cL_found 4 (some .int) [(0, 9, 12, 21)], Cond.methodLink RL 43 yX5_found, Cond.instanceMethod yX5_found, Cond.selects RX5 yX5_found yX5_found, Cond.code yX5_found cX5_found 2 (some .int), Cond.methodLink RL 115 yX6_found, Cond.instanceMethod yX6_found, Cond.selects RX6 yX6_found yX6_found, Cond.code yX6_found cX6_found 2 (some .int), Cond.methodLink RL 116 yL_write, Cond.static yL_write, Cond.codeWith yL_write cL_write 5 (some .int) [(0, 10, 13, 21), (0, 10, 17, 15)], Cond.methodLink RL 46 yX5_write, Cond.instanceMethod yX5_write, Cond.selects RX5 yX5_write yX5_write, Cond.code yX5_write cX5_write 3 (some .int), Cond.methodLink RX5 198 yX5_writeMove, Cond.instanceMethod yX5_writeMove, Cond.selects RX5 yX5_writeMove yX5_writeMove]
def wsL_law0_r31 : List Cond := [Cond.code yX5_writeMove cX5_writeMove 6 none, Cond.methodLink RX5 350 yX1_letter, Cond.instanceMethod yX1_letter, Cond.selects RX1 yX1_letter yX1_letter, Cond.code yX1_letter cX1_letter 2 (some .int), Cond.methodLink RX5 352 yX5_writeOrigin, Cond.instanceMethod yX5_writeOrigin, Cond.selects RX5 yX5_writeOrigin yX5_writeOrigin, Cond.code yX5_writeOrigin cX5_writeOrigin 9 none, Cond.methodLink RL 118 yX6_write, Cond.instanceMethod yX6_write, Cond.selects RX6 yX6_write yX6_write, Cond.code yX6_write cX6_write 3 (some .int), Cond.fieldLink RX6 206 "BoardNotationModel" "written" "I", Cond.fieldLink RX6 202 "BoardNotationModel" "isTooLong" "Z", Cond.methodLink RX6 213 yX6_putMove, Cond.instanceMethod yX6_putMove, Cond.selects RX6 yX6_putMove yX6_putMove, Cond.code yX6_putMove cX6_putMove 8 none, Cond.methodLink RX6 209 yX6_put_, Cond.instanceMethod yX6_put_, Cond.selects RX6 yX6_put_ yX6_put_, Cond.code yX6_put_ cX6_put_ 2 none, Cond.methodLink RX6 216 yX6_toTape]
def wsL_law0_r32 : List Cond := [Cond.instanceMethod yX6_toTape, Cond.selects RX6 yX6_toTape yX6_toTape, Cond.code yX6_toTape cX6_toTape 1 (some .int), Cond.methodLink RL 119 yL_byteAt, Cond.static yL_byteAt, Cond.codeWith yL_byteAt cL_byteAt 4 (some .int) [(0, 9, 12, 21)], Cond.methodLink RL 49 yX5_byteAt, Cond.instanceMethod yX5_byteAt, Cond.selects RX5 yX5_byteAt yX5_byteAt, Cond.code yX5_byteAt cX5_byteAt 2 (some .int), Cond.methodLink RX5 204 yX3_get, Cond.methodLink RL 121 yX6_byteAt, Cond.instanceMethod yX6_byteAt, Cond.selects RX6 yX6_byteAt yX6_byteAt, Cond.code yX6_byteAt cX6_byteAt 2 (some .int), Cond.methodLink RL 122 yL_node, Cond.static yL_node, Cond.codeWith yL_node cL_node 5 (some .int) [(0, 10, 13, 21)], Cond.methodLink RL 52 yX5_node, Cond.instanceMethod yX5_node, Cond.selects RX5 yX5_node yX5_node, Cond.code yX5_node cX5_node 3 (some .int), Cond.methodLink RX5 207 yX4_has, Cond.methodLink RX5 210 yX4_fact]
def wsL_law0_r33 : List Cond := [Cond.instanceMethod yX4_fact, Cond.selects RX4 yX4_fact yX4_fact, Cond.code yX4_fact cX4_fact 3 (some .int), Cond.methodLink RX4 48 yX4_above, Cond.instanceMethod yX4_above, Cond.selects RX4 yX4_above yX4_above, Cond.code yX4_above cX4_above 2 (some .int), Cond.methodLink RX4 51 yX4_from, Cond.methodLink RX4 53 yX4_to, Cond.methodLink RX4 55 yX4_depth, Cond.methodLink RL 124 yX6_node, Cond.instanceMethod yX6_node, Cond.selects RX6 yX6_node yX6_node, Cond.code yX6_node cX6_node 3 (some .int), Cond.methodLink RX6 219 yX6_isNode, Cond.instanceMethod yX6_isNode, Cond.selects RX6 yX6_isNode yX6_isNode, Cond.code yX6_isNode cX6_isNode 2 (some .boolean), Cond.methodLink RL 125 yL_continuation, Cond.static yL_continuation, Cond.codeWith yL_continuation cL_continuation 5 (some .int) [(0, 10, 13, 21)], Cond.methodLink RL 55 yX5_continuation, Cond.instanceMethod yX5_continuation, Cond.selects RX5 yX5_continuation yX5_continuation]
def wsL_law0_r34 : List Cond := [Cond.code yX5_continuation cX5_continuation 3 (some .int), Cond.methodLink RX5 213 yX4_childCount, Cond.methodLink RX5 218 yX4_child, Cond.methodLink RL 127 yX6_continuation, Cond.instanceMethod yX6_continuation, Cond.selects RX6 yX6_continuation yX6_continuation, Cond.code yX6_continuation cX6_continuation 3 (some .int), Cond.methodLink RL 128 yL_goTo, Cond.static yL_goTo, Cond.codeWith yL_goTo cL_goTo 4 (some .int) [(0, 9, 12, 21)], Cond.methodLink RL 58 yX5_goTo, Cond.instanceMethod yX5_goTo, Cond.selects RX5 yX5_goTo yX5_goTo, Cond.code yX5_goTo cX5_goTo 2 (some .int), Cond.methodLink RX5 223 yX5_visit, Cond.instanceMethod yX5_visit, Cond.selects RX5 yX5_visit yX5_visit, Cond.code yX5_visit cX5_visit 5 none, Cond.methodLink RX5 308 Lib.Math.min.name, Cond.methodLink RX5 305 yX5_stepUp, Cond.instanceMethod yX5_stepUp, Cond.selects RX5 yX5_stepUp yX5_stepUp, Cond.code yX5_stepUp cX5_stepUp 1 none, Cond.methodLink RX5 295 yX4_taken]
def wsL_law0_r35 : List Cond := [Cond.instanceMethod yX4_taken, Cond.selects RX4 yX4_taken yX4_taken, Cond.code yX4_taken cX4_taken 2 (some .int), Cond.methodLink RX5 298 yX0_takeBack, Cond.methodLink RX5 302 yX4_above, Cond.methodLink RL 130 yX6_goTo, Cond.instanceMethod yX6_goTo, Cond.selects RX6 yX6_goTo yX6_goTo, Cond.code yX6_goTo cX6_goTo 2 (some .int), Cond.methodLink RX6 222 yX6_set, Cond.instanceMethod yX6_set, Cond.selects RX6 yX6_set yX6_set, Cond.code yX6_set cX6_set 4 none, Cond.methodLink RL 131 yL_promote, Cond.static yL_promote, Cond.codeWith yL_promote cL_promote 4 (some .int) [(0, 9, 12, 21)], Cond.methodLink RL 61 yX5_promote, Cond.instanceMethod yX5_promote, Cond.selects RX5 yX5_promote yX5_promote, Cond.code yX5_promote cX5_promote 2 (some .int), Cond.methodLink RX5 228 yX4_makeMain, Cond.instanceMethod yX4_makeMain, Cond.selects RX4 yX4_makeMain yX4_makeMain, Cond.code yX4_makeMain cX4_makeMain 5 (some .int)]
def wsL_law0_r36 : List Cond := [Cond.methodLink RX4 63 yX4_placeOf, Cond.instanceMethod yX4_placeOf, Cond.selects RX4 yX4_placeOf yX4_placeOf, Cond.code yX4_placeOf cX4_placeOf 4 (some .int), Cond.methodLink RL 133 yX6_promote, Cond.instanceMethod yX6_promote, Cond.selects RX6 yX6_promote yX6_promote, Cond.code yX6_promote cX6_promote 4 (some .int), Cond.methodLink RL 134 yL_writeGame, Cond.static yL_writeGame, Cond.codeWith yL_writeGame cL_writeGame 3 (some .int) [(0, 8, 11, 15)], Cond.methodLink RL 64 yX5_writeGame, Cond.instanceMethod yX5_writeGame, Cond.selects RX5 yX5_writeGame yX5_writeGame, Cond.code yX5_writeGame cX5_writeGame 5 (some .int), Cond.methodLink RX5 231 yX5_writeOpening, Cond.instanceMethod yX5_writeOpening, Cond.selects RX5 yX5_writeOpening yX5_writeOpening, Cond.code yX5_writeOpening cX5_writeOpening 2 none, Cond.methodLink RX5 234 yX3_separate, Cond.instanceMethod yX3_separate, Cond.selects RX3 yX3_separate yX3_separate, Cond.code yX3_separate cX3_separate 1 none, Cond.methodLink RX3 23 yX3_get]
def wsL_law0_r37 : List Cond := [Cond.methodLink RX3 27 yX3_append, Cond.methodLink RX5 243 yX5_goOn, Cond.instanceMethod yX5_goOn, Cond.selects RX5 yX5_goOn yX5_goOn, Cond.code yX5_goOn cX5_goOn 4 (some .int), Cond.methodLink RX5 356 yX5_leaveLine, Cond.instanceMethod yX5_leaveLine, Cond.selects RX5 yX5_leaveLine yX5_leaveLine, Cond.code yX5_leaveLine cX5_leaveLine 3 (some .int), Cond.methodLink RX5 359 yX4_placeOf, Cond.methodLink RX5 246 yX3_hasSpilled, Cond.instanceMethod yX3_hasSpilled, Cond.selects RX3 yX3_hasSpilled yX3_hasSpilled, Cond.code yX3_hasSpilled cX3_hasSpilled 1 (some .boolean), Cond.methodLink RL 137 yX6_writeGame, Cond.instanceMethod yX6_writeGame, Cond.selects RX6 yX6_writeGame yX6_writeGame, Cond.code yX6_writeGame cX6_writeGame 1 (some .int), Cond.methodLink RX6 231 yX6_putBelow, Cond.instanceMethod yX6_putBelow, Cond.selects RX6 yX6_putBelow yX6_putBelow, Cond.code yX6_putBelow cX6_putBelow 4 none, Cond.methodLink RX6 228 yX6_putNode, Cond.instanceMethod yX6_putNode]
def wsL_law0_r38 : List Cond := [Cond.selects RX6 yX6_putNode yX6_putNode, Cond.code yX6_putNode cX6_putNode 2 none, Cond.methodLink RX6 225 yX6_blank, Cond.instanceMethod yX6_blank, Cond.selects RX6 yX6_blank yX6_blank, Cond.code yX6_blank cX6_blank 1 none, Cond.methodLink RL 138 yX5_readGame, Cond.instanceMethod yX5_readGame, Cond.selects RX5 yX5_readGame yX5_readGame, Cond.code yX5_readGame cX5_readGame 3 (some .int), Cond.methodLink RX5 250 yX5_beginAnew, Cond.instanceMethod yX5_beginAnew, Cond.selects RX5 yX5_beginAnew yX5_beginAnew, Cond.code yX5_beginAnew cX5_beginAnew 1 none, Cond.methodLink RX5 316 yX4_cutToRoot, Cond.instanceMethod yX4_cutToRoot, Cond.selects RX4 yX4_cutToRoot yX4_cutToRoot, Cond.code yX4_cutToRoot cX4_cutToRoot 1 none, Cond.methodLink RX5 253 yX5_openVariation, Cond.instanceMethod yX5_openVariation, Cond.selects RX5 yX5_openVariation yX5_openVariation, Cond.code yX5_openVariation cX5_openVariation 1 (some .int), Cond.methodLink RX5 256 yX5_closeVariation, Cond.instanceMethod yX5_closeVariation]
def wsL_law0_r39 : List Cond := [Cond.selects RX5 yX5_closeVariation yX5_closeVariation, Cond.code yX5_closeVariation cX5_closeVariation 1 (some .int), Cond.methodLink RX5 259 yX3_isWordStart, Cond.instanceMethod yX3_isWordStart, Cond.selects RX3 yX3_isWordStart yX3_isWordStart, Cond.code yX3_isWordStart cX3_isWordStart 2 (some .boolean), Cond.methodLink RX3 31 yX3_isOfWord, Cond.instanceMethod yX3_isOfWord, Cond.selects RX3 yX3_isOfWord yX3_isOfWord, Cond.code yX3_isOfWord cX3_isOfWord 3 (some .boolean), Cond.methodLink RX5 262 yX3_wordEnd, Cond.instanceMethod yX3_wordEnd, Cond.selects RX3 yX3_wordEnd yX3_wordEnd, Cond.code yX3_wordEnd cX3_wordEnd 3 (some .int), Cond.methodLink RL 141 yX6_readGame, Cond.instanceMethod yX6_readGame, Cond.selects RX6 yX6_readGame yX6_readGame, Cond.code yX6_readGame cX6_readGame 6 (some .int), Cond.methodLink RX6 234 yX6_clearNodes, Cond.instanceMethod yX6_clearNodes, Cond.selects RX6 yX6_clearNodes yX6_clearNodes, Cond.code yX6_clearNodes cX6_clearNodes 1 none, Cond.methodLink RX6 237 yX6_stop, Cond.instanceMethod yX6_stop]
def wsL_law0_r40 : List Cond := [Cond.selects RX6 yX6_stop yX6_stop, Cond.code yX6_stop cX6_stop 3 (some .int), Cond.methodLink RX6 240 yX6_isWord, Cond.instanceMethod yX6_isWord, Cond.selects RX6 yX6_isWord yX6_isWord, Cond.code yX6_isWord cX6_isWord 2 (some .boolean), Cond.methodLink RL 142 yX5_clear, Cond.instanceMethod yX5_clear, Cond.selects RX5 yX5_clear yX5_clear, Cond.code yX5_clear cX5_clear 2 (some .int), Cond.methodLink RL 145 yX6_clear, Cond.instanceMethod yX6_clear, Cond.selects RX6 yX6_clear yX6_clear, Cond.code yX6_clear cX6_clear 2 (some .int), Cond.methodLink RL 146 yX5_branching, Cond.instanceMethod yX5_branching, Cond.selects RX5 yX5_branching yX5_branching, Cond.code yX5_branching cX5_branching 3 (some .double), Cond.methodLink RL 150 yX6_branching, Cond.instanceMethod yX6_branching, Cond.selects RX6 yX6_branching yX6_branching, Cond.code yX6_branching cX6_branching 4 (some .double), Cond.methodLink RL 151 yX5_digest, Cond.instanceMethod yX5_digest]
def wsL_law0_r41 : List Cond := [Cond.selects RX5 yX5_digest yX5_digest, Cond.code yX5_digest cX5_digest 4 (some .long), Cond.constantLong RX5 265 (353), Cond.constantLong RX5 267 (31), Cond.methodLink RX5 269 yX5_state, Cond.methodLink RX5 272 yX5_digestNode, Cond.instanceMethod yX5_digestNode, Cond.selects RX5 yX5_digestNode yX5_digestNode, Cond.code yX5_digestNode cX5_digestNode 7 (some .long), Cond.methodLink RL 155 yX6_digest, Cond.instanceMethod yX6_digest, Cond.selects RX6 yX6_digest yX6_digest, Cond.code yX6_digest cX6_digest 5 (some .long), Cond.constantLong RX6 243 (353), Cond.constantLong RX6 245 (31)]
def wsL_law0 : List Cond := (wsL_law0_r1 ++ (wsL_law0_r2 ++ (wsL_law0_r3 ++ (wsL_law0_r4 ++ (wsL_law0_r5 ++ (wsL_law0_r6 ++ (wsL_law0_r7 ++ (wsL_law0_r8 ++ (wsL_law0_r9 ++ (wsL_law0_r10 ++ (wsL_law0_r11 ++ (wsL_law0_r12 ++ (wsL_law0_r13 ++ (wsL_law0_r14 ++ (wsL_law0_r15 ++ (wsL_law0_r16 ++ (wsL_law0_r17 ++ (wsL_law0_r18 ++ (wsL_law0_r19 ++ (wsL_law0_r20 ++ (wsL_law0_r21 ++ (wsL_law0_r22 ++ (wsL_law0_r23 ++ (wsL_law0_r24 ++ (wsL_law0_r25 ++ (wsL_law0_r26 ++ (wsL_law0_r27 ++ (wsL_law0_r28 ++ (wsL_law0_r29 ++ (wsL_law0_r30 ++ (wsL_law0_r31 ++ (wsL_law0_r32 ++ (wsL_law0_r33 ++ (wsL_law0_r34 ++ (wsL_law0_r35 ++ (wsL_law0_r36 ++ (wsL_law0_r37 ++ (wsL_law0_r38 ++ (wsL_law0_r39 ++ (wsL_law0_r40 ++ wsL_law0_r41)))))))))))))))))))))))))))))))))))))))) ++ wsX50 ++ wsX60 ++ wsX10 ++ wsX00 ++ wsX40 ++ wsX20 ++ wsX30 ++ ([] : List Cond)
def wsL_law : List Cond := wsL_law0 ++ (vx_atS RX5 90 "java/lang/IllegalArgumentException" ["java/lang/RuntimeException", "java/lang/Exception"]).filter goodWord ++ (vx_atS RX5 102 "java/lang/IllegalStateException" ["java/lang/RuntimeException", "java/lang/Exception"]).filter goodWord ++ (vx_atS RX5 114 "java/lang/IndexOutOfBoundsException" ["java/lang/RuntimeException", "java/lang/Exception"]).filter goodWord
theorem inJx145de : ∀ w ∈ wsJx145de0, w ∈ lw_tbl := by decide +kernel
theorem inJx9f9b0 : ∀ w ∈ wsJx9f9b00, w ∈ lw_tbl := by decide +kernel
theorem inJ11 : ∀ w ∈ wsJ110, w ∈ lw_tbl := by decide +kernel
theorem inJxb160c : ∀ w ∈ wsJxb160c0, w ∈ lw_tbl := by decide +kernel
theorem inJ9 : ∀ w ∈ wsJ90, w ∈ lw_tbl := by decide +kernel
theorem inJ0 : ∀ w ∈ wsJ00, w ∈ lw_tbl := by decide +kernel
theorem inJ1 : ∀ w ∈ wsJ10, w ∈ lw_tbl := by decide +kernel
theorem inJ2 : ∀ w ∈ wsJ20, w ∈ lw_tbl := by decide +kernel
theorem inJ10 : ∀ w ∈ wsJ100, w ∈ lw_tbl := by decide +kernel
theorem inJxfd54e : ∀ w ∈ wsJxfd54e0, w ∈ lw_tbl := by decide +kernel
theorem inJx3cf43 : ∀ w ∈ wsJx3cf430, w ∈ lw_tbl := by decide +kernel
theorem inJ7 : ∀ w ∈ wsJ70, w ∈ lw_tbl := by decide +kernel
theorem inJ3 : ∀ w ∈ wsJ30, w ∈ lw_tbl := by decide +kernel
set_option maxRecDepth 20000 in
theorem ggX0_init_J7_fill_53178 : GoodIn wsX0_init wsJ7_fill_53178 := goodIn_r _ [10] (by decide +kernel) (by decide +kernel)
set_option maxRecDepth 20000 in
theorem gX0_init_J7_fill_53178 : GoodIn wsX0_init (va_wsS RX0 19 yJ7_fill_53178 wsJ7_fill_53178) := goodIn_app (goodIn_of _ (by decide +kernel)) ggX0_init_J7_fill_53178
theorem dX0_init_0 : decode cX0_init 0 = .ok (.aload_n 0, 1) := by decide +kernel
theorem dX0_init_1 : decode cX0_init 1 = .ok (.invokespecial 3, 3) := by decide +kernel
theorem dX0_init_4 : decode cX0_init 4 = .ok (.aload_n 0, 1) := by decide +kernel
theorem dX0_init_5 : decode cX0_init 5 = .ok (.bipush 64, 2) := by decide +kernel
theorem dX0_init_7 : decode cX0_init 7 = .ok (.newarray .int, 2) := by decide +kernel
theorem dX0_init_9 : decode cX0_init 9 = .ok (.putfield 9, 3) := by decide +kernel
theorem dX0_init_12 : decode cX0_init 12 = .ok (.aload_n 0, 1) := by decide +kernel
theorem dX0_init_13 : decode cX0_init 13 = .ok (.aload_n 1, 1) := by decide +kernel
theorem dX0_init_14 : decode cX0_init 14 = .ok (.putfield 15, 3) := by decide +kernel
theorem dX0_init_17 : decode cX0_init 17 = .ok (.aload_n 0, 1) := by decide +kernel
theorem dX0_init_18 : decode cX0_init 18 = .ok (.getfield 9, 3) := by decide +kernel
theorem dX0_init_21 : decode cX0_init 21 = .ok (.iconst (-1), 1) := by decide +kernel
theorem dX0_init_22 : decode cX0_init 22 = .ok (.invokestatic 19, 3) := by decide +kernel
theorem dX0_init_25 : decode cX0_init 25 = .ok (.return_, 1) := by decide +kernel
set_option maxRecDepth 20000 in
theorem ggX0_pieceOn_X5_isSquare : GoodIn wsX0_pieceOn wsX5_isSquare := goodIn_r _ [4] (by decide +kernel) (by decide +kernel)
set_option maxRecDepth 20000 in
theorem gX0_pieceOn_X5_isSquare_n25 : GoodIn wsX0_pieceOn (wsX5_isSquare) := ggX0_pieceOn_X5_isSquare
theorem dX0_pieceOn_0 : decode cX0_pieceOn 0 = .ok (.iload_n 1, 1) := by decide +kernel
theorem dX0_pieceOn_1 : decode cX0_pieceOn 1 = .ok (.invokestatic 25, 3) := by decide +kernel
theorem dX0_pieceOn_4 : decode cX0_pieceOn 4 = .ok (.ifCond .eq 12, 3) := by decide +kernel
theorem dX0_pieceOn_7 : decode cX0_pieceOn 7 = .ok (.aload_n 0, 1) := by decide +kernel
theorem dX0_pieceOn_8 : decode cX0_pieceOn 8 = .ok (.getfield 9, 3) := by decide +kernel
theorem dX0_pieceOn_11 : decode cX0_pieceOn 11 = .ok (.iload_n 1, 1) := by decide +kernel
theorem dX0_pieceOn_12 : decode cX0_pieceOn 12 = .ok (.iaload, 1) := by decide +kernel
theorem dX0_pieceOn_13 : decode cX0_pieceOn 13 = .ok (.goto 4, 3) := by decide +kernel
theorem dX0_pieceOn_16 : decode cX0_pieceOn 16 = .ok (.iconst (-1), 1) := by decide +kernel
theorem dX0_pieceOn_17 : decode cX0_pieceOn 17 = .ok (.ireturn, 1) := by decide +kernel
set_option maxRecDepth 20000 in
theorem ggX0_isTaken_X0_pieceOn : GoodIn wsX0_isTaken wsX0_pieceOn := goodIn_r _ [5, 6, 7, 8, 9, 10, 11] (by decide +kernel) (by decide +kernel)
set_option maxRecDepth 20000 in
theorem gX0_isTaken_X0_pieceOn : GoodIn wsX0_isTaken (wsV RX0 29 RX0 yX0_pieceOn wsX0_pieceOn) := goodIn_app (goodIn_of _ (by decide +kernel)) ggX0_isTaken_X0_pieceOn
theorem dX0_isTaken_0 : decode cX0_isTaken 0 = .ok (.aload_n 0, 1) := by decide +kernel
theorem dX0_isTaken_1 : decode cX0_isTaken 1 = .ok (.iload_n 1, 1) := by decide +kernel
theorem dX0_isTaken_2 : decode cX0_isTaken 2 = .ok (.invokevirtual 29, 3) := by decide +kernel
theorem dX0_isTaken_5 : decode cX0_isTaken 5 = .ok (.iconst (-1), 1) := by decide +kernel
theorem dX0_isTaken_6 : decode cX0_isTaken 6 = .ok (.if_icmp .eq 7, 3) := by decide +kernel
theorem dX0_isTaken_9 : decode cX0_isTaken 9 = .ok (.iconst 1, 1) := by decide +kernel
theorem dX0_isTaken_10 : decode cX0_isTaken 10 = .ok (.goto 4, 3) := by decide +kernel
theorem dX0_isTaken_13 : decode cX0_isTaken 13 = .ok (.iconst 0, 1) := by decide +kernel
theorem dX0_isTaken_14 : decode cX0_isTaken 14 = .ok (.ireturn, 1) := by decide +kernel
set_option maxRecDepth 20000 in
theorem ggX0_isOf_X0_isTaken : GoodIn wsX0_isOf wsX0_isTaken := goodIn_r _ [5, 6, 7, 8, 4, 9, 10, 11, 12, 13, 14, 15] (by decide +kernel) (by decide +kernel)
set_option maxRecDepth 20000 in
theorem gX0_isOf_X0_isTaken : GoodIn wsX0_isOf (wsV RX0 33 RX0 yX0_isTaken wsX0_isTaken) := goodIn_app (goodIn_of _ (by decide +kernel)) ggX0_isOf_X0_isTaken
set_option maxRecDepth 20000 in
theorem ggX0_isOf_X0_pieceOn : GoodIn wsX0_isOf wsX0_pieceOn := goodIn_r _ [9, 10, 11, 12, 13, 14, 15] (by decide +kernel) (by decide +kernel)
set_option maxRecDepth 20000 in
theorem gX0_isOf_X0_pieceOn : GoodIn wsX0_isOf (wsV RX0 29 RX0 yX0_pieceOn wsX0_pieceOn) := goodIn_app (goodIn_of _ (by decide +kernel)) ggX0_isOf_X0_pieceOn
theorem dX0_isOf_0 : decode cX0_isOf 0 = .ok (.aload_n 0, 1) := by decide +kernel
theorem dX0_isOf_1 : decode cX0_isOf 1 = .ok (.iload_n 1, 1) := by decide +kernel
theorem dX0_isOf_2 : decode cX0_isOf 2 = .ok (.invokevirtual 33, 3) := by decide +kernel
theorem dX0_isOf_5 : decode cX0_isOf 5 = .ok (.ifCond .eq 18, 3) := by decide +kernel
theorem dX0_isOf_8 : decode cX0_isOf 8 = .ok (.aload_n 0, 1) := by decide +kernel
theorem dX0_isOf_9 : decode cX0_isOf 9 = .ok (.iload_n 1, 1) := by decide +kernel
theorem dX0_isOf_10 : decode cX0_isOf 10 = .ok (.invokevirtual 29, 3) := by decide +kernel
theorem dX0_isOf_13 : decode cX0_isOf 13 = .ok (.iconst 2, 1) := by decide +kernel
theorem dX0_isOf_14 : decode cX0_isOf 14 = .ok (.irem, 1) := by decide +kernel
theorem dX0_isOf_15 : decode cX0_isOf 15 = .ok (.iload_n 2, 1) := by decide +kernel
theorem dX0_isOf_16 : decode cX0_isOf 16 = .ok (.if_icmp .ne 7, 3) := by decide +kernel
theorem dX0_isOf_19 : decode cX0_isOf 19 = .ok (.iconst 1, 1) := by decide +kernel
theorem dX0_isOf_20 : decode cX0_isOf 20 = .ok (.goto 4, 3) := by decide +kernel
theorem dX0_isOf_23 : decode cX0_isOf 23 = .ok (.iconst 0, 1) := by decide +kernel
theorem dX0_isOf_24 : decode cX0_isOf 24 = .ok (.ireturn, 1) := by decide +kernel
set_option maxRecDepth 20000 in
theorem ggX0_replace_X5_isSquare : GoodIn wsX0_replace wsX5_isSquare := goodIn_r _ [4] (by decide +kernel) (by decide +kernel)
set_option maxRecDepth 20000 in
theorem gX0_replace_X5_isSquare_n25 : GoodIn wsX0_replace (wsX5_isSquare) := ggX0_replace_X5_isSquare
theorem dX0_replace_0 : decode cX0_replace 0 = .ok (.iload_n 1, 1) := by decide +kernel
theorem dX0_replace_1 : decode cX0_replace 1 = .ok (.invokestatic 25, 3) := by decide +kernel
theorem dX0_replace_4 : decode cX0_replace 4 = .ok (.ifCond .ne 5, 3) := by decide +kernel
theorem dX0_replace_7 : decode cX0_replace 7 = .ok (.iconst (-1), 1) := by decide +kernel
theorem dX0_replace_8 : decode cX0_replace 8 = .ok (.ireturn, 1) := by decide +kernel
theorem dX0_replace_9 : decode cX0_replace 9 = .ok (.aload_n 0, 1) := by decide +kernel
theorem dX0_replace_10 : decode cX0_replace 10 = .ok (.getfield 9, 3) := by decide +kernel
theorem dX0_replace_13 : decode cX0_replace 13 = .ok (.iload_n 1, 1) := by decide +kernel
theorem dX0_replace_14 : decode cX0_replace 14 = .ok (.iaload, 1) := by decide +kernel
theorem dX0_replace_15 : decode cX0_replace 15 = .ok (.istore_n 3, 1) := by decide +kernel
theorem dX0_replace_16 : decode cX0_replace 16 = .ok (.aload_n 0, 1) := by decide +kernel
theorem dX0_replace_17 : decode cX0_replace 17 = .ok (.getfield 9, 3) := by decide +kernel
theorem dX0_replace_20 : decode cX0_replace 20 = .ok (.iload_n 1, 1) := by decide +kernel
theorem dX0_replace_21 : decode cX0_replace 21 = .ok (.iload_n 2, 1) := by decide +kernel
theorem dX0_replace_22 : decode cX0_replace 22 = .ok (.iastore, 1) := by decide +kernel
theorem dX0_replace_23 : decode cX0_replace 23 = .ok (.iload_n 3, 1) := by decide +kernel
theorem dX0_replace_24 : decode cX0_replace 24 = .ok (.ireturn, 1) := by decide +kernel
set_option maxRecDepth 20000 in
theorem ggX0_move_X5_isSquare : GoodIn wsX0_move wsX5_isSquare := goodIn_r _ [4] (by decide +kernel) (by decide +kernel)
set_option maxRecDepth 20000 in
theorem gX0_move_X5_isSquare_n25 : GoodIn wsX0_move (wsX5_isSquare) := ggX0_move_X5_isSquare
theorem dX0_move_0 : decode cX0_move 0 = .ok (.iload_n 1, 1) := by decide +kernel
theorem dX0_move_1 : decode cX0_move 1 = .ok (.invokestatic 25, 3) := by decide +kernel
theorem dX0_move_4 : decode cX0_move 4 = .ok (.ifCond .eq 10, 3) := by decide +kernel
theorem dX0_move_7 : decode cX0_move 7 = .ok (.iload_n 2, 1) := by decide +kernel
theorem dX0_move_8 : decode cX0_move 8 = .ok (.invokestatic 25, 3) := by decide +kernel
theorem dX0_move_11 : decode cX0_move 11 = .ok (.ifCond .ne 5, 3) := by decide +kernel
theorem dX0_move_14 : decode cX0_move 14 = .ok (.iconst (-1), 1) := by decide +kernel
theorem dX0_move_15 : decode cX0_move 15 = .ok (.ireturn, 1) := by decide +kernel
theorem dX0_move_16 : decode cX0_move 16 = .ok (.aload_n 0, 1) := by decide +kernel
theorem dX0_move_17 : decode cX0_move 17 = .ok (.getfield 9, 3) := by decide +kernel
theorem dX0_move_20 : decode cX0_move 20 = .ok (.iload_n 2, 1) := by decide +kernel
theorem dX0_move_21 : decode cX0_move 21 = .ok (.iaload, 1) := by decide +kernel
theorem dX0_move_22 : decode cX0_move 22 = .ok (.istore_n 3, 1) := by decide +kernel
theorem dX0_move_23 : decode cX0_move 23 = .ok (.aload_n 0, 1) := by decide +kernel
theorem dX0_move_24 : decode cX0_move 24 = .ok (.getfield 9, 3) := by decide +kernel
theorem dX0_move_27 : decode cX0_move 27 = .ok (.iload_n 2, 1) := by decide +kernel
theorem dX0_move_28 : decode cX0_move 28 = .ok (.aload_n 0, 1) := by decide +kernel
theorem dX0_move_29 : decode cX0_move 29 = .ok (.getfield 9, 3) := by decide +kernel
theorem dX0_move_32 : decode cX0_move 32 = .ok (.iload_n 1, 1) := by decide +kernel
theorem dX0_move_33 : decode cX0_move 33 = .ok (.iaload, 1) := by decide +kernel
theorem dX0_move_34 : decode cX0_move 34 = .ok (.iastore, 1) := by decide +kernel
theorem dX0_move_35 : decode cX0_move 35 = .ok (.aload_n 0, 1) := by decide +kernel
theorem dX0_move_36 : decode cX0_move 36 = .ok (.getfield 9, 3) := by decide +kernel
theorem dX0_move_39 : decode cX0_move 39 = .ok (.iload_n 1, 1) := by decide +kernel
theorem dX0_move_40 : decode cX0_move 40 = .ok (.iconst (-1), 1) := by decide +kernel
theorem dX0_move_41 : decode cX0_move 41 = .ok (.iastore, 1) := by decide +kernel
theorem dX0_move_42 : decode cX0_move 42 = .ok (.iload_n 3, 1) := by decide +kernel
theorem dX0_move_43 : decode cX0_move 43 = .ok (.ireturn, 1) := by decide +kernel
set_option maxRecDepth 20000 in
theorem ggX0_takeBack_X5_isSquare : GoodIn wsX0_takeBack wsX5_isSquare := goodIn_r _ [4] (by decide +kernel) (by decide +kernel)
set_option maxRecDepth 20000 in
theorem gX0_takeBack_X5_isSquare_n25 : GoodIn wsX0_takeBack (wsX5_isSquare) := ggX0_takeBack_X5_isSquare
theorem dX0_takeBack_0 : decode cX0_takeBack 0 = .ok (.iload_n 1, 1) := by decide +kernel
theorem dX0_takeBack_1 : decode cX0_takeBack 1 = .ok (.invokestatic 25, 3) := by decide +kernel
theorem dX0_takeBack_4 : decode cX0_takeBack 4 = .ok (.ifCond .eq 29, 3) := by decide +kernel
theorem dX0_takeBack_7 : decode cX0_takeBack 7 = .ok (.iload_n 2, 1) := by decide +kernel
theorem dX0_takeBack_8 : decode cX0_takeBack 8 = .ok (.invokestatic 25, 3) := by decide +kernel
theorem dX0_takeBack_11 : decode cX0_takeBack 11 = .ok (.ifCond .eq 22, 3) := by decide +kernel
theorem dX0_takeBack_14 : decode cX0_takeBack 14 = .ok (.aload_n 0, 1) := by decide +kernel
theorem dX0_takeBack_15 : decode cX0_takeBack 15 = .ok (.getfield 9, 3) := by decide +kernel
theorem dX0_takeBack_18 : decode cX0_takeBack 18 = .ok (.iload_n 1, 1) := by decide +kernel
theorem dX0_takeBack_19 : decode cX0_takeBack 19 = .ok (.aload_n 0, 1) := by decide +kernel
theorem dX0_takeBack_20 : decode cX0_takeBack 20 = .ok (.getfield 9, 3) := by decide +kernel
theorem dX0_takeBack_23 : decode cX0_takeBack 23 = .ok (.iload_n 2, 1) := by decide +kernel
theorem dX0_takeBack_24 : decode cX0_takeBack 24 = .ok (.iaload, 1) := by decide +kernel
theorem dX0_takeBack_25 : decode cX0_takeBack 25 = .ok (.iastore, 1) := by decide +kernel
theorem dX0_takeBack_26 : decode cX0_takeBack 26 = .ok (.aload_n 0, 1) := by decide +kernel
theorem dX0_takeBack_27 : decode cX0_takeBack 27 = .ok (.getfield 9, 3) := by decide +kernel
theorem dX0_takeBack_30 : decode cX0_takeBack 30 = .ok (.iload_n 2, 1) := by decide +kernel
theorem dX0_takeBack_31 : decode cX0_takeBack 31 = .ok (.iload_n 3, 1) := by decide +kernel
theorem dX0_takeBack_32 : decode cX0_takeBack 32 = .ok (.iastore, 1) := by decide +kernel
theorem dX0_takeBack_33 : decode cX0_takeBack 33 = .ok (.return_, 1) := by decide +kernel
set_option maxRecDepth 20000 in
theorem ggX0_reaches_X5_isSquare : GoodIn wsX0_reaches wsX5_isSquare := goodIn_r _ [3] (by decide +kernel) (by decide +kernel)
set_option maxRecDepth 20000 in
theorem gX0_reaches_X5_isSquare_n25 : GoodIn wsX0_reaches (wsX5_isSquare) := ggX0_reaches_X5_isSquare
set_option maxRecDepth 20000 in
theorem ggX0_reaches_X0_reachedFrom : GoodIn wsX0_reaches wsX0_reachedFrom := goodIn_r _ [8, 9, 10, 11, 12, 13, 14, 15, 16, 17, 18] (by decide +kernel) (by decide +kernel)
set_option maxRecDepth 20000 in
theorem gX0_reaches_X0_reachedFrom : GoodIn wsX0_reaches (wsV RX0 36 RX0 yX0_reachedFrom wsX0_reachedFrom) := goodIn_app (goodIn_of _ (by decide +kernel)) ggX0_reaches_X0_reachedFrom
theorem dX0_reaches_0 : decode cX0_reaches 0 = .ok (.iload_n 2, 1) := by decide +kernel
theorem dX0_reaches_1 : decode cX0_reaches 1 = .ok (.invokestatic 25, 3) := by decide +kernel
theorem dX0_reaches_4 : decode cX0_reaches 4 = .ok (.ifCond .eq 21, 3) := by decide +kernel
theorem dX0_reaches_7 : decode cX0_reaches 7 = .ok (.aload_n 0, 1) := by decide +kernel
theorem dX0_reaches_8 : decode cX0_reaches 8 = .ok (.iload_n 1, 1) := by decide +kernel
theorem dX0_reaches_9 : decode cX0_reaches 9 = .ok (.invokevirtual 36, 3) := by decide +kernel
theorem dX0_reaches_12 : decode cX0_reaches 12 = .ok (.iload_n 2, 1) := by decide +kernel
theorem dX0_reaches_13 : decode cX0_reaches 13 = .ok (.lushr, 1) := by decide +kernel
theorem dX0_reaches_14 : decode cX0_reaches 14 = .ok (.lconst 1, 1) := by decide +kernel
theorem dX0_reaches_15 : decode cX0_reaches 15 = .ok (.land, 1) := by decide +kernel
theorem dX0_reaches_16 : decode cX0_reaches 16 = .ok (.lconst 0, 1) := by decide +kernel
theorem dX0_reaches_17 : decode cX0_reaches 17 = .ok (.lcmp, 1) := by decide +kernel
theorem dX0_reaches_18 : decode cX0_reaches 18 = .ok (.ifCond .eq 7, 3) := by decide +kernel
theorem dX0_reaches_21 : decode cX0_reaches 21 = .ok (.iconst 1, 1) := by decide +kernel
theorem dX0_reaches_22 : decode cX0_reaches 22 = .ok (.goto 4, 3) := by decide +kernel
theorem dX0_reaches_25 : decode cX0_reaches 25 = .ok (.iconst 0, 1) := by decide +kernel
theorem dX0_reaches_26 : decode cX0_reaches 26 = .ok (.ireturn, 1) := by decide +kernel
theorem dX0_reachedFrom_0 : decode cX0_reachedFrom 0 = .ok (.iload_n 1, 1) := by decide +kernel
theorem dX0_reachedFrom_1 : decode cX0_reachedFrom 1 = .ok (.ifCond .lt 9, 3) := by decide +kernel
theorem dX0_reachedFrom_4 : decode cX0_reachedFrom 4 = .ok (.iload_n 1, 1) := by decide +kernel
theorem dX0_reachedFrom_5 : decode cX0_reachedFrom 5 = .ok (.bipush 64, 2) := by decide +kernel
theorem dX0_reachedFrom_7 : decode cX0_reachedFrom 7 = .ok (.if_icmp .lt 5, 3) := by decide +kernel
theorem dX0_reachedFrom_10 : decode cX0_reachedFrom 10 = .ok (.lconst 0, 1) := by decide +kernel
theorem dX0_reachedFrom_11 : decode cX0_reachedFrom 11 = .ok (.lreturn, 1) := by decide +kernel
theorem dX0_reachedFrom_12 : decode cX0_reachedFrom 12 = .ok (.aload_n 0, 1) := by decide +kernel
theorem dX0_reachedFrom_13 : decode cX0_reachedFrom 13 = .ok (.getfield 9, 3) := by decide +kernel
theorem dX0_reachedFrom_16 : decode cX0_reachedFrom 16 = .ok (.iload_n 1, 1) := by decide +kernel
theorem dX0_reachedFrom_17 : decode cX0_reachedFrom 17 = .ok (.iaload, 1) := by decide +kernel
theorem dX0_reachedFrom_18 : decode cX0_reachedFrom 18 = .ok (.istore_n 2, 1) := by decide +kernel
theorem dX0_reachedFrom_19 : decode cX0_reachedFrom 19 = .ok (.iload_n 2, 1) := by decide +kernel
theorem dX0_reachedFrom_20 : decode cX0_reachedFrom 20 = .ok (.ifCond .lt 16, 3) := by decide +kernel
theorem dX0_reachedFrom_23 : decode cX0_reachedFrom 23 = .ok (.iload_n 2, 1) := by decide +kernel
theorem dX0_reachedFrom_24 : decode cX0_reachedFrom 24 = .ok (.iconst 2, 1) := by decide +kernel
theorem dX0_reachedFrom_25 : decode cX0_reachedFrom 25 = .ok (.idiv, 1) := by decide +kernel
theorem dX0_reachedFrom_26 : decode cX0_reachedFrom 26 = .ok (.aload_n 0, 1) := by decide +kernel
theorem dX0_reachedFrom_27 : decode cX0_reachedFrom 27 = .ok (.getfield 15, 3) := by decide +kernel
theorem dX0_reachedFrom_30 : decode cX0_reachedFrom 30 = .ok (.getfield 40, 3) := by decide +kernel
theorem dX0_reachedFrom_33 : decode cX0_reachedFrom 33 = .ok (.if_icmp .lt 5, 3) := by decide +kernel
theorem dX0_reachedFrom_36 : decode cX0_reachedFrom 36 = .ok (.lconst 0, 1) := by decide +kernel
theorem dX0_reachedFrom_37 : decode cX0_reachedFrom 37 = .ok (.lreturn, 1) := by decide +kernel
theorem dX0_reachedFrom_38 : decode cX0_reachedFrom 38 = .ok (.iload_n 2, 1) := by decide +kernel
theorem dX0_reachedFrom_39 : decode cX0_reachedFrom 39 = .ok (.iconst 2, 1) := by decide +kernel
theorem dX0_reachedFrom_40 : decode cX0_reachedFrom 40 = .ok (.irem, 1) := by decide +kernel
theorem dX0_reachedFrom_41 : decode cX0_reachedFrom 41 = .ok (.istore_n 3, 1) := by decide +kernel
theorem dX0_reachedFrom_42 : decode cX0_reachedFrom 42 = .ok (.iload_n 2, 1) := by decide +kernel
theorem dX0_reachedFrom_43 : decode cX0_reachedFrom 43 = .ok (.iconst 2, 1) := by decide +kernel
theorem dX0_reachedFrom_44 : decode cX0_reachedFrom 44 = .ok (.idiv, 1) := by decide +kernel
theorem dX0_reachedFrom_45 : decode cX0_reachedFrom 45 = .ok (.bipush 8, 2) := by decide +kernel
theorem dX0_reachedFrom_47 : decode cX0_reachedFrom 47 = .ok (.imul, 1) := by decide +kernel
theorem dX0_reachedFrom_48 : decode cX0_reachedFrom 48 = .ok (.istore 4, 2) := by decide +kernel
theorem dX0_reachedFrom_50 : decode cX0_reachedFrom 50 = .ok (.iload 4, 2) := by decide +kernel
theorem dX0_reachedFrom_52 : decode cX0_reachedFrom 52 = .ok (.aload_n 0, 1) := by decide +kernel
theorem dX0_reachedFrom_53 : decode cX0_reachedFrom 53 = .ok (.getfield 15, 3) := by decide +kernel
theorem dX0_reachedFrom_56 : decode cX0_reachedFrom 56 = .ok (.getfield 46, 3) := by decide +kernel
theorem dX0_reachedFrom_59 : decode cX0_reachedFrom 59 = .ok (.iload_n 2, 1) := by decide +kernel
theorem dX0_reachedFrom_60 : decode cX0_reachedFrom 60 = .ok (.iconst 2, 1) := by decide +kernel
theorem dX0_reachedFrom_61 : decode cX0_reachedFrom 61 = .ok (.idiv, 1) := by decide +kernel
theorem dX0_reachedFrom_62 : decode cX0_reachedFrom 62 = .ok (.iaload, 1) := by decide +kernel
theorem dX0_reachedFrom_63 : decode cX0_reachedFrom 63 = .ok (.iadd, 1) := by decide +kernel
theorem dX0_reachedFrom_64 : decode cX0_reachedFrom 64 = .ok (.istore 5, 2) := by decide +kernel
theorem dX0_reachedFrom_66 : decode cX0_reachedFrom 66 = .ok (.lconst 0, 1) := by decide +kernel
theorem dX0_reachedFrom_67 : decode cX0_reachedFrom 67 = .ok (.lstore 6, 2) := by decide +kernel
theorem dX0_reachedFrom_69 : decode cX0_reachedFrom 69 = .ok (.iload 4, 2) := by decide +kernel
theorem dX0_reachedFrom_71 : decode cX0_reachedFrom 71 = .ok (.istore 8, 2) := by decide +kernel
theorem dX0_reachedFrom_73 : decode cX0_reachedFrom 73 = .ok (.iload 8, 2) := by decide +kernel
theorem dX0_reachedFrom_75 : decode cX0_reachedFrom 75 = .ok (.iload 5, 2) := by decide +kernel
theorem dX0_reachedFrom_77 : decode cX0_reachedFrom 77 = .ok (.if_icmp .ge 185, 3) := by decide +kernel
theorem dX0_reachedFrom_80 : decode cX0_reachedFrom 80 = .ok (.aload_n 0, 1) := by decide +kernel
theorem dX0_reachedFrom_81 : decode cX0_reachedFrom 81 = .ok (.getfield 15, 3) := by decide +kernel
theorem dX0_reachedFrom_84 : decode cX0_reachedFrom 84 = .ok (.getfield 49, 3) := by decide +kernel
theorem dX0_reachedFrom_87 : decode cX0_reachedFrom 87 = .ok (.iload 8, 2) := by decide +kernel
theorem dX0_reachedFrom_89 : decode cX0_reachedFrom 89 = .ok (.iaload, 1) := by decide +kernel
theorem dX0_reachedFrom_90 : decode cX0_reachedFrom 90 = .ok (.istore 9, 2) := by decide +kernel
theorem dX0_reachedFrom_92 : decode cX0_reachedFrom 92 = .ok (.iload_n 3, 1) := by decide +kernel
theorem dX0_reachedFrom_93 : decode cX0_reachedFrom 93 = .ok (.ifCond .ne 16, 3) := by decide +kernel
theorem dX0_reachedFrom_96 : decode cX0_reachedFrom 96 = .ok (.aload_n 0, 1) := by decide +kernel
theorem dX0_reachedFrom_97 : decode cX0_reachedFrom 97 = .ok (.getfield 15, 3) := by decide +kernel
theorem dX0_reachedFrom_100 : decode cX0_reachedFrom 100 = .ok (.getfield 52, 3) := by decide +kernel
theorem dX0_reachedFrom_103 : decode cX0_reachedFrom 103 = .ok (.iload 8, 2) := by decide +kernel
theorem dX0_reachedFrom_105 : decode cX0_reachedFrom 105 = .ok (.iaload, 1) := by decide +kernel
theorem dX0_reachedFrom_106 : decode cX0_reachedFrom 106 = .ok (.goto 14, 3) := by decide +kernel
theorem dX0_reachedFrom_109 : decode cX0_reachedFrom 109 = .ok (.aload_n 0, 1) := by decide +kernel
theorem dX0_reachedFrom_110 : decode cX0_reachedFrom 110 = .ok (.getfield 15, 3) := by decide +kernel
theorem dX0_reachedFrom_113 : decode cX0_reachedFrom 113 = .ok (.getfield 52, 3) := by decide +kernel
theorem dX0_reachedFrom_116 : decode cX0_reachedFrom 116 = .ok (.iload 8, 2) := by decide +kernel
theorem dX0_reachedFrom_118 : decode cX0_reachedFrom 118 = .ok (.iaload, 1) := by decide +kernel
theorem dX0_reachedFrom_119 : decode cX0_reachedFrom 119 = .ok (.ineg, 1) := by decide +kernel
theorem dX0_reachedFrom_120 : decode cX0_reachedFrom 120 = .ok (.istore 10, 2) := by decide +kernel
theorem dX0_reachedFrom_122 : decode cX0_reachedFrom 122 = .ok (.iload_n 1, 1) := by decide +kernel
theorem dX0_reachedFrom_123 : decode cX0_reachedFrom 123 = .ok (.bipush 8, 2) := by decide +kernel
theorem dX0_reachedFrom_125 : decode cX0_reachedFrom 125 = .ok (.irem, 1) := by decide +kernel
theorem dX0_reachedFrom_126 : decode cX0_reachedFrom 126 = .ok (.iload 9, 2) := by decide +kernel
theorem dX0_reachedFrom_128 : decode cX0_reachedFrom 128 = .ok (.iadd, 1) := by decide +kernel
theorem dX0_reachedFrom_129 : decode cX0_reachedFrom 129 = .ok (.istore 11, 2) := by decide +kernel
theorem dX0_reachedFrom_131 : decode cX0_reachedFrom 131 = .ok (.iload_n 1, 1) := by decide +kernel
theorem dX0_reachedFrom_132 : decode cX0_reachedFrom 132 = .ok (.bipush 8, 2) := by decide +kernel
theorem dX0_reachedFrom_134 : decode cX0_reachedFrom 134 = .ok (.idiv, 1) := by decide +kernel
theorem dX0_reachedFrom_135 : decode cX0_reachedFrom 135 = .ok (.iload 10, 2) := by decide +kernel
theorem dX0_reachedFrom_137 : decode cX0_reachedFrom 137 = .ok (.iadd, 1) := by decide +kernel
theorem dX0_reachedFrom_138 : decode cX0_reachedFrom 138 = .ok (.istore 12, 2) := by decide +kernel
theorem dX0_reachedFrom_140 : decode cX0_reachedFrom 140 = .ok (.aload_n 0, 1) := by decide +kernel
theorem dX0_reachedFrom_141 : decode cX0_reachedFrom 141 = .ok (.getfield 15, 3) := by decide +kernel
theorem dX0_reachedFrom_144 : decode cX0_reachedFrom 144 = .ok (.getfield 55, 3) := by decide +kernel
theorem dX0_reachedFrom_147 : decode cX0_reachedFrom 147 = .ok (.iload 8, 2) := by decide +kernel
theorem dX0_reachedFrom_149 : decode cX0_reachedFrom 149 = .ok (.iaload, 1) := by decide +kernel
theorem dX0_reachedFrom_150 : decode cX0_reachedFrom 150 = .ok (.istore 13, 2) := by decide +kernel
theorem dX0_reachedFrom_152 : decode cX0_reachedFrom 152 = .ok (.iload 13, 2) := by decide +kernel
theorem dX0_reachedFrom_154 : decode cX0_reachedFrom 154 = .ok (.ifCond .le 102, 3) := by decide +kernel
theorem dX0_reachedFrom_157 : decode cX0_reachedFrom 157 = .ok (.iload 11, 2) := by decide +kernel
theorem dX0_reachedFrom_159 : decode cX0_reachedFrom 159 = .ok (.ifCond .lt 97, 3) := by decide +kernel
theorem dX0_reachedFrom_162 : decode cX0_reachedFrom 162 = .ok (.iload 11, 2) := by decide +kernel
theorem dX0_reachedFrom_164 : decode cX0_reachedFrom 164 = .ok (.bipush 8, 2) := by decide +kernel
theorem dX0_reachedFrom_166 : decode cX0_reachedFrom 166 = .ok (.if_icmp .ge 90, 3) := by decide +kernel
theorem dX0_reachedFrom_169 : decode cX0_reachedFrom 169 = .ok (.iload 12, 2) := by decide +kernel
theorem dX0_reachedFrom_171 : decode cX0_reachedFrom 171 = .ok (.ifCond .lt 85, 3) := by decide +kernel
theorem dX0_reachedFrom_174 : decode cX0_reachedFrom 174 = .ok (.iload 12, 2) := by decide +kernel
theorem dX0_reachedFrom_176 : decode cX0_reachedFrom 176 = .ok (.bipush 8, 2) := by decide +kernel
theorem dX0_reachedFrom_178 : decode cX0_reachedFrom 178 = .ok (.if_icmp .ge 78, 3) := by decide +kernel
theorem dX0_reachedFrom_181 : decode cX0_reachedFrom 181 = .ok (.iload 12, 2) := by decide +kernel
theorem dX0_reachedFrom_183 : decode cX0_reachedFrom 183 = .ok (.bipush 8, 2) := by decide +kernel
theorem dX0_reachedFrom_185 : decode cX0_reachedFrom 185 = .ok (.imul, 1) := by decide +kernel
theorem dX0_reachedFrom_186 : decode cX0_reachedFrom 186 = .ok (.iload 11, 2) := by decide +kernel
theorem dX0_reachedFrom_188 : decode cX0_reachedFrom 188 = .ok (.iadd, 1) := by decide +kernel
theorem dX0_reachedFrom_189 : decode cX0_reachedFrom 189 = .ok (.istore 14, 2) := by decide +kernel
theorem dX0_reachedFrom_191 : decode cX0_reachedFrom 191 = .ok (.aload_n 0, 1) := by decide +kernel
theorem dX0_reachedFrom_192 : decode cX0_reachedFrom 192 = .ok (.getfield 9, 3) := by decide +kernel
theorem dX0_reachedFrom_195 : decode cX0_reachedFrom 195 = .ok (.iload 14, 2) := by decide +kernel
theorem dX0_reachedFrom_197 : decode cX0_reachedFrom 197 = .ok (.iaload, 1) := by decide +kernel
theorem dX0_reachedFrom_198 : decode cX0_reachedFrom 198 = .ok (.istore 15, 2) := by decide +kernel
theorem dX0_reachedFrom_200 : decode cX0_reachedFrom 200 = .ok (.iload 15, 2) := by decide +kernel
theorem dX0_reachedFrom_202 : decode cX0_reachedFrom 202 = .ok (.iconst (-1), 1) := by decide +kernel
theorem dX0_reachedFrom_203 : decode cX0_reachedFrom 203 = .ok (.if_icmp .eq 11, 3) := by decide +kernel
theorem dX0_reachedFrom_206 : decode cX0_reachedFrom 206 = .ok (.iload 15, 2) := by decide +kernel
theorem dX0_reachedFrom_208 : decode cX0_reachedFrom 208 = .ok (.iconst 2, 1) := by decide +kernel
theorem dX0_reachedFrom_209 : decode cX0_reachedFrom 209 = .ok (.irem, 1) := by decide +kernel
theorem dX0_reachedFrom_210 : decode cX0_reachedFrom 210 = .ok (.iload_n 3, 1) := by decide +kernel
theorem dX0_reachedFrom_211 : decode cX0_reachedFrom 211 = .ok (.if_icmp .eq 12, 3) := by decide +kernel
theorem dX0_reachedFrom_214 : decode cX0_reachedFrom 214 = .ok (.lload 6, 2) := by decide +kernel
theorem dX0_reachedFrom_216 : decode cX0_reachedFrom 216 = .ok (.lconst 1, 1) := by decide +kernel
theorem dX0_reachedFrom_217 : decode cX0_reachedFrom 217 = .ok (.iload 14, 2) := by decide +kernel
theorem dX0_reachedFrom_219 : decode cX0_reachedFrom 219 = .ok (.lshl, 1) := by decide +kernel
theorem dX0_reachedFrom_220 : decode cX0_reachedFrom 220 = .ok (.lor, 1) := by decide +kernel
theorem dX0_reachedFrom_221 : decode cX0_reachedFrom 221 = .ok (.lstore 6, 2) := by decide +kernel
theorem dX0_reachedFrom_223 : decode cX0_reachedFrom 223 = .ok (.iload 15, 2) := by decide +kernel
theorem dX0_reachedFrom_225 : decode cX0_reachedFrom 225 = .ok (.iconst (-1), 1) := by decide +kernel
theorem dX0_reachedFrom_226 : decode cX0_reachedFrom 226 = .ok (.if_icmp .ne 10, 3) := by decide +kernel
theorem dX0_reachedFrom_229 : decode cX0_reachedFrom 229 = .ok (.iload 13, 2) := by decide +kernel
theorem dX0_reachedFrom_231 : decode cX0_reachedFrom 231 = .ok (.iconst 1, 1) := by decide +kernel
theorem dX0_reachedFrom_232 : decode cX0_reachedFrom 232 = .ok (.isub, 1) := by decide +kernel
theorem dX0_reachedFrom_233 : decode cX0_reachedFrom 233 = .ok (.goto 4, 3) := by decide +kernel
theorem dX0_reachedFrom_236 : decode cX0_reachedFrom 236 = .ok (.iconst 0, 1) := by decide +kernel
theorem dX0_reachedFrom_237 : decode cX0_reachedFrom 237 = .ok (.istore 13, 2) := by decide +kernel
theorem dX0_reachedFrom_239 : decode cX0_reachedFrom 239 = .ok (.iload 11, 2) := by decide +kernel
theorem dX0_reachedFrom_241 : decode cX0_reachedFrom 241 = .ok (.iload 9, 2) := by decide +kernel
theorem dX0_reachedFrom_243 : decode cX0_reachedFrom 243 = .ok (.iadd, 1) := by decide +kernel
theorem dX0_reachedFrom_244 : decode cX0_reachedFrom 244 = .ok (.istore 11, 2) := by decide +kernel
theorem dX0_reachedFrom_246 : decode cX0_reachedFrom 246 = .ok (.iload 12, 2) := by decide +kernel
theorem dX0_reachedFrom_248 : decode cX0_reachedFrom 248 = .ok (.iload 10, 2) := by decide +kernel
theorem dX0_reachedFrom_250 : decode cX0_reachedFrom 250 = .ok (.iadd, 1) := by decide +kernel
theorem dX0_reachedFrom_251 : decode cX0_reachedFrom 251 = .ok (.istore 12, 2) := by decide +kernel
theorem dX0_reachedFrom_253 : decode cX0_reachedFrom 253 = .ok (.goto (-101), 3) := by decide +kernel
theorem dX0_reachedFrom_256 : decode cX0_reachedFrom 256 = .ok (.iinc 8 1, 3) := by decide +kernel
theorem dX0_reachedFrom_259 : decode cX0_reachedFrom 259 = .ok (.goto (-186), 3) := by decide +kernel
theorem dX0_reachedFrom_262 : decode cX0_reachedFrom 262 = .ok (.lload 6, 2) := by decide +kernel
theorem dX0_reachedFrom_264 : decode cX0_reachedFrom 264 = .ok (.lreturn, 1) := by decide +kernel
theorem dX0_royalsOf_0 : decode cX0_royalsOf 0 = .ok (.lconst 0, 1) := by decide +kernel
theorem dX0_royalsOf_1 : decode cX0_royalsOf 1 = .ok (.lstore_n 2, 1) := by decide +kernel
theorem dX0_royalsOf_2 : decode cX0_royalsOf 2 = .ok (.iconst 0, 1) := by decide +kernel
theorem dX0_royalsOf_3 : decode cX0_royalsOf 3 = .ok (.istore 4, 2) := by decide +kernel
theorem dX0_royalsOf_5 : decode cX0_royalsOf 5 = .ok (.iload 4, 2) := by decide +kernel
theorem dX0_royalsOf_7 : decode cX0_royalsOf 7 = .ok (.bipush 64, 2) := by decide +kernel
theorem dX0_royalsOf_9 : decode cX0_royalsOf 9 = .ok (.if_icmp .ge 29, 3) := by decide +kernel
theorem dX0_royalsOf_12 : decode cX0_royalsOf 12 = .ok (.aload_n 0, 1) := by decide +kernel
theorem dX0_royalsOf_13 : decode cX0_royalsOf 13 = .ok (.getfield 9, 3) := by decide +kernel
theorem dX0_royalsOf_16 : decode cX0_royalsOf 16 = .ok (.iload 4, 2) := by decide +kernel
theorem dX0_royalsOf_18 : decode cX0_royalsOf 18 = .ok (.iaload, 1) := by decide +kernel
theorem dX0_royalsOf_19 : decode cX0_royalsOf 19 = .ok (.iconst 0, 1) := by decide +kernel
theorem dX0_royalsOf_20 : decode cX0_royalsOf 20 = .ok (.iload_n 1, 1) := by decide +kernel
theorem dX0_royalsOf_21 : decode cX0_royalsOf 21 = .ok (.iadd, 1) := by decide +kernel
theorem dX0_royalsOf_22 : decode cX0_royalsOf 22 = .ok (.if_icmp .ne 10, 3) := by decide +kernel
theorem dX0_royalsOf_25 : decode cX0_royalsOf 25 = .ok (.lload_n 2, 1) := by decide +kernel
theorem dX0_royalsOf_26 : decode cX0_royalsOf 26 = .ok (.lconst 1, 1) := by decide +kernel
theorem dX0_royalsOf_27 : decode cX0_royalsOf 27 = .ok (.iload 4, 2) := by decide +kernel
theorem dX0_royalsOf_29 : decode cX0_royalsOf 29 = .ok (.lshl, 1) := by decide +kernel
theorem dX0_royalsOf_30 : decode cX0_royalsOf 30 = .ok (.lor, 1) := by decide +kernel
theorem dX0_royalsOf_31 : decode cX0_royalsOf 31 = .ok (.lstore_n 2, 1) := by decide +kernel
theorem dX0_royalsOf_32 : decode cX0_royalsOf 32 = .ok (.iinc 4 1, 3) := by decide +kernel
theorem dX0_royalsOf_35 : decode cX0_royalsOf 35 = .ok (.goto (-30), 3) := by decide +kernel
theorem dX0_royalsOf_38 : decode cX0_royalsOf 38 = .ok (.lload_n 2, 1) := by decide +kernel
theorem dX0_royalsOf_39 : decode cX0_royalsOf 39 = .ok (.lreturn, 1) := by decide +kernel
set_option maxRecDepth 20000 in
theorem ggX0_inCheck_X0_royalsOf : GoodIn wsX0_inCheck wsX0_royalsOf := goodIn_r _ [6, 1, 12, 13] (by decide +kernel) (by decide +kernel)
set_option maxRecDepth 20000 in
theorem gX0_inCheck_X0_royalsOf : GoodIn wsX0_inCheck (wsV RX0 58 RX0 yX0_royalsOf wsX0_royalsOf) := goodIn_app (goodIn_of _ (by decide +kernel)) ggX0_inCheck_X0_royalsOf
set_option maxRecDepth 20000 in
theorem ggX0_inCheck_X0_reachedFrom : GoodIn wsX0_inCheck wsX0_reachedFrom := goodIn_r _ [10, 1, 11, 12, 13, 14, 15, 16, 17, 18, 19] (by decide +kernel) (by decide +kernel)
set_option maxRecDepth 20000 in
theorem gX0_inCheck_X0_reachedFrom : GoodIn wsX0_inCheck (wsV RX0 36 RX0 yX0_reachedFrom wsX0_reachedFrom) := goodIn_app (goodIn_of _ (by decide +kernel)) ggX0_inCheck_X0_reachedFrom
theorem dX0_inCheck_0 : decode cX0_inCheck 0 = .ok (.aload_n 0, 1) := by decide +kernel
theorem dX0_inCheck_1 : decode cX0_inCheck 1 = .ok (.iload_n 1, 1) := by decide +kernel
theorem dX0_inCheck_2 : decode cX0_inCheck 2 = .ok (.invokevirtual 58, 3) := by decide +kernel
theorem dX0_inCheck_5 : decode cX0_inCheck 5 = .ok (.lstore_n 2, 1) := by decide +kernel
theorem dX0_inCheck_6 : decode cX0_inCheck 6 = .ok (.iconst 0, 1) := by decide +kernel
theorem dX0_inCheck_7 : decode cX0_inCheck 7 = .ok (.istore 4, 2) := by decide +kernel
theorem dX0_inCheck_9 : decode cX0_inCheck 9 = .ok (.iconst 0, 1) := by decide +kernel
theorem dX0_inCheck_10 : decode cX0_inCheck 10 = .ok (.istore 5, 2) := by decide +kernel
theorem dX0_inCheck_12 : decode cX0_inCheck 12 = .ok (.iload 5, 2) := by decide +kernel
theorem dX0_inCheck_14 : decode cX0_inCheck 14 = .ok (.bipush 64, 2) := by decide +kernel
theorem dX0_inCheck_16 : decode cX0_inCheck 16 = .ok (.if_icmp .ge 64, 3) := by decide +kernel
theorem dX0_inCheck_19 : decode cX0_inCheck 19 = .ok (.lload_n 2, 1) := by decide +kernel
theorem dX0_inCheck_20 : decode cX0_inCheck 20 = .ok (.lconst 0, 1) := by decide +kernel
theorem dX0_inCheck_21 : decode cX0_inCheck 21 = .ok (.lcmp, 1) := by decide +kernel
theorem dX0_inCheck_22 : decode cX0_inCheck 22 = .ok (.ifCond .eq 58, 3) := by decide +kernel
theorem dX0_inCheck_25 : decode cX0_inCheck 25 = .ok (.iload 4, 2) := by decide +kernel
theorem dX0_inCheck_27 : decode cX0_inCheck 27 = .ok (.ifCond .ne 53, 3) := by decide +kernel
theorem dX0_inCheck_30 : decode cX0_inCheck 30 = .ok (.aload_n 0, 1) := by decide +kernel
theorem dX0_inCheck_31 : decode cX0_inCheck 31 = .ok (.getfield 9, 3) := by decide +kernel
theorem dX0_inCheck_34 : decode cX0_inCheck 34 = .ok (.iload 5, 2) := by decide +kernel
theorem dX0_inCheck_36 : decode cX0_inCheck 36 = .ok (.iaload, 1) := by decide +kernel
theorem dX0_inCheck_37 : decode cX0_inCheck 37 = .ok (.iconst (-1), 1) := by decide +kernel
theorem dX0_inCheck_38 : decode cX0_inCheck 38 = .ok (.if_icmp .eq 36, 3) := by decide +kernel
theorem dX0_inCheck_41 : decode cX0_inCheck 41 = .ok (.aload_n 0, 1) := by decide +kernel
theorem dX0_inCheck_42 : decode cX0_inCheck 42 = .ok (.getfield 9, 3) := by decide +kernel
theorem dX0_inCheck_45 : decode cX0_inCheck 45 = .ok (.iload 5, 2) := by decide +kernel
theorem dX0_inCheck_47 : decode cX0_inCheck 47 = .ok (.iaload, 1) := by decide +kernel
theorem dX0_inCheck_48 : decode cX0_inCheck 48 = .ok (.iconst 2, 1) := by decide +kernel
theorem dX0_inCheck_49 : decode cX0_inCheck 49 = .ok (.irem, 1) := by decide +kernel
theorem dX0_inCheck_50 : decode cX0_inCheck 50 = .ok (.iload_n 1, 1) := by decide +kernel
theorem dX0_inCheck_51 : decode cX0_inCheck 51 = .ok (.if_icmp .eq 23, 3) := by decide +kernel
theorem dX0_inCheck_54 : decode cX0_inCheck 54 = .ok (.aload_n 0, 1) := by decide +kernel
theorem dX0_inCheck_55 : decode cX0_inCheck 55 = .ok (.iload 5, 2) := by decide +kernel
theorem dX0_inCheck_57 : decode cX0_inCheck 57 = .ok (.invokevirtual 36, 3) := by decide +kernel
theorem dX0_inCheck_60 : decode cX0_inCheck 60 = .ok (.lload_n 2, 1) := by decide +kernel
theorem dX0_inCheck_61 : decode cX0_inCheck 61 = .ok (.land, 1) := by decide +kernel
theorem dX0_inCheck_62 : decode cX0_inCheck 62 = .ok (.lconst 0, 1) := by decide +kernel
theorem dX0_inCheck_63 : decode cX0_inCheck 63 = .ok (.lcmp, 1) := by decide +kernel
theorem dX0_inCheck_64 : decode cX0_inCheck 64 = .ok (.ifCond .eq 7, 3) := by decide +kernel
theorem dX0_inCheck_67 : decode cX0_inCheck 67 = .ok (.iconst 1, 1) := by decide +kernel
theorem dX0_inCheck_68 : decode cX0_inCheck 68 = .ok (.goto 4, 3) := by decide +kernel
theorem dX0_inCheck_71 : decode cX0_inCheck 71 = .ok (.iconst 0, 1) := by decide +kernel
theorem dX0_inCheck_72 : decode cX0_inCheck 72 = .ok (.istore 4, 2) := by decide +kernel
theorem dX0_inCheck_74 : decode cX0_inCheck 74 = .ok (.iinc 5 1, 3) := by decide +kernel
theorem dX0_inCheck_77 : decode cX0_inCheck 77 = .ok (.goto (-65), 3) := by decide +kernel
theorem dX0_inCheck_80 : decode cX0_inCheck 80 = .ok (.iload 4, 2) := by decide +kernel
theorem dX0_inCheck_82 : decode cX0_inCheck 82 = .ok (.ireturn, 1) := by decide +kernel
set_option maxRecDepth 20000 in
theorem ggX0_keepsRoyalsSafe_X0_pieceOn : GoodIn wsX0_keepsRoyalsSafe wsX0_pieceOn := goodIn_r _ [5, 6, 7, 8, 9, 31, 32] (by decide +kernel) (by decide +kernel)
set_option maxRecDepth 20000 in
theorem gX0_keepsRoyalsSafe_X0_pieceOn : GoodIn wsX0_keepsRoyalsSafe (wsV RX0 29 RX0 yX0_pieceOn wsX0_pieceOn) := goodIn_app (goodIn_of _ (by decide +kernel)) ggX0_keepsRoyalsSafe_X0_pieceOn
set_option maxRecDepth 20000 in
theorem ggX0_keepsRoyalsSafe_X0_move : GoodIn wsX0_keepsRoyalsSafe wsX0_move := goodIn_r _ [13, 6, 7, 8, 9, 31, 32] (by decide +kernel) (by decide +kernel)
set_option maxRecDepth 20000 in
theorem gX0_keepsRoyalsSafe_X0_move : GoodIn wsX0_keepsRoyalsSafe (wsV RX0 61 RX0 yX0_move wsX0_move) := goodIn_app (goodIn_of _ (by decide +kernel)) ggX0_keepsRoyalsSafe_X0_move
set_option maxRecDepth 20000 in
theorem ggX0_keepsRoyalsSafe_X0_inCheck : GoodIn wsX0_keepsRoyalsSafe wsX0_inCheck := goodIn_r _ [17, 6, 18, 19, 20, 4, 21, 22, 23, 24, 25, 26, 31, 32, 33, 34, 35, 36, 37, 38] (by decide +kernel) (by decide +kernel)
set_option maxRecDepth 20000 in
theorem gX0_keepsRoyalsSafe_X0_inCheck : GoodIn wsX0_keepsRoyalsSafe (wsV RX0 65 RX0 yX0_inCheck wsX0_inCheck) := goodIn_app (goodIn_of _ (by decide +kernel)) ggX0_keepsRoyalsSafe_X0_inCheck
set_option maxRecDepth 20000 in
theorem ggX0_keepsRoyalsSafe_X0_takeBack : GoodIn wsX0_keepsRoyalsSafe wsX0_takeBack := goodIn_r _ [30, 6, 7, 8, 9, 31, 32] (by decide +kernel) (by decide +kernel)
set_option maxRecDepth 20000 in
theorem gX0_keepsRoyalsSafe_X0_takeBack : GoodIn wsX0_keepsRoyalsSafe (wsV RX0 68 RX0 yX0_takeBack wsX0_takeBack) := goodIn_app (goodIn_of _ (by decide +kernel)) ggX0_keepsRoyalsSafe_X0_takeBack
theorem dX0_keepsRoyalsSafe_0 : decode cX0_keepsRoyalsSafe 0 = .ok (.aload_n 0, 1) := by decide +kernel
theorem dX0_keepsRoyalsSafe_1 : decode cX0_keepsRoyalsSafe 1 = .ok (.iload_n 1, 1) := by decide +kernel
theorem dX0_keepsRoyalsSafe_2 : decode cX0_keepsRoyalsSafe 2 = .ok (.invokevirtual 29, 3) := by decide +kernel
theorem dX0_keepsRoyalsSafe_5 : decode cX0_keepsRoyalsSafe 5 = .ok (.iconst 2, 1) := by decide +kernel
theorem dX0_keepsRoyalsSafe_6 : decode cX0_keepsRoyalsSafe 6 = .ok (.irem, 1) := by decide +kernel
theorem dX0_keepsRoyalsSafe_7 : decode cX0_keepsRoyalsSafe 7 = .ok (.istore_n 3, 1) := by decide +kernel
theorem dX0_keepsRoyalsSafe_8 : decode cX0_keepsRoyalsSafe 8 = .ok (.aload_n 0, 1) := by decide +kernel
theorem dX0_keepsRoyalsSafe_9 : decode cX0_keepsRoyalsSafe 9 = .ok (.iload_n 1, 1) := by decide +kernel
theorem dX0_keepsRoyalsSafe_10 : decode cX0_keepsRoyalsSafe 10 = .ok (.iload_n 2, 1) := by decide +kernel
theorem dX0_keepsRoyalsSafe_11 : decode cX0_keepsRoyalsSafe 11 = .ok (.invokevirtual 61, 3) := by decide +kernel
theorem dX0_keepsRoyalsSafe_14 : decode cX0_keepsRoyalsSafe 14 = .ok (.istore 4, 2) := by decide +kernel
theorem dX0_keepsRoyalsSafe_16 : decode cX0_keepsRoyalsSafe 16 = .ok (.aload_n 0, 1) := by decide +kernel
theorem dX0_keepsRoyalsSafe_17 : decode cX0_keepsRoyalsSafe 17 = .ok (.iload_n 3, 1) := by decide +kernel
theorem dX0_keepsRoyalsSafe_18 : decode cX0_keepsRoyalsSafe 18 = .ok (.invokevirtual 65, 3) := by decide +kernel
theorem dX0_keepsRoyalsSafe_21 : decode cX0_keepsRoyalsSafe 21 = .ok (.ifCond .ne 7, 3) := by decide +kernel
theorem dX0_keepsRoyalsSafe_24 : decode cX0_keepsRoyalsSafe 24 = .ok (.iconst 1, 1) := by decide +kernel
theorem dX0_keepsRoyalsSafe_25 : decode cX0_keepsRoyalsSafe 25 = .ok (.goto 4, 3) := by decide +kernel
theorem dX0_keepsRoyalsSafe_28 : decode cX0_keepsRoyalsSafe 28 = .ok (.iconst 0, 1) := by decide +kernel
theorem dX0_keepsRoyalsSafe_29 : decode cX0_keepsRoyalsSafe 29 = .ok (.istore 5, 2) := by decide +kernel
theorem dX0_keepsRoyalsSafe_31 : decode cX0_keepsRoyalsSafe 31 = .ok (.aload_n 0, 1) := by decide +kernel
theorem dX0_keepsRoyalsSafe_32 : decode cX0_keepsRoyalsSafe 32 = .ok (.iload_n 1, 1) := by decide +kernel
theorem dX0_keepsRoyalsSafe_33 : decode cX0_keepsRoyalsSafe 33 = .ok (.iload_n 2, 1) := by decide +kernel
theorem dX0_keepsRoyalsSafe_34 : decode cX0_keepsRoyalsSafe 34 = .ok (.iload 4, 2) := by decide +kernel
theorem dX0_keepsRoyalsSafe_36 : decode cX0_keepsRoyalsSafe 36 = .ok (.invokevirtual 68, 3) := by decide +kernel
theorem dX0_keepsRoyalsSafe_39 : decode cX0_keepsRoyalsSafe 39 = .ok (.iload 5, 2) := by decide +kernel
theorem dX0_keepsRoyalsSafe_41 : decode cX0_keepsRoyalsSafe 41 = .ok (.ireturn, 1) := by decide +kernel
set_option maxRecDepth 20000 in
theorem ggX0_countLegalMoves_X0_reachedFrom : GoodIn wsX0_countLegalMoves wsX0_reachedFrom := goodIn_r _ [6, 1, 7, 35, 36, 37, 38, 39, 40, 41, 42] (by decide +kernel) (by decide +kernel)
set_option maxRecDepth 20000 in
theorem gX0_countLegalMoves_X0_reachedFrom : GoodIn wsX0_countLegalMoves (wsV RX0 36 RX0 yX0_reachedFrom wsX0_reachedFrom) := goodIn_app (goodIn_of _ (by decide +kernel)) ggX0_countLegalMoves_X0_reachedFrom
set_option maxRecDepth 20000 in
theorem ggX0_countLegalMoves_X0_keepsRoyalsSafe : GoodIn wsX0_countLegalMoves wsX0_keepsRoyalsSafe := goodIn_r _ [11, 12, 13, 14, 5, 15, 1, 16, 17, 18, 19, 20, 21, 22, 23, 24, 25, 26, 27, 28, 29, 30, 2, 3, 4, 6, 7, 31, 32, 33, 34, 35, 36, 37, 38, 39, 40, 41, 42] (by decide +kernel) (by decide +kernel)
set_option maxRecDepth 20000 in
theorem gX0_countLegalMoves_X0_keepsRoyalsSafe : GoodIn wsX0_countLegalMoves (wsV RX0 72 RX0 yX0_keepsRoyalsSafe wsX0_keepsRoyalsSafe) := goodIn_app (goodIn_of _ (by decide +kernel)) ggX0_countLegalMoves_X0_keepsRoyalsSafe
theorem dX0_countLegalMoves_0 : decode cX0_countLegalMoves 0 = .ok (.iconst 0, 1) := by decide +kernel
theorem dX0_countLegalMoves_1 : decode cX0_countLegalMoves 1 = .ok (.istore_n 3, 1) := by decide +kernel
theorem dX0_countLegalMoves_2 : decode cX0_countLegalMoves 2 = .ok (.iconst 0, 1) := by decide +kernel
theorem dX0_countLegalMoves_3 : decode cX0_countLegalMoves 3 = .ok (.istore 4, 2) := by decide +kernel
theorem dX0_countLegalMoves_5 : decode cX0_countLegalMoves 5 = .ok (.iload 4, 2) := by decide +kernel
theorem dX0_countLegalMoves_7 : decode cX0_countLegalMoves 7 = .ok (.bipush 64, 2) := by decide +kernel
theorem dX0_countLegalMoves_9 : decode cX0_countLegalMoves 9 = .ok (.if_icmp .ge 107, 3) := by decide +kernel
theorem dX0_countLegalMoves_12 : decode cX0_countLegalMoves 12 = .ok (.iload_n 3, 1) := by decide +kernel
theorem dX0_countLegalMoves_13 : decode cX0_countLegalMoves 13 = .ok (.iload_n 2, 1) := by decide +kernel
theorem dX0_countLegalMoves_14 : decode cX0_countLegalMoves 14 = .ok (.if_icmp .ge 102, 3) := by decide +kernel
theorem dX0_countLegalMoves_17 : decode cX0_countLegalMoves 17 = .ok (.aload_n 0, 1) := by decide +kernel
theorem dX0_countLegalMoves_18 : decode cX0_countLegalMoves 18 = .ok (.getfield 9, 3) := by decide +kernel
theorem dX0_countLegalMoves_21 : decode cX0_countLegalMoves 21 = .ok (.iload 4, 2) := by decide +kernel
theorem dX0_countLegalMoves_23 : decode cX0_countLegalMoves 23 = .ok (.iaload, 1) := by decide +kernel
theorem dX0_countLegalMoves_24 : decode cX0_countLegalMoves 24 = .ok (.iconst (-1), 1) := by decide +kernel
theorem dX0_countLegalMoves_25 : decode cX0_countLegalMoves 25 = .ok (.if_icmp .eq 25, 3) := by decide +kernel
theorem dX0_countLegalMoves_28 : decode cX0_countLegalMoves 28 = .ok (.aload_n 0, 1) := by decide +kernel
theorem dX0_countLegalMoves_29 : decode cX0_countLegalMoves 29 = .ok (.getfield 9, 3) := by decide +kernel
theorem dX0_countLegalMoves_32 : decode cX0_countLegalMoves 32 = .ok (.iload 4, 2) := by decide +kernel
theorem dX0_countLegalMoves_34 : decode cX0_countLegalMoves 34 = .ok (.iaload, 1) := by decide +kernel
theorem dX0_countLegalMoves_35 : decode cX0_countLegalMoves 35 = .ok (.iconst 2, 1) := by decide +kernel
theorem dX0_countLegalMoves_36 : decode cX0_countLegalMoves 36 = .ok (.irem, 1) := by decide +kernel
theorem dX0_countLegalMoves_37 : decode cX0_countLegalMoves 37 = .ok (.iload_n 1, 1) := by decide +kernel
theorem dX0_countLegalMoves_38 : decode cX0_countLegalMoves 38 = .ok (.if_icmp .ne 12, 3) := by decide +kernel
theorem dX0_countLegalMoves_41 : decode cX0_countLegalMoves 41 = .ok (.aload_n 0, 1) := by decide +kernel
theorem dX0_countLegalMoves_42 : decode cX0_countLegalMoves 42 = .ok (.iload 4, 2) := by decide +kernel
theorem dX0_countLegalMoves_44 : decode cX0_countLegalMoves 44 = .ok (.invokevirtual 36, 3) := by decide +kernel
theorem dX0_countLegalMoves_47 : decode cX0_countLegalMoves 47 = .ok (.goto 4, 3) := by decide +kernel
theorem dX0_countLegalMoves_50 : decode cX0_countLegalMoves 50 = .ok (.lconst 0, 1) := by decide +kernel
theorem dX0_countLegalMoves_51 : decode cX0_countLegalMoves 51 = .ok (.lstore 5, 2) := by decide +kernel
theorem dX0_countLegalMoves_53 : decode cX0_countLegalMoves 53 = .ok (.iconst 0, 1) := by decide +kernel
theorem dX0_countLegalMoves_54 : decode cX0_countLegalMoves 54 = .ok (.istore 7, 2) := by decide +kernel
theorem dX0_countLegalMoves_56 : decode cX0_countLegalMoves 56 = .ok (.iload 7, 2) := by decide +kernel
theorem dX0_countLegalMoves_58 : decode cX0_countLegalMoves 58 = .ok (.bipush 64, 2) := by decide +kernel
theorem dX0_countLegalMoves_60 : decode cX0_countLegalMoves 60 = .ok (.if_icmp .ge 50, 3) := by decide +kernel
theorem dX0_countLegalMoves_63 : decode cX0_countLegalMoves 63 = .ok (.lload 5, 2) := by decide +kernel
theorem dX0_countLegalMoves_65 : decode cX0_countLegalMoves 65 = .ok (.iload 7, 2) := by decide +kernel
theorem dX0_countLegalMoves_67 : decode cX0_countLegalMoves 67 = .ok (.lushr, 1) := by decide +kernel
theorem dX0_countLegalMoves_68 : decode cX0_countLegalMoves 68 = .ok (.lconst 0, 1) := by decide +kernel
theorem dX0_countLegalMoves_69 : decode cX0_countLegalMoves 69 = .ok (.lcmp, 1) := by decide +kernel
theorem dX0_countLegalMoves_70 : decode cX0_countLegalMoves 70 = .ok (.ifCond .eq 40, 3) := by decide +kernel
theorem dX0_countLegalMoves_73 : decode cX0_countLegalMoves 73 = .ok (.iload_n 3, 1) := by decide +kernel
theorem dX0_countLegalMoves_74 : decode cX0_countLegalMoves 74 = .ok (.iload_n 2, 1) := by decide +kernel
theorem dX0_countLegalMoves_75 : decode cX0_countLegalMoves 75 = .ok (.if_icmp .ge 35, 3) := by decide +kernel
theorem dX0_countLegalMoves_78 : decode cX0_countLegalMoves 78 = .ok (.lload 5, 2) := by decide +kernel
theorem dX0_countLegalMoves_80 : decode cX0_countLegalMoves 80 = .ok (.iload 7, 2) := by decide +kernel
theorem dX0_countLegalMoves_82 : decode cX0_countLegalMoves 82 = .ok (.lushr, 1) := by decide +kernel
theorem dX0_countLegalMoves_83 : decode cX0_countLegalMoves 83 = .ok (.lconst 1, 1) := by decide +kernel
theorem dX0_countLegalMoves_84 : decode cX0_countLegalMoves 84 = .ok (.land, 1) := by decide +kernel
theorem dX0_countLegalMoves_85 : decode cX0_countLegalMoves 85 = .ok (.lconst 0, 1) := by decide +kernel
theorem dX0_countLegalMoves_86 : decode cX0_countLegalMoves 86 = .ok (.lcmp, 1) := by decide +kernel
theorem dX0_countLegalMoves_87 : decode cX0_countLegalMoves 87 = .ok (.ifCond .eq 17, 3) := by decide +kernel
theorem dX0_countLegalMoves_90 : decode cX0_countLegalMoves 90 = .ok (.aload_n 0, 1) := by decide +kernel
theorem dX0_countLegalMoves_91 : decode cX0_countLegalMoves 91 = .ok (.iload 4, 2) := by decide +kernel
theorem dX0_countLegalMoves_93 : decode cX0_countLegalMoves 93 = .ok (.iload 7, 2) := by decide +kernel
theorem dX0_countLegalMoves_95 : decode cX0_countLegalMoves 95 = .ok (.invokevirtual 72, 3) := by decide +kernel
theorem dX0_countLegalMoves_98 : decode cX0_countLegalMoves 98 = .ok (.ifCond .eq 6, 3) := by decide +kernel
theorem dX0_countLegalMoves_101 : decode cX0_countLegalMoves 101 = .ok (.iinc 3 1, 3) := by decide +kernel
theorem dX0_countLegalMoves_104 : decode cX0_countLegalMoves 104 = .ok (.iinc 7 1, 3) := by decide +kernel
theorem dX0_countLegalMoves_107 : decode cX0_countLegalMoves 107 = .ok (.goto (-51), 3) := by decide +kernel
theorem dX0_countLegalMoves_110 : decode cX0_countLegalMoves 110 = .ok (.iinc 4 1, 3) := by decide +kernel
theorem dX0_countLegalMoves_113 : decode cX0_countLegalMoves 113 = .ok (.goto (-108), 3) := by decide +kernel
theorem dX0_countLegalMoves_116 : decode cX0_countLegalMoves 116 = .ok (.iload_n 3, 1) := by decide +kernel
theorem dX0_countLegalMoves_117 : decode cX0_countLegalMoves 117 = .ok (.ireturn, 1) := by decide +kernel
set_option maxRecDepth 20000 in
theorem ggX0_signBehind_X0_pieceOn : GoodIn wsX0_signBehind wsX0_pieceOn := goodIn_r _ [5, 6, 7, 8, 9, 39, 40] (by decide +kernel) (by decide +kernel)
set_option maxRecDepth 20000 in
theorem gX0_signBehind_X0_pieceOn : GoodIn wsX0_signBehind (wsV RX0 29 RX0 yX0_pieceOn wsX0_pieceOn) := goodIn_app (goodIn_of _ (by decide +kernel)) ggX0_signBehind_X0_pieceOn
set_option maxRecDepth 20000 in
theorem ggX0_signBehind_X0_move : GoodIn wsX0_signBehind wsX0_move := goodIn_r _ [13, 6, 7, 8, 9, 39, 40] (by decide +kernel) (by decide +kernel)
set_option maxRecDepth 20000 in
theorem gX0_signBehind_X0_move : GoodIn wsX0_signBehind (wsV RX0 61 RX0 yX0_move wsX0_move) := goodIn_app (goodIn_of _ (by decide +kernel)) ggX0_signBehind_X0_move
set_option maxRecDepth 20000 in
theorem ggX0_signBehind_X0_inCheck : GoodIn wsX0_signBehind wsX0_inCheck := goodIn_r _ [17, 6, 18, 19, 20, 4, 21, 22, 23, 24, 25, 26, 39, 40, 41, 42, 43, 44, 45, 46] (by decide +kernel) (by decide +kernel)
set_option maxRecDepth 20000 in
theorem gX0_signBehind_X0_inCheck : GoodIn wsX0_signBehind (wsV RX0 65 RX0 yX0_inCheck wsX0_inCheck) := goodIn_app (goodIn_of _ (by decide +kernel)) ggX0_signBehind_X0_inCheck
set_option maxRecDepth 20000 in
theorem ggX0_signBehind_X0_countLegalMoves : GoodIn wsX0_signBehind wsX0_countLegalMoves := goodIn_r _ [30, 6, 22, 23, 24, 4, 25, 26, 31, 32, 33, 34, 1, 2, 3, 5, 7, 8, 9, 10, 11, 12, 13, 14, 15, 16, 17, 18, 19, 20, 21, 35, 36, 37, 38, 39, 40, 41, 42, 43, 44, 45, 46] (by decide +kernel) (by decide +kernel)
set_option maxRecDepth 20000 in
theorem gX0_signBehind_X0_countLegalMoves : GoodIn wsX0_signBehind (wsV RX0 76 RX0 yX0_countLegalMoves wsX0_countLegalMoves) := goodIn_app (goodIn_of _ (by decide +kernel)) ggX0_signBehind_X0_countLegalMoves
set_option maxRecDepth 20000 in
theorem ggX0_signBehind_X0_takeBack : GoodIn wsX0_signBehind wsX0_takeBack := goodIn_r _ [38, 6, 7, 8, 9, 39, 40] (by decide +kernel) (by decide +kernel)
set_option maxRecDepth 20000 in
theorem gX0_signBehind_X0_takeBack : GoodIn wsX0_signBehind (wsV RX0 68 RX0 yX0_takeBack wsX0_takeBack) := goodIn_app (goodIn_of _ (by decide +kernel)) ggX0_signBehind_X0_takeBack
theorem dX0_signBehind_0 : decode cX0_signBehind 0 = .ok (.iconst 1, 1) := by decide +kernel
theorem dX0_signBehind_1 : decode cX0_signBehind 1 = .ok (.aload_n 0, 1) := by decide +kernel
theorem dX0_signBehind_2 : decode cX0_signBehind 2 = .ok (.iload_n 1, 1) := by decide +kernel
theorem dX0_signBehind_3 : decode cX0_signBehind 3 = .ok (.invokevirtual 29, 3) := by decide +kernel
theorem dX0_signBehind_6 : decode cX0_signBehind 6 = .ok (.iconst 2, 1) := by decide +kernel
theorem dX0_signBehind_7 : decode cX0_signBehind 7 = .ok (.irem, 1) := by decide +kernel
theorem dX0_signBehind_8 : decode cX0_signBehind 8 = .ok (.isub, 1) := by decide +kernel
theorem dX0_signBehind_9 : decode cX0_signBehind 9 = .ok (.istore_n 3, 1) := by decide +kernel
theorem dX0_signBehind_10 : decode cX0_signBehind 10 = .ok (.aload_n 0, 1) := by decide +kernel
theorem dX0_signBehind_11 : decode cX0_signBehind 11 = .ok (.iload_n 1, 1) := by decide +kernel
theorem dX0_signBehind_12 : decode cX0_signBehind 12 = .ok (.iload_n 2, 1) := by decide +kernel
theorem dX0_signBehind_13 : decode cX0_signBehind 13 = .ok (.invokevirtual 61, 3) := by decide +kernel
theorem dX0_signBehind_16 : decode cX0_signBehind 16 = .ok (.istore 4, 2) := by decide +kernel
theorem dX0_signBehind_18 : decode cX0_signBehind 18 = .ok (.iconst (-1), 1) := by decide +kernel
theorem dX0_signBehind_19 : decode cX0_signBehind 19 = .ok (.istore 5, 2) := by decide +kernel
theorem dX0_signBehind_21 : decode cX0_signBehind 21 = .ok (.aload_n 0, 1) := by decide +kernel
theorem dX0_signBehind_22 : decode cX0_signBehind 22 = .ok (.iload_n 3, 1) := by decide +kernel
theorem dX0_signBehind_23 : decode cX0_signBehind 23 = .ok (.invokevirtual 65, 3) := by decide +kernel
theorem dX0_signBehind_26 : decode cX0_signBehind 26 = .ok (.ifCond .eq 21, 3) := by decide +kernel
theorem dX0_signBehind_29 : decode cX0_signBehind 29 = .ok (.aload_n 0, 1) := by decide +kernel
theorem dX0_signBehind_30 : decode cX0_signBehind 30 = .ok (.iload_n 3, 1) := by decide +kernel
theorem dX0_signBehind_31 : decode cX0_signBehind 31 = .ok (.iconst 1, 1) := by decide +kernel
theorem dX0_signBehind_32 : decode cX0_signBehind 32 = .ok (.invokevirtual 76, 3) := by decide +kernel
theorem dX0_signBehind_35 : decode cX0_signBehind 35 = .ok (.ifCond .le 8, 3) := by decide +kernel
theorem dX0_signBehind_38 : decode cX0_signBehind 38 = .ok (.bipush 43, 2) := by decide +kernel
theorem dX0_signBehind_40 : decode cX0_signBehind 40 = .ok (.goto 5, 3) := by decide +kernel
theorem dX0_signBehind_43 : decode cX0_signBehind 43 = .ok (.bipush 35, 2) := by decide +kernel
theorem dX0_signBehind_45 : decode cX0_signBehind 45 = .ok (.istore 5, 2) := by decide +kernel
theorem dX0_signBehind_47 : decode cX0_signBehind 47 = .ok (.aload_n 0, 1) := by decide +kernel
theorem dX0_signBehind_48 : decode cX0_signBehind 48 = .ok (.iload_n 1, 1) := by decide +kernel
theorem dX0_signBehind_49 : decode cX0_signBehind 49 = .ok (.iload_n 2, 1) := by decide +kernel
theorem dX0_signBehind_50 : decode cX0_signBehind 50 = .ok (.iload 4, 2) := by decide +kernel
theorem dX0_signBehind_52 : decode cX0_signBehind 52 = .ok (.invokevirtual 68, 3) := by decide +kernel
theorem dX0_signBehind_55 : decode cX0_signBehind 55 = .ok (.iload 5, 2) := by decide +kernel
theorem dX0_signBehind_57 : decode cX0_signBehind 57 = .ok (.ireturn, 1) := by decide +kernel
theorem dX1_init_0 : decode cX1_init 0 = .ok (.aload_n 0, 1) := by decide +kernel
theorem dX1_init_1 : decode cX1_init 1 = .ok (.invokespecial 3, 3) := by decide +kernel
theorem dX1_init_4 : decode cX1_init 4 = .ok (.aload_n 0, 1) := by decide +kernel
theorem dX1_init_5 : decode cX1_init 5 = .ok (.bipush 6, 2) := by decide +kernel
theorem dX1_init_7 : decode cX1_init 7 = .ok (.newarray .int, 2) := by decide +kernel
theorem dX1_init_9 : decode cX1_init 9 = .ok (.putfield 9, 3) := by decide +kernel
theorem dX1_init_12 : decode cX1_init 12 = .ok (.aload_n 0, 1) := by decide +kernel
theorem dX1_init_13 : decode cX1_init 13 = .ok (.bipush 6, 2) := by decide +kernel
theorem dX1_init_15 : decode cX1_init 15 = .ok (.newarray .int, 2) := by decide +kernel
theorem dX1_init_17 : decode cX1_init 17 = .ok (.putfield 15, 3) := by decide +kernel
theorem dX1_init_20 : decode cX1_init 20 = .ok (.aload_n 0, 1) := by decide +kernel
theorem dX1_init_21 : decode cX1_init 21 = .ok (.bipush 48, 2) := by decide +kernel
theorem dX1_init_23 : decode cX1_init 23 = .ok (.newarray .int, 2) := by decide +kernel
theorem dX1_init_25 : decode cX1_init 25 = .ok (.putfield 18, 3) := by decide +kernel
theorem dX1_init_28 : decode cX1_init 28 = .ok (.aload_n 0, 1) := by decide +kernel
theorem dX1_init_29 : decode cX1_init 29 = .ok (.bipush 48, 2) := by decide +kernel
theorem dX1_init_31 : decode cX1_init 31 = .ok (.newarray .int, 2) := by decide +kernel
theorem dX1_init_33 : decode cX1_init 33 = .ok (.putfield 21, 3) := by decide +kernel
theorem dX1_init_36 : decode cX1_init 36 = .ok (.aload_n 0, 1) := by decide +kernel
theorem dX1_init_37 : decode cX1_init 37 = .ok (.bipush 48, 2) := by decide +kernel
theorem dX1_init_39 : decode cX1_init 39 = .ok (.newarray .int, 2) := by decide +kernel
theorem dX1_init_41 : decode cX1_init 41 = .ok (.putfield 24, 3) := by decide +kernel
theorem dX1_init_44 : decode cX1_init 44 = .ok (.aload_n 0, 1) := by decide +kernel
theorem dX1_init_45 : decode cX1_init 45 = .ok (.iconst 0, 1) := by decide +kernel
theorem dX1_init_46 : decode cX1_init 46 = .ok (.putfield 27, 3) := by decide +kernel
theorem dX1_init_49 : decode cX1_init 49 = .ok (.return_, 1) := by decide +kernel
theorem dX1_size_0 : decode cX1_size 0 = .ok (.aload_n 0, 1) := by decide +kernel
theorem dX1_size_1 : decode cX1_size 1 = .ok (.getfield 27, 3) := by decide +kernel
theorem dX1_size_4 : decode cX1_size 4 = .ok (.ireturn, 1) := by decide +kernel
theorem dX1_has_0 : decode cX1_has 0 = .ok (.iload_n 1, 1) := by decide +kernel
theorem dX1_has_1 : decode cX1_has 1 = .ok (.ifCond .lt 15, 3) := by decide +kernel
theorem dX1_has_4 : decode cX1_has 4 = .ok (.iload_n 1, 1) := by decide +kernel
theorem dX1_has_5 : decode cX1_has 5 = .ok (.aload_n 0, 1) := by decide +kernel
theorem dX1_has_6 : decode cX1_has 6 = .ok (.getfield 27, 3) := by decide +kernel
theorem dX1_has_9 : decode cX1_has 9 = .ok (.if_icmp .ge 7, 3) := by decide +kernel
theorem dX1_has_12 : decode cX1_has 12 = .ok (.iconst 1, 1) := by decide +kernel
theorem dX1_has_13 : decode cX1_has 13 = .ok (.goto 4, 3) := by decide +kernel
theorem dX1_has_16 : decode cX1_has 16 = .ok (.iconst 0, 1) := by decide +kernel
theorem dX1_has_17 : decode cX1_has 17 = .ok (.ireturn, 1) := by decide +kernel
set_option maxRecDepth 20000 in
theorem ggX1_letter_X1_has : GoodIn wsX1_letter wsX1_has := goodIn_r _ [6, 7, 8, 9, 10, 11, 12, 13] (by decide +kernel) (by decide +kernel)
set_option maxRecDepth 20000 in
theorem gX1_letter_X1_has : GoodIn wsX1_letter (wsV RX1 31 RX1 yX1_has wsX1_has) := goodIn_app (goodIn_of _ (by decide +kernel)) ggX1_letter_X1_has
theorem dX1_letter_0 : decode cX1_letter 0 = .ok (.aload_n 0, 1) := by decide +kernel
theorem dX1_letter_1 : decode cX1_letter 1 = .ok (.iload_n 1, 1) := by decide +kernel
theorem dX1_letter_2 : decode cX1_letter 2 = .ok (.invokevirtual 31, 3) := by decide +kernel
theorem dX1_letter_5 : decode cX1_letter 5 = .ok (.ifCond .eq 12, 3) := by decide +kernel
theorem dX1_letter_8 : decode cX1_letter 8 = .ok (.aload_n 0, 1) := by decide +kernel
theorem dX1_letter_9 : decode cX1_letter 9 = .ok (.getfield 9, 3) := by decide +kernel
theorem dX1_letter_12 : decode cX1_letter 12 = .ok (.iload_n 1, 1) := by decide +kernel
theorem dX1_letter_13 : decode cX1_letter 13 = .ok (.iaload, 1) := by decide +kernel
theorem dX1_letter_14 : decode cX1_letter 14 = .ok (.goto 4, 3) := by decide +kernel
theorem dX1_letter_17 : decode cX1_letter 17 = .ok (.iconst (-1), 1) := by decide +kernel
theorem dX1_letter_18 : decode cX1_letter 18 = .ok (.ireturn, 1) := by decide +kernel
set_option maxRecDepth 20000 in
theorem ggX1_stepCount_X1_has : GoodIn wsX1_stepCount wsX1_has := goodIn_r _ [6, 7, 8, 9, 10, 11, 12, 13] (by decide +kernel) (by decide +kernel)
set_option maxRecDepth 20000 in
theorem gX1_stepCount_X1_has : GoodIn wsX1_stepCount (wsV RX1 31 RX1 yX1_has wsX1_has) := goodIn_app (goodIn_of _ (by decide +kernel)) ggX1_stepCount_X1_has
theorem dX1_stepCount_0 : decode cX1_stepCount 0 = .ok (.aload_n 0, 1) := by decide +kernel
theorem dX1_stepCount_1 : decode cX1_stepCount 1 = .ok (.iload_n 1, 1) := by decide +kernel
theorem dX1_stepCount_2 : decode cX1_stepCount 2 = .ok (.invokevirtual 31, 3) := by decide +kernel
theorem dX1_stepCount_5 : decode cX1_stepCount 5 = .ok (.ifCond .eq 12, 3) := by decide +kernel
theorem dX1_stepCount_8 : decode cX1_stepCount 8 = .ok (.aload_n 0, 1) := by decide +kernel
theorem dX1_stepCount_9 : decode cX1_stepCount 9 = .ok (.getfield 15, 3) := by decide +kernel
theorem dX1_stepCount_12 : decode cX1_stepCount 12 = .ok (.iload_n 1, 1) := by decide +kernel
theorem dX1_stepCount_13 : decode cX1_stepCount 13 = .ok (.iaload, 1) := by decide +kernel
theorem dX1_stepCount_14 : decode cX1_stepCount 14 = .ok (.goto 4, 3) := by decide +kernel
theorem dX1_stepCount_17 : decode cX1_stepCount 17 = .ok (.iconst 0, 1) := by decide +kernel
theorem dX1_stepCount_18 : decode cX1_stepCount 18 = .ok (.ireturn, 1) := by decide +kernel
theorem dX1_withLetter_0 : decode cX1_withLetter 0 = .ok (.iconst 0, 1) := by decide +kernel
theorem dX1_withLetter_1 : decode cX1_withLetter 1 = .ok (.istore_n 2, 1) := by decide +kernel
theorem dX1_withLetter_2 : decode cX1_withLetter 2 = .ok (.iload_n 2, 1) := by decide +kernel
theorem dX1_withLetter_3 : decode cX1_withLetter 3 = .ok (.aload_n 0, 1) := by decide +kernel
theorem dX1_withLetter_4 : decode cX1_withLetter 4 = .ok (.getfield 27, 3) := by decide +kernel
theorem dX1_withLetter_7 : decode cX1_withLetter 7 = .ok (.if_icmp .ge 21, 3) := by decide +kernel
theorem dX1_withLetter_10 : decode cX1_withLetter 10 = .ok (.aload_n 0, 1) := by decide +kernel
theorem dX1_withLetter_11 : decode cX1_withLetter 11 = .ok (.getfield 9, 3) := by decide +kernel
theorem dX1_withLetter_14 : decode cX1_withLetter 14 = .ok (.iload_n 2, 1) := by decide +kernel
theorem dX1_withLetter_15 : decode cX1_withLetter 15 = .ok (.iaload, 1) := by decide +kernel
theorem dX1_withLetter_16 : decode cX1_withLetter 16 = .ok (.iload_n 1, 1) := by decide +kernel
theorem dX1_withLetter_17 : decode cX1_withLetter 17 = .ok (.if_icmp .ne 5, 3) := by decide +kernel
theorem dX1_withLetter_20 : decode cX1_withLetter 20 = .ok (.iload_n 2, 1) := by decide +kernel
theorem dX1_withLetter_21 : decode cX1_withLetter 21 = .ok (.ireturn, 1) := by decide +kernel
theorem dX1_withLetter_22 : decode cX1_withLetter 22 = .ok (.iinc 2 1, 3) := by decide +kernel
theorem dX1_withLetter_25 : decode cX1_withLetter 25 = .ok (.goto (-23), 3) := by decide +kernel
theorem dX1_withLetter_28 : decode cX1_withLetter 28 = .ok (.iconst (-1), 1) := by decide +kernel
theorem dX1_withLetter_29 : decode cX1_withLetter 29 = .ok (.ireturn, 1) := by decide +kernel
theorem dX1_include_0 : decode cX1_include 0 = .ok (.aload_n 0, 1) := by decide +kernel
theorem dX1_include_1 : decode cX1_include 1 = .ok (.getfield 27, 3) := by decide +kernel
theorem dX1_include_4 : decode cX1_include 4 = .ok (.aload_n 0, 1) := by decide +kernel
theorem dX1_include_5 : decode cX1_include 5 = .ok (.getfield 9, 3) := by decide +kernel
theorem dX1_include_8 : decode cX1_include 8 = .ok (.arraylength, 1) := by decide +kernel
theorem dX1_include_9 : decode cX1_include 9 = .ok (.if_icmp .lt 5, 3) := by decide +kernel
theorem dX1_include_12 : decode cX1_include 12 = .ok (.iconst (-1), 1) := by decide +kernel
theorem dX1_include_13 : decode cX1_include 13 = .ok (.ireturn, 1) := by decide +kernel
theorem dX1_include_14 : decode cX1_include 14 = .ok (.aload_n 0, 1) := by decide +kernel
theorem dX1_include_15 : decode cX1_include 15 = .ok (.getfield 9, 3) := by decide +kernel
theorem dX1_include_18 : decode cX1_include 18 = .ok (.aload_n 0, 1) := by decide +kernel
theorem dX1_include_19 : decode cX1_include 19 = .ok (.getfield 27, 3) := by decide +kernel
theorem dX1_include_22 : decode cX1_include 22 = .ok (.iload_n 1, 1) := by decide +kernel
theorem dX1_include_23 : decode cX1_include 23 = .ok (.iastore, 1) := by decide +kernel
theorem dX1_include_24 : decode cX1_include 24 = .ok (.aload_n 0, 1) := by decide +kernel
theorem dX1_include_25 : decode cX1_include 25 = .ok (.dup, 1) := by decide +kernel
theorem dX1_include_26 : decode cX1_include 26 = .ok (.getfield 27, 3) := by decide +kernel
theorem dX1_include_29 : decode cX1_include 29 = .ok (.iconst 1, 1) := by decide +kernel
theorem dX1_include_30 : decode cX1_include 30 = .ok (.iadd, 1) := by decide +kernel
theorem dX1_include_31 : decode cX1_include 31 = .ok (.putfield 27, 3) := by decide +kernel
theorem dX1_include_34 : decode cX1_include 34 = .ok (.aload_n 0, 1) := by decide +kernel
theorem dX1_include_35 : decode cX1_include 35 = .ok (.getfield 27, 3) := by decide +kernel
theorem dX1_include_38 : decode cX1_include 38 = .ok (.iconst 1, 1) := by decide +kernel
theorem dX1_include_39 : decode cX1_include 39 = .ok (.isub, 1) := by decide +kernel
theorem dX1_include_40 : decode cX1_include 40 = .ok (.ireturn, 1) := by decide +kernel
set_option maxRecDepth 20000 in
theorem ggX1_includeStep_X1_has : GoodIn wsX1_includeStep wsX1_has := goodIn_r _ [9, 10, 11, 12, 13, 14, 15, 16] (by decide +kernel) (by decide +kernel)
set_option maxRecDepth 20000 in
theorem gX1_includeStep_X1_has : GoodIn wsX1_includeStep (wsV RX1 31 RX1 yX1_has wsX1_has) := goodIn_app (goodIn_of _ (by decide +kernel)) ggX1_includeStep_X1_has
theorem dX1_includeStep_0 : decode cX1_includeStep 0 = .ok (.aload_n 0, 1) := by decide +kernel
theorem dX1_includeStep_1 : decode cX1_includeStep 1 = .ok (.iload_n 1, 1) := by decide +kernel
theorem dX1_includeStep_2 : decode cX1_includeStep 2 = .ok (.invokevirtual 31, 3) := by decide +kernel
theorem dX1_includeStep_5 : decode cX1_includeStep 5 = .ok (.ifCond .eq 14, 3) := by decide +kernel
theorem dX1_includeStep_8 : decode cX1_includeStep 8 = .ok (.aload_n 0, 1) := by decide +kernel
theorem dX1_includeStep_9 : decode cX1_includeStep 9 = .ok (.getfield 15, 3) := by decide +kernel
theorem dX1_includeStep_12 : decode cX1_includeStep 12 = .ok (.iload_n 1, 1) := by decide +kernel
theorem dX1_includeStep_13 : decode cX1_includeStep 13 = .ok (.iaload, 1) := by decide +kernel
theorem dX1_includeStep_14 : decode cX1_includeStep 14 = .ok (.bipush 8, 2) := by decide +kernel
theorem dX1_includeStep_16 : decode cX1_includeStep 16 = .ok (.if_icmp .lt 5, 3) := by decide +kernel
theorem dX1_includeStep_19 : decode cX1_includeStep 19 = .ok (.iconst (-1), 1) := by decide +kernel
theorem dX1_includeStep_20 : decode cX1_includeStep 20 = .ok (.ireturn, 1) := by decide +kernel
theorem dX1_includeStep_21 : decode cX1_includeStep 21 = .ok (.iload_n 1, 1) := by decide +kernel
theorem dX1_includeStep_22 : decode cX1_includeStep 22 = .ok (.bipush 8, 2) := by decide +kernel
theorem dX1_includeStep_24 : decode cX1_includeStep 24 = .ok (.imul, 1) := by decide +kernel
theorem dX1_includeStep_25 : decode cX1_includeStep 25 = .ok (.aload_n 0, 1) := by decide +kernel
theorem dX1_includeStep_26 : decode cX1_includeStep 26 = .ok (.getfield 15, 3) := by decide +kernel
theorem dX1_includeStep_29 : decode cX1_includeStep 29 = .ok (.iload_n 1, 1) := by decide +kernel
theorem dX1_includeStep_30 : decode cX1_includeStep 30 = .ok (.iaload, 1) := by decide +kernel
theorem dX1_includeStep_31 : decode cX1_includeStep 31 = .ok (.iadd, 1) := by decide +kernel
theorem dX1_includeStep_32 : decode cX1_includeStep 32 = .ok (.istore 5, 2) := by decide +kernel
theorem dX1_includeStep_34 : decode cX1_includeStep 34 = .ok (.aload_n 0, 1) := by decide +kernel
theorem dX1_includeStep_35 : decode cX1_includeStep 35 = .ok (.getfield 18, 3) := by decide +kernel
theorem dX1_includeStep_38 : decode cX1_includeStep 38 = .ok (.iload 5, 2) := by decide +kernel
theorem dX1_includeStep_40 : decode cX1_includeStep 40 = .ok (.iload_n 2, 1) := by decide +kernel
theorem dX1_includeStep_41 : decode cX1_includeStep 41 = .ok (.iastore, 1) := by decide +kernel
theorem dX1_includeStep_42 : decode cX1_includeStep 42 = .ok (.aload_n 0, 1) := by decide +kernel
theorem dX1_includeStep_43 : decode cX1_includeStep 43 = .ok (.getfield 21, 3) := by decide +kernel
theorem dX1_includeStep_46 : decode cX1_includeStep 46 = .ok (.iload 5, 2) := by decide +kernel
theorem dX1_includeStep_48 : decode cX1_includeStep 48 = .ok (.iload_n 3, 1) := by decide +kernel
theorem dX1_includeStep_49 : decode cX1_includeStep 49 = .ok (.iastore, 1) := by decide +kernel
theorem dX1_includeStep_50 : decode cX1_includeStep 50 = .ok (.aload_n 0, 1) := by decide +kernel
theorem dX1_includeStep_51 : decode cX1_includeStep 51 = .ok (.getfield 24, 3) := by decide +kernel
theorem dX1_includeStep_54 : decode cX1_includeStep 54 = .ok (.iload 5, 2) := by decide +kernel
theorem dX1_includeStep_56 : decode cX1_includeStep 56 = .ok (.iload 4, 2) := by decide +kernel
theorem dX1_includeStep_58 : decode cX1_includeStep 58 = .ok (.iastore, 1) := by decide +kernel
theorem dX1_includeStep_59 : decode cX1_includeStep 59 = .ok (.aload_n 0, 1) := by decide +kernel
theorem dX1_includeStep_60 : decode cX1_includeStep 60 = .ok (.getfield 15, 3) := by decide +kernel
theorem dX1_includeStep_63 : decode cX1_includeStep 63 = .ok (.iload_n 1, 1) := by decide +kernel
theorem dX1_includeStep_64 : decode cX1_includeStep 64 = .ok (.dup2, 1) := by decide +kernel
theorem dX1_includeStep_65 : decode cX1_includeStep 65 = .ok (.iaload, 1) := by decide +kernel
theorem dX1_includeStep_66 : decode cX1_includeStep 66 = .ok (.iconst 1, 1) := by decide +kernel
theorem dX1_includeStep_67 : decode cX1_includeStep 67 = .ok (.iadd, 1) := by decide +kernel
theorem dX1_includeStep_68 : decode cX1_includeStep 68 = .ok (.iastore, 1) := by decide +kernel
theorem dX1_includeStep_69 : decode cX1_includeStep 69 = .ok (.aload_n 0, 1) := by decide +kernel
theorem dX1_includeStep_70 : decode cX1_includeStep 70 = .ok (.getfield 15, 3) := by decide +kernel
theorem dX1_includeStep_73 : decode cX1_includeStep 73 = .ok (.iload_n 1, 1) := by decide +kernel
theorem dX1_includeStep_74 : decode cX1_includeStep 74 = .ok (.iaload, 1) := by decide +kernel
theorem dX1_includeStep_75 : decode cX1_includeStep 75 = .ok (.ireturn, 1) := by decide +kernel
theorem dX2_init_0 : decode cX2_init 0 = .ok (.aload_n 0, 1) := by decide +kernel
theorem dX2_init_1 : decode cX2_init 1 = .ok (.invokespecial 3, 3) := by decide +kernel
theorem dX2_init_4 : decode cX2_init 4 = .ok (.aload_n 0, 1) := by decide +kernel
theorem dX2_init_5 : decode cX2_init 5 = .ok (.iconst (-1), 1) := by decide +kernel
theorem dX2_init_6 : decode cX2_init 6 = .ok (.putfield 9, 3) := by decide +kernel
theorem dX2_init_9 : decode cX2_init 9 = .ok (.aload_n 0, 1) := by decide +kernel
theorem dX2_init_10 : decode cX2_init 10 = .ok (.iconst (-1), 1) := by decide +kernel
theorem dX2_init_11 : decode cX2_init 11 = .ok (.putfield 15, 3) := by decide +kernel
theorem dX2_init_14 : decode cX2_init 14 = .ok (.aload_n 0, 1) := by decide +kernel
theorem dX2_init_15 : decode cX2_init 15 = .ok (.iconst (-1), 1) := by decide +kernel
theorem dX2_init_16 : decode cX2_init 16 = .ok (.putfield 18, 3) := by decide +kernel
theorem dX2_init_19 : decode cX2_init 19 = .ok (.aload_n 0, 1) := by decide +kernel
theorem dX2_init_20 : decode cX2_init 20 = .ok (.iconst (-1), 1) := by decide +kernel
theorem dX2_init_21 : decode cX2_init 21 = .ok (.putfield 21, 3) := by decide +kernel
theorem dX2_init_24 : decode cX2_init 24 = .ok (.aload_n 0, 1) := by decide +kernel
theorem dX2_init_25 : decode cX2_init 25 = .ok (.iconst (-1), 1) := by decide +kernel
theorem dX2_init_26 : decode cX2_init 26 = .ok (.putfield 24, 3) := by decide +kernel
theorem dX2_init_29 : decode cX2_init 29 = .ok (.aload_n 0, 1) := by decide +kernel
theorem dX2_init_30 : decode cX2_init 30 = .ok (.iconst (-1), 1) := by decide +kernel
theorem dX2_init_31 : decode cX2_init 31 = .ok (.putfield 27, 3) := by decide +kernel
theorem dX2_init_34 : decode cX2_init 34 = .ok (.aload_n 0, 1) := by decide +kernel
theorem dX2_init_35 : decode cX2_init 35 = .ok (.iconst (-1), 1) := by decide +kernel
theorem dX2_init_36 : decode cX2_init 36 = .ok (.putfield 30, 3) := by decide +kernel
theorem dX2_init_39 : decode cX2_init 39 = .ok (.aload_n 0, 1) := by decide +kernel
theorem dX2_init_40 : decode cX2_init 40 = .ok (.iconst 0, 1) := by decide +kernel
theorem dX2_init_41 : decode cX2_init 41 = .ok (.putfield 33, 3) := by decide +kernel
theorem dX2_init_44 : decode cX2_init 44 = .ok (.return_, 1) := by decide +kernel
theorem dX2_misfit_0 : decode cX2_misfit 0 = .ok (.aload_n 0, 1) := by decide +kernel
theorem dX2_misfit_1 : decode cX2_misfit 1 = .ok (.getfield 9, 3) := by decide +kernel
theorem dX2_misfit_4 : decode cX2_misfit 4 = .ok (.ireturn, 1) := by decide +kernel
theorem dX2_letter_0 : decode cX2_letter 0 = .ok (.aload_n 0, 1) := by decide +kernel
theorem dX2_letter_1 : decode cX2_letter 1 = .ok (.getfield 15, 3) := by decide +kernel
theorem dX2_letter_4 : decode cX2_letter 4 = .ok (.ireturn, 1) := by decide +kernel
theorem dX2_to_0 : decode cX2_to 0 = .ok (.aload_n 0, 1) := by decide +kernel
theorem dX2_to_1 : decode cX2_to 1 = .ok (.getfield 27, 3) := by decide +kernel
theorem dX2_to_4 : decode cX2_to 4 = .ok (.bipush 8, 2) := by decide +kernel
theorem dX2_to_6 : decode cX2_to 6 = .ok (.imul, 1) := by decide +kernel
theorem dX2_to_7 : decode cX2_to 7 = .ok (.aload_n 0, 1) := by decide +kernel
theorem dX2_to_8 : decode cX2_to 8 = .ok (.getfield 24, 3) := by decide +kernel
theorem dX2_to_11 : decode cX2_to 11 = .ok (.iadd, 1) := by decide +kernel
theorem dX2_to_12 : decode cX2_to 12 = .ok (.ireturn, 1) := by decide +kernel
theorem dX2_sign_0 : decode cX2_sign 0 = .ok (.aload_n 0, 1) := by decide +kernel
theorem dX2_sign_1 : decode cX2_sign 1 = .ok (.getfield 30, 3) := by decide +kernel
theorem dX2_sign_4 : decode cX2_sign 4 = .ok (.ireturn, 1) := by decide +kernel
theorem dX2_captures_0 : decode cX2_captures 0 = .ok (.aload_n 0, 1) := by decide +kernel
theorem dX2_captures_1 : decode cX2_captures 1 = .ok (.getfield 33, 3) := by decide +kernel
theorem dX2_captures_4 : decode cX2_captures 4 = .ok (.ireturn, 1) := by decide +kernel
theorem dX2_allowsFrom_0 : decode cX2_allowsFrom 0 = .ok (.aload_n 0, 1) := by decide +kernel
theorem dX2_allowsFrom_1 : decode cX2_allowsFrom 1 = .ok (.getfield 18, 3) := by decide +kernel
theorem dX2_allowsFrom_4 : decode cX2_allowsFrom 4 = .ok (.iconst (-1), 1) := by decide +kernel
theorem dX2_allowsFrom_5 : decode cX2_allowsFrom 5 = .ok (.if_icmp .eq 14, 3) := by decide +kernel
theorem dX2_allowsFrom_8 : decode cX2_allowsFrom 8 = .ok (.aload_n 0, 1) := by decide +kernel
theorem dX2_allowsFrom_9 : decode cX2_allowsFrom 9 = .ok (.getfield 18, 3) := by decide +kernel
theorem dX2_allowsFrom_12 : decode cX2_allowsFrom 12 = .ok (.iload_n 1, 1) := by decide +kernel
theorem dX2_allowsFrom_13 : decode cX2_allowsFrom 13 = .ok (.bipush 8, 2) := by decide +kernel
theorem dX2_allowsFrom_15 : decode cX2_allowsFrom 15 = .ok (.irem, 1) := by decide +kernel
theorem dX2_allowsFrom_16 : decode cX2_allowsFrom 16 = .ok (.if_icmp .ne 26, 3) := by decide +kernel
theorem dX2_allowsFrom_19 : decode cX2_allowsFrom 19 = .ok (.aload_n 0, 1) := by decide +kernel
theorem dX2_allowsFrom_20 : decode cX2_allowsFrom 20 = .ok (.getfield 21, 3) := by decide +kernel
theorem dX2_allowsFrom_23 : decode cX2_allowsFrom 23 = .ok (.iconst (-1), 1) := by decide +kernel
theorem dX2_allowsFrom_24 : decode cX2_allowsFrom 24 = .ok (.if_icmp .eq 14, 3) := by decide +kernel
theorem dX2_allowsFrom_27 : decode cX2_allowsFrom 27 = .ok (.aload_n 0, 1) := by decide +kernel
theorem dX2_allowsFrom_28 : decode cX2_allowsFrom 28 = .ok (.getfield 21, 3) := by decide +kernel
theorem dX2_allowsFrom_31 : decode cX2_allowsFrom 31 = .ok (.iload_n 1, 1) := by decide +kernel
theorem dX2_allowsFrom_32 : decode cX2_allowsFrom 32 = .ok (.bipush 8, 2) := by decide +kernel
theorem dX2_allowsFrom_34 : decode cX2_allowsFrom 34 = .ok (.idiv, 1) := by decide +kernel
theorem dX2_allowsFrom_35 : decode cX2_allowsFrom 35 = .ok (.if_icmp .ne 7, 3) := by decide +kernel
theorem dX2_allowsFrom_38 : decode cX2_allowsFrom 38 = .ok (.iconst 1, 1) := by decide +kernel
theorem dX2_allowsFrom_39 : decode cX2_allowsFrom 39 = .ok (.goto 4, 3) := by decide +kernel
theorem dX2_allowsFrom_42 : decode cX2_allowsFrom 42 = .ok (.iconst 0, 1) := by decide +kernel
theorem dX2_allowsFrom_43 : decode cX2_allowsFrom 43 = .ok (.ireturn, 1) := by decide +kernel
set_option maxRecDepth 20000 in
theorem ggX2_fits_X2_forget : GoodIn wsX2_fits wsX2_forget := goodIn_r _ [6, 1, 7, 8, 9, 10, 11, 12, 13, 40, 41, 42, 43, 44, 45, 46, 47] (by decide +kernel) (by decide +kernel)
set_option maxRecDepth 20000 in
theorem gX2_fits_X2_forget : GoodIn wsX2_fits (wsV RX2 37 RX2 yX2_forget wsX2_forget) := goodIn_app (goodIn_of _ (by decide +kernel)) ggX2_fits_X2_forget
set_option maxRecDepth 20000 in
theorem ggX2_fits_X3_get : GoodIn wsX2_fits wsX3_get := goodIn_r _ [18, 19, 20, 48, 49, 50] (by decide +kernel) (by decide +kernel)
set_option maxRecDepth 20000 in
theorem gX2_fits_X3_get : GoodIn wsX2_fits (wsV RX2 40 RX3 yX3_get wsX3_get) := goodIn_app (goodIn_of _ (by decide +kernel)) ggX2_fits_X3_get
set_option maxRecDepth 20000 in
theorem ggX2_fits_X2_stateBehind : GoodIn wsX2_fits wsX2_stateBehind := goodIn_r _ [23, 24, 25, 5, 26, 27, 28, 29, 30, 31, 32, 33, 34, 35] (by decide +kernel) (by decide +kernel)
set_option maxRecDepth 20000 in
theorem gX2_fits_X2_stateBehind : GoodIn wsX2_fits (va_wsS RX2 46 yX2_stateBehind wsX2_stateBehind) := goodIn_app (goodIn_of _ (by decide +kernel)) ggX2_fits_X2_stateBehind
set_option maxRecDepth 20000 in
theorem ggX2_fits_X2_keep : GoodIn wsX2_fits wsX2_keep := goodIn_r _ [39, 10, 8, 11, 9, 12, 13, 7, 24, 25, 5, 26, 27, 28, 29, 33, 34, 35, 40, 41, 42, 43, 44, 45, 46, 47] (by decide +kernel) (by decide +kernel)
set_option maxRecDepth 20000 in
theorem gX2_fits_X2_keep : GoodIn wsX2_fits (wsV RX2 50 RX2 yX2_keep wsX2_keep) := goodIn_app (goodIn_of _ (by decide +kernel)) ggX2_fits_X2_keep
theorem dX2_fits_0 : decode cX2_fits 0 = .ok (.aload_n 0, 1) := by decide +kernel
theorem dX2_fits_1 : decode cX2_fits 1 = .ok (.invokevirtual 37, 3) := by decide +kernel
theorem dX2_fits_4 : decode cX2_fits 4 = .ok (.iconst 0, 1) := by decide +kernel
theorem dX2_fits_5 : decode cX2_fits 5 = .ok (.istore 4, 2) := by decide +kernel
theorem dX2_fits_7 : decode cX2_fits 7 = .ok (.iload_n 2, 1) := by decide +kernel
theorem dX2_fits_8 : decode cX2_fits 8 = .ok (.istore 5, 2) := by decide +kernel
theorem dX2_fits_10 : decode cX2_fits 10 = .ok (.iload 5, 2) := by decide +kernel
theorem dX2_fits_12 : decode cX2_fits 12 = .ok (.iload_n 3, 1) := by decide +kernel
theorem dX2_fits_13 : decode cX2_fits 13 = .ok (.if_icmp .ge 55, 3) := by decide +kernel
theorem dX2_fits_16 : decode cX2_fits 16 = .ok (.aload_n 0, 1) := by decide +kernel
theorem dX2_fits_17 : decode cX2_fits 17 = .ok (.getfield 9, 3) := by decide +kernel
theorem dX2_fits_20 : decode cX2_fits 20 = .ok (.iconst (-1), 1) := by decide +kernel
theorem dX2_fits_21 : decode cX2_fits 21 = .ok (.if_icmp .ne 47, 3) := by decide +kernel
theorem dX2_fits_24 : decode cX2_fits 24 = .ok (.iload 4, 2) := by decide +kernel
theorem dX2_fits_26 : decode cX2_fits 26 = .ok (.aload_n 1, 1) := by decide +kernel
theorem dX2_fits_27 : decode cX2_fits 27 = .ok (.iload 5, 2) := by decide +kernel
theorem dX2_fits_29 : decode cX2_fits 29 = .ok (.invokevirtual 40, 3) := by decide +kernel
theorem dX2_fits_32 : decode cX2_fits 32 = .ok (.invokestatic 46, 3) := by decide +kernel
theorem dX2_fits_35 : decode cX2_fits 35 = .ok (.istore 4, 2) := by decide +kernel
theorem dX2_fits_37 : decode cX2_fits 37 = .ok (.iload 4, 2) := by decide +kernel
theorem dX2_fits_39 : decode cX2_fits 39 = .ok (.iconst (-1), 1) := by decide +kernel
theorem dX2_fits_40 : decode cX2_fits 40 = .ok (.if_icmp .ne 12, 3) := by decide +kernel
theorem dX2_fits_43 : decode cX2_fits 43 = .ok (.aload_n 0, 1) := by decide +kernel
theorem dX2_fits_44 : decode cX2_fits 44 = .ok (.iload 5, 2) := by decide +kernel
theorem dX2_fits_46 : decode cX2_fits 46 = .ok (.putfield 9, 3) := by decide +kernel
theorem dX2_fits_49 : decode cX2_fits 49 = .ok (.goto 13, 3) := by decide +kernel
theorem dX2_fits_52 : decode cX2_fits 52 = .ok (.aload_n 0, 1) := by decide +kernel
theorem dX2_fits_53 : decode cX2_fits 53 = .ok (.aload_n 1, 1) := by decide +kernel
theorem dX2_fits_54 : decode cX2_fits 54 = .ok (.iload 5, 2) := by decide +kernel
theorem dX2_fits_56 : decode cX2_fits 56 = .ok (.invokevirtual 40, 3) := by decide +kernel
theorem dX2_fits_59 : decode cX2_fits 59 = .ok (.invokevirtual 50, 3) := by decide +kernel
theorem dX2_fits_62 : decode cX2_fits 62 = .ok (.iinc 5 1, 3) := by decide +kernel
theorem dX2_fits_65 : decode cX2_fits 65 = .ok (.goto (-55), 3) := by decide +kernel
theorem dX2_fits_68 : decode cX2_fits 68 = .ok (.aload_n 0, 1) := by decide +kernel
theorem dX2_fits_69 : decode cX2_fits 69 = .ok (.getfield 9, 3) := by decide +kernel
theorem dX2_fits_72 : decode cX2_fits 72 = .ok (.iconst (-1), 1) := by decide +kernel
theorem dX2_fits_73 : decode cX2_fits 73 = .ok (.if_icmp .ne 28, 3) := by decide +kernel
theorem dX2_fits_76 : decode cX2_fits 76 = .ok (.iload 4, 2) := by decide +kernel
theorem dX2_fits_78 : decode cX2_fits 78 = .ok (.iconst 4, 1) := by decide +kernel
theorem dX2_fits_79 : decode cX2_fits 79 = .ok (.if_icmp .eq 22, 3) := by decide +kernel
theorem dX2_fits_82 : decode cX2_fits 82 = .ok (.iload 4, 2) := by decide +kernel
theorem dX2_fits_84 : decode cX2_fits 84 = .ok (.bipush 7, 2) := by decide +kernel
theorem dX2_fits_86 : decode cX2_fits 86 = .ok (.if_icmp .eq 15, 3) := by decide +kernel
theorem dX2_fits_89 : decode cX2_fits 89 = .ok (.iload 4, 2) := by decide +kernel
theorem dX2_fits_91 : decode cX2_fits 91 = .ok (.bipush 8, 2) := by decide +kernel
theorem dX2_fits_93 : decode cX2_fits 93 = .ok (.if_icmp .eq 8, 3) := by decide +kernel
theorem dX2_fits_96 : decode cX2_fits 96 = .ok (.aload_n 0, 1) := by decide +kernel
theorem dX2_fits_97 : decode cX2_fits 97 = .ok (.iload_n 3, 1) := by decide +kernel
theorem dX2_fits_98 : decode cX2_fits 98 = .ok (.putfield 9, 3) := by decide +kernel
theorem dX2_fits_101 : decode cX2_fits 101 = .ok (.aload_n 0, 1) := by decide +kernel
theorem dX2_fits_102 : decode cX2_fits 102 = .ok (.getfield 9, 3) := by decide +kernel
theorem dX2_fits_105 : decode cX2_fits 105 = .ok (.iconst (-1), 1) := by decide +kernel
theorem dX2_fits_106 : decode cX2_fits 106 = .ok (.if_icmp .ne 7, 3) := by decide +kernel
theorem dX2_fits_109 : decode cX2_fits 109 = .ok (.iconst 1, 1) := by decide +kernel
theorem dX2_fits_110 : decode cX2_fits 110 = .ok (.goto 4, 3) := by decide +kernel
theorem dX2_fits_113 : decode cX2_fits 113 = .ok (.iconst 0, 1) := by decide +kernel
theorem dX2_fits_114 : decode cX2_fits 114 = .ok (.ireturn, 1) := by decide +kernel
theorem dX2_forget_0 : decode cX2_forget 0 = .ok (.aload_n 0, 1) := by decide +kernel
theorem dX2_forget_1 : decode cX2_forget 1 = .ok (.iconst (-1), 1) := by decide +kernel
theorem dX2_forget_2 : decode cX2_forget 2 = .ok (.putfield 9, 3) := by decide +kernel
theorem dX2_forget_5 : decode cX2_forget 5 = .ok (.aload_n 0, 1) := by decide +kernel
theorem dX2_forget_6 : decode cX2_forget 6 = .ok (.iconst (-1), 1) := by decide +kernel
theorem dX2_forget_7 : decode cX2_forget 7 = .ok (.putfield 15, 3) := by decide +kernel
theorem dX2_forget_10 : decode cX2_forget 10 = .ok (.aload_n 0, 1) := by decide +kernel
theorem dX2_forget_11 : decode cX2_forget 11 = .ok (.iconst (-1), 1) := by decide +kernel
theorem dX2_forget_12 : decode cX2_forget 12 = .ok (.putfield 18, 3) := by decide +kernel
theorem dX2_forget_15 : decode cX2_forget 15 = .ok (.aload_n 0, 1) := by decide +kernel
theorem dX2_forget_16 : decode cX2_forget 16 = .ok (.iconst (-1), 1) := by decide +kernel
theorem dX2_forget_17 : decode cX2_forget 17 = .ok (.putfield 21, 3) := by decide +kernel
theorem dX2_forget_20 : decode cX2_forget 20 = .ok (.aload_n 0, 1) := by decide +kernel
theorem dX2_forget_21 : decode cX2_forget 21 = .ok (.iconst (-1), 1) := by decide +kernel
theorem dX2_forget_22 : decode cX2_forget 22 = .ok (.putfield 24, 3) := by decide +kernel
theorem dX2_forget_25 : decode cX2_forget 25 = .ok (.aload_n 0, 1) := by decide +kernel
theorem dX2_forget_26 : decode cX2_forget 26 = .ok (.iconst (-1), 1) := by decide +kernel
theorem dX2_forget_27 : decode cX2_forget 27 = .ok (.putfield 27, 3) := by decide +kernel
theorem dX2_forget_30 : decode cX2_forget 30 = .ok (.aload_n 0, 1) := by decide +kernel
theorem dX2_forget_31 : decode cX2_forget 31 = .ok (.iconst (-1), 1) := by decide +kernel
theorem dX2_forget_32 : decode cX2_forget 32 = .ok (.putfield 30, 3) := by decide +kernel
theorem dX2_forget_35 : decode cX2_forget 35 = .ok (.aload_n 0, 1) := by decide +kernel
theorem dX2_forget_36 : decode cX2_forget 36 = .ok (.iconst 0, 1) := by decide +kernel
theorem dX2_forget_37 : decode cX2_forget 37 = .ok (.putfield 33, 3) := by decide +kernel
theorem dX2_forget_40 : decode cX2_forget 40 = .ok (.return_, 1) := by decide +kernel
set_option maxRecDepth 20000 in
theorem ggX2_keep_X2_isFile : GoodIn wsX2_keep wsX2_isFile := goodIn_r _ [11] (by decide +kernel) (by decide +kernel)
set_option maxRecDepth 20000 in
theorem gX2_keep_X2_isFile : GoodIn wsX2_keep (va_wsS RX2 54 yX2_isFile wsX2_isFile) := goodIn_app (goodIn_of _ (by decide +kernel)) ggX2_keep_X2_isFile
set_option maxRecDepth 20000 in
theorem ggX2_keep_X2_isRank : GoodIn wsX2_keep wsX2_isRank := goodIn_r _ [14] (by decide +kernel) (by decide +kernel)
set_option maxRecDepth 20000 in
theorem gX2_keep_X2_isRank : GoodIn wsX2_keep (va_wsS RX2 58 yX2_isRank wsX2_isRank) := goodIn_app (goodIn_of _ (by decide +kernel)) ggX2_keep_X2_isRank
set_option maxRecDepth 20000 in
theorem ggX2_keep_X2_isSign : GoodIn wsX2_keep wsX2_isSign := goodIn_r _ [17] (by decide +kernel) (by decide +kernel)
set_option maxRecDepth 20000 in
theorem gX2_keep_X2_isSign : GoodIn wsX2_keep (va_wsS RX2 61 yX2_isSign wsX2_isSign) := goodIn_app (goodIn_of _ (by decide +kernel)) ggX2_keep_X2_isSign
theorem dX2_keep_0 : decode cX2_keep 0 = .ok (.iload_n 1, 1) := by decide +kernel
theorem dX2_keep_1 : decode cX2_keep 1 = .ok (.invokestatic 54, 3) := by decide +kernel
theorem dX2_keep_4 : decode cX2_keep 4 = .ok (.ifCond .eq 22, 3) := by decide +kernel
theorem dX2_keep_7 : decode cX2_keep 7 = .ok (.aload_n 0, 1) := by decide +kernel
theorem dX2_keep_8 : decode cX2_keep 8 = .ok (.aload_n 0, 1) := by decide +kernel
theorem dX2_keep_9 : decode cX2_keep 9 = .ok (.getfield 24, 3) := by decide +kernel
theorem dX2_keep_12 : decode cX2_keep 12 = .ok (.putfield 18, 3) := by decide +kernel
theorem dX2_keep_15 : decode cX2_keep 15 = .ok (.aload_n 0, 1) := by decide +kernel
theorem dX2_keep_16 : decode cX2_keep 16 = .ok (.iload_n 1, 1) := by decide +kernel
theorem dX2_keep_17 : decode cX2_keep 17 = .ok (.bipush 97, 2) := by decide +kernel
theorem dX2_keep_19 : decode cX2_keep 19 = .ok (.isub, 1) := by decide +kernel
theorem dX2_keep_20 : decode cX2_keep 20 = .ok (.putfield 24, 3) := by decide +kernel
theorem dX2_keep_23 : decode cX2_keep 23 = .ok (.goto 63, 3) := by decide +kernel
theorem dX2_keep_26 : decode cX2_keep 26 = .ok (.iload_n 1, 1) := by decide +kernel
theorem dX2_keep_27 : decode cX2_keep 27 = .ok (.invokestatic 58, 3) := by decide +kernel
theorem dX2_keep_30 : decode cX2_keep 30 = .ok (.ifCond .eq 22, 3) := by decide +kernel
theorem dX2_keep_33 : decode cX2_keep 33 = .ok (.aload_n 0, 1) := by decide +kernel
theorem dX2_keep_34 : decode cX2_keep 34 = .ok (.aload_n 0, 1) := by decide +kernel
theorem dX2_keep_35 : decode cX2_keep 35 = .ok (.getfield 27, 3) := by decide +kernel
theorem dX2_keep_38 : decode cX2_keep 38 = .ok (.putfield 21, 3) := by decide +kernel
theorem dX2_keep_41 : decode cX2_keep 41 = .ok (.aload_n 0, 1) := by decide +kernel
theorem dX2_keep_42 : decode cX2_keep 42 = .ok (.iload_n 1, 1) := by decide +kernel
theorem dX2_keep_43 : decode cX2_keep 43 = .ok (.bipush 49, 2) := by decide +kernel
theorem dX2_keep_45 : decode cX2_keep 45 = .ok (.isub, 1) := by decide +kernel
theorem dX2_keep_46 : decode cX2_keep 46 = .ok (.putfield 27, 3) := by decide +kernel
theorem dX2_keep_49 : decode cX2_keep 49 = .ok (.goto 37, 3) := by decide +kernel
theorem dX2_keep_52 : decode cX2_keep 52 = .ok (.iload_n 1, 1) := by decide +kernel
theorem dX2_keep_53 : decode cX2_keep 53 = .ok (.invokestatic 61, 3) := by decide +kernel
theorem dX2_keep_56 : decode cX2_keep 56 = .ok (.ifCond .eq 11, 3) := by decide +kernel
theorem dX2_keep_59 : decode cX2_keep 59 = .ok (.aload_n 0, 1) := by decide +kernel
theorem dX2_keep_60 : decode cX2_keep 60 = .ok (.iload_n 1, 1) := by decide +kernel
theorem dX2_keep_61 : decode cX2_keep 61 = .ok (.putfield 30, 3) := by decide +kernel
theorem dX2_keep_64 : decode cX2_keep 64 = .ok (.goto 22, 3) := by decide +kernel
theorem dX2_keep_67 : decode cX2_keep 67 = .ok (.iload_n 1, 1) := by decide +kernel
theorem dX2_keep_68 : decode cX2_keep 68 = .ok (.bipush 120, 2) := by decide +kernel
theorem dX2_keep_70 : decode cX2_keep 70 = .ok (.if_icmp .ne 11, 3) := by decide +kernel
theorem dX2_keep_73 : decode cX2_keep 73 = .ok (.aload_n 0, 1) := by decide +kernel
theorem dX2_keep_74 : decode cX2_keep 74 = .ok (.iconst 1, 1) := by decide +kernel
theorem dX2_keep_75 : decode cX2_keep 75 = .ok (.putfield 33, 3) := by decide +kernel
theorem dX2_keep_78 : decode cX2_keep 78 = .ok (.goto 8, 3) := by decide +kernel
theorem dX2_keep_81 : decode cX2_keep 81 = .ok (.aload_n 0, 1) := by decide +kernel
theorem dX2_keep_82 : decode cX2_keep 82 = .ok (.iload_n 1, 1) := by decide +kernel
theorem dX2_keep_83 : decode cX2_keep 83 = .ok (.putfield 15, 3) := by decide +kernel
theorem dX2_keep_86 : decode cX2_keep 86 = .ok (.return_, 1) := by decide +kernel
set_option maxRecDepth 20000 in
theorem ggX2_stateBehind_X2_isFile : GoodIn wsX2_stateBehind wsX2_isFile := goodIn_r _ [4] (by decide +kernel) (by decide +kernel)
set_option maxRecDepth 20000 in
theorem gX2_stateBehind_X2_isFile : GoodIn wsX2_stateBehind (va_wsS RX2 54 yX2_isFile wsX2_isFile) := goodIn_app (goodIn_of _ (by decide +kernel)) ggX2_stateBehind_X2_isFile
set_option maxRecDepth 20000 in
theorem ggX2_stateBehind_X2_isRank : GoodIn wsX2_stateBehind wsX2_isRank := goodIn_r _ [7] (by decide +kernel) (by decide +kernel)
set_option maxRecDepth 20000 in
theorem gX2_stateBehind_X2_isRank : GoodIn wsX2_stateBehind (va_wsS RX2 58 yX2_isRank wsX2_isRank) := goodIn_app (goodIn_of _ (by decide +kernel)) ggX2_stateBehind_X2_isRank
set_option maxRecDepth 20000 in
theorem ggX2_stateBehind_X2_stateBehindOrigin : GoodIn wsX2_stateBehind wsX2_stateBehindOrigin := goodIn_r _ [10, 1, 2, 3, 4] (by decide +kernel) (by decide +kernel)
set_option maxRecDepth 20000 in
theorem gX2_stateBehind_X2_stateBehindOrigin : GoodIn wsX2_stateBehind (va_wsS RX2 64 yX2_stateBehindOrigin wsX2_stateBehindOrigin) := goodIn_app (goodIn_of _ (by decide +kernel)) ggX2_stateBehind_X2_stateBehindOrigin
set_option maxRecDepth 20000 in
theorem ggX2_stateBehind_X2_isSign : GoodIn wsX2_stateBehind wsX2_isSign := goodIn_r _ [13] (by decide +kernel) (by decide +kernel)
set_option maxRecDepth 20000 in
theorem gX2_stateBehind_X2_isSign : GoodIn wsX2_stateBehind (va_wsS RX2 61 yX2_isSign wsX2_isSign) := goodIn_app (goodIn_of _ (by decide +kernel)) ggX2_stateBehind_X2_isSign
theorem dX2_stateBehind_0 : decode cX2_stateBehind 0 = .ok (.iload_n 0, 1) := by decide +kernel
theorem dX2_stateBehind_1 : decode cX2_stateBehind 1 = .ok (.tableswitch 179 0 7 #[47, 65, 99, 115, 120, 137, 151, 165], 47) := by decide +kernel
theorem dX2_stateBehind_48 : decode cX2_stateBehind 48 = .ok (.iload_n 1, 1) := by decide +kernel
theorem dX2_stateBehind_49 : decode cX2_stateBehind 49 = .ok (.bipush 65, 2) := by decide +kernel
theorem dX2_stateBehind_51 : decode cX2_stateBehind 51 = .ok (.if_icmp .lt 13, 3) := by decide +kernel
theorem dX2_stateBehind_54 : decode cX2_stateBehind 54 = .ok (.iload_n 1, 1) := by decide +kernel
theorem dX2_stateBehind_55 : decode cX2_stateBehind 55 = .ok (.bipush 90, 2) := by decide +kernel
theorem dX2_stateBehind_57 : decode cX2_stateBehind 57 = .ok (.if_icmp .gt 7, 3) := by decide +kernel
theorem dX2_stateBehind_60 : decode cX2_stateBehind 60 = .ok (.iconst 1, 1) := by decide +kernel
theorem dX2_stateBehind_61 : decode cX2_stateBehind 61 = .ok (.goto 4, 3) := by decide +kernel
theorem dX2_stateBehind_64 : decode cX2_stateBehind 64 = .ok (.iconst (-1), 1) := by decide +kernel
theorem dX2_stateBehind_65 : decode cX2_stateBehind 65 = .ok (.ireturn, 1) := by decide +kernel
theorem dX2_stateBehind_66 : decode cX2_stateBehind 66 = .ok (.iload_n 1, 1) := by decide +kernel
theorem dX2_stateBehind_67 : decode cX2_stateBehind 67 = .ok (.invokestatic 54, 3) := by decide +kernel
theorem dX2_stateBehind_70 : decode cX2_stateBehind 70 = .ok (.ifCond .eq 7, 3) := by decide +kernel
theorem dX2_stateBehind_73 : decode cX2_stateBehind 73 = .ok (.iconst 2, 1) := by decide +kernel
theorem dX2_stateBehind_74 : decode cX2_stateBehind 74 = .ok (.goto 25, 3) := by decide +kernel
theorem dX2_stateBehind_77 : decode cX2_stateBehind 77 = .ok (.iload_n 1, 1) := by decide +kernel
theorem dX2_stateBehind_78 : decode cX2_stateBehind 78 = .ok (.invokestatic 58, 3) := by decide +kernel
theorem dX2_stateBehind_81 : decode cX2_stateBehind 81 = .ok (.ifCond .eq 7, 3) := by decide +kernel
theorem dX2_stateBehind_84 : decode cX2_stateBehind 84 = .ok (.iconst 3, 1) := by decide +kernel
theorem dX2_stateBehind_85 : decode cX2_stateBehind 85 = .ok (.goto 14, 3) := by decide +kernel
theorem dX2_stateBehind_88 : decode cX2_stateBehind 88 = .ok (.iload_n 1, 1) := by decide +kernel
theorem dX2_stateBehind_89 : decode cX2_stateBehind 89 = .ok (.bipush 120, 2) := by decide +kernel
theorem dX2_stateBehind_91 : decode cX2_stateBehind 91 = .ok (.if_icmp .ne 7, 3) := by decide +kernel
theorem dX2_stateBehind_94 : decode cX2_stateBehind 94 = .ok (.iconst 5, 1) := by decide +kernel
theorem dX2_stateBehind_95 : decode cX2_stateBehind 95 = .ok (.goto 4, 3) := by decide +kernel
theorem dX2_stateBehind_98 : decode cX2_stateBehind 98 = .ok (.iconst (-1), 1) := by decide +kernel
theorem dX2_stateBehind_99 : decode cX2_stateBehind 99 = .ok (.ireturn, 1) := by decide +kernel
theorem dX2_stateBehind_100 : decode cX2_stateBehind 100 = .ok (.iload_n 1, 1) := by decide +kernel
theorem dX2_stateBehind_101 : decode cX2_stateBehind 101 = .ok (.invokestatic 58, 3) := by decide +kernel
theorem dX2_stateBehind_104 : decode cX2_stateBehind 104 = .ok (.ifCond .eq 7, 3) := by decide +kernel
theorem dX2_stateBehind_107 : decode cX2_stateBehind 107 = .ok (.iconst 4, 1) := by decide +kernel
theorem dX2_stateBehind_108 : decode cX2_stateBehind 108 = .ok (.goto 7, 3) := by decide +kernel
theorem dX2_stateBehind_111 : decode cX2_stateBehind 111 = .ok (.iload_n 1, 1) := by decide +kernel
theorem dX2_stateBehind_112 : decode cX2_stateBehind 112 = .ok (.invokestatic 64, 3) := by decide +kernel
theorem dX2_stateBehind_115 : decode cX2_stateBehind 115 = .ok (.ireturn, 1) := by decide +kernel
theorem dX2_stateBehind_116 : decode cX2_stateBehind 116 = .ok (.iload_n 1, 1) := by decide +kernel
theorem dX2_stateBehind_117 : decode cX2_stateBehind 117 = .ok (.invokestatic 64, 3) := by decide +kernel
theorem dX2_stateBehind_120 : decode cX2_stateBehind 120 = .ok (.ireturn, 1) := by decide +kernel
theorem dX2_stateBehind_121 : decode cX2_stateBehind 121 = .ok (.iload_n 1, 1) := by decide +kernel
theorem dX2_stateBehind_122 : decode cX2_stateBehind 122 = .ok (.invokestatic 61, 3) := by decide +kernel
theorem dX2_stateBehind_125 : decode cX2_stateBehind 125 = .ok (.ifCond .eq 8, 3) := by decide +kernel
theorem dX2_stateBehind_128 : decode cX2_stateBehind 128 = .ok (.bipush 8, 2) := by decide +kernel
theorem dX2_stateBehind_130 : decode cX2_stateBehind 130 = .ok (.goto 7, 3) := by decide +kernel
theorem dX2_stateBehind_133 : decode cX2_stateBehind 133 = .ok (.iload_n 1, 1) := by decide +kernel
theorem dX2_stateBehind_134 : decode cX2_stateBehind 134 = .ok (.invokestatic 64, 3) := by decide +kernel
theorem dX2_stateBehind_137 : decode cX2_stateBehind 137 = .ok (.ireturn, 1) := by decide +kernel
theorem dX2_stateBehind_138 : decode cX2_stateBehind 138 = .ok (.iload_n 1, 1) := by decide +kernel
theorem dX2_stateBehind_139 : decode cX2_stateBehind 139 = .ok (.invokestatic 54, 3) := by decide +kernel
theorem dX2_stateBehind_142 : decode cX2_stateBehind 142 = .ok (.ifCond .eq 8, 3) := by decide +kernel
theorem dX2_stateBehind_145 : decode cX2_stateBehind 145 = .ok (.bipush 6, 2) := by decide +kernel
theorem dX2_stateBehind_147 : decode cX2_stateBehind 147 = .ok (.goto 4, 3) := by decide +kernel
theorem dX2_stateBehind_150 : decode cX2_stateBehind 150 = .ok (.iconst (-1), 1) := by decide +kernel
theorem dX2_stateBehind_151 : decode cX2_stateBehind 151 = .ok (.ireturn, 1) := by decide +kernel
theorem dX2_stateBehind_152 : decode cX2_stateBehind 152 = .ok (.iload_n 1, 1) := by decide +kernel
theorem dX2_stateBehind_153 : decode cX2_stateBehind 153 = .ok (.invokestatic 58, 3) := by decide +kernel
theorem dX2_stateBehind_156 : decode cX2_stateBehind 156 = .ok (.ifCond .eq 8, 3) := by decide +kernel
theorem dX2_stateBehind_159 : decode cX2_stateBehind 159 = .ok (.bipush 7, 2) := by decide +kernel
theorem dX2_stateBehind_161 : decode cX2_stateBehind 161 = .ok (.goto 4, 3) := by decide +kernel
theorem dX2_stateBehind_164 : decode cX2_stateBehind 164 = .ok (.iconst (-1), 1) := by decide +kernel
theorem dX2_stateBehind_165 : decode cX2_stateBehind 165 = .ok (.ireturn, 1) := by decide +kernel
theorem dX2_stateBehind_166 : decode cX2_stateBehind 166 = .ok (.iload_n 1, 1) := by decide +kernel
theorem dX2_stateBehind_167 : decode cX2_stateBehind 167 = .ok (.invokestatic 61, 3) := by decide +kernel
theorem dX2_stateBehind_170 : decode cX2_stateBehind 170 = .ok (.ifCond .eq 8, 3) := by decide +kernel
theorem dX2_stateBehind_173 : decode cX2_stateBehind 173 = .ok (.bipush 8, 2) := by decide +kernel
theorem dX2_stateBehind_175 : decode cX2_stateBehind 175 = .ok (.goto 4, 3) := by decide +kernel
theorem dX2_stateBehind_178 : decode cX2_stateBehind 178 = .ok (.iconst (-1), 1) := by decide +kernel
theorem dX2_stateBehind_179 : decode cX2_stateBehind 179 = .ok (.ireturn, 1) := by decide +kernel
theorem dX2_stateBehind_180 : decode cX2_stateBehind 180 = .ok (.iconst (-1), 1) := by decide +kernel
theorem dX2_stateBehind_181 : decode cX2_stateBehind 181 = .ok (.ireturn, 1) := by decide +kernel
set_option maxRecDepth 20000 in
theorem ggX2_stateBehindOrigin_X2_isFile : GoodIn wsX2_stateBehindOrigin wsX2_isFile := goodIn_r _ [4] (by decide +kernel) (by decide +kernel)
set_option maxRecDepth 20000 in
theorem gX2_stateBehindOrigin_X2_isFile : GoodIn wsX2_stateBehindOrigin (va_wsS RX2 54 yX2_isFile wsX2_isFile) := goodIn_app (goodIn_of _ (by decide +kernel)) ggX2_stateBehindOrigin_X2_isFile
theorem dX2_stateBehindOrigin_0 : decode cX2_stateBehindOrigin 0 = .ok (.iload_n 0, 1) := by decide +kernel
theorem dX2_stateBehindOrigin_1 : decode cX2_stateBehindOrigin 1 = .ok (.invokestatic 54, 3) := by decide +kernel
theorem dX2_stateBehindOrigin_4 : decode cX2_stateBehindOrigin 4 = .ok (.ifCond .eq 8, 3) := by decide +kernel
theorem dX2_stateBehindOrigin_7 : decode cX2_stateBehindOrigin 7 = .ok (.bipush 6, 2) := by decide +kernel
theorem dX2_stateBehindOrigin_9 : decode cX2_stateBehindOrigin 9 = .ok (.goto 14, 3) := by decide +kernel
theorem dX2_stateBehindOrigin_12 : decode cX2_stateBehindOrigin 12 = .ok (.iload_n 0, 1) := by decide +kernel
theorem dX2_stateBehindOrigin_13 : decode cX2_stateBehindOrigin 13 = .ok (.bipush 120, 2) := by decide +kernel
theorem dX2_stateBehindOrigin_15 : decode cX2_stateBehindOrigin 15 = .ok (.if_icmp .ne 7, 3) := by decide +kernel
theorem dX2_stateBehindOrigin_18 : decode cX2_stateBehindOrigin 18 = .ok (.iconst 5, 1) := by decide +kernel
theorem dX2_stateBehindOrigin_19 : decode cX2_stateBehindOrigin 19 = .ok (.goto 4, 3) := by decide +kernel
theorem dX2_stateBehindOrigin_22 : decode cX2_stateBehindOrigin 22 = .ok (.iconst (-1), 1) := by decide +kernel
theorem dX2_stateBehindOrigin_23 : decode cX2_stateBehindOrigin 23 = .ok (.ireturn, 1) := by decide +kernel
theorem dX2_isFile_0 : decode cX2_isFile 0 = .ok (.iload_n 0, 1) := by decide +kernel
theorem dX2_isFile_1 : decode cX2_isFile 1 = .ok (.bipush 97, 2) := by decide +kernel
theorem dX2_isFile_3 : decode cX2_isFile 3 = .ok (.if_icmp .lt 13, 3) := by decide +kernel
theorem dX2_isFile_6 : decode cX2_isFile 6 = .ok (.iload_n 0, 1) := by decide +kernel
theorem dX2_isFile_7 : decode cX2_isFile 7 = .ok (.bipush 105, 2) := by decide +kernel
theorem dX2_isFile_9 : decode cX2_isFile 9 = .ok (.if_icmp .ge 7, 3) := by decide +kernel
theorem dX2_isFile_12 : decode cX2_isFile 12 = .ok (.iconst 1, 1) := by decide +kernel
theorem dX2_isFile_13 : decode cX2_isFile 13 = .ok (.goto 4, 3) := by decide +kernel
theorem dX2_isFile_16 : decode cX2_isFile 16 = .ok (.iconst 0, 1) := by decide +kernel
theorem dX2_isFile_17 : decode cX2_isFile 17 = .ok (.ireturn, 1) := by decide +kernel
theorem dX2_isRank_0 : decode cX2_isRank 0 = .ok (.iload_n 0, 1) := by decide +kernel
theorem dX2_isRank_1 : decode cX2_isRank 1 = .ok (.bipush 49, 2) := by decide +kernel
theorem dX2_isRank_3 : decode cX2_isRank 3 = .ok (.if_icmp .lt 13, 3) := by decide +kernel
theorem dX2_isRank_6 : decode cX2_isRank 6 = .ok (.iload_n 0, 1) := by decide +kernel
theorem dX2_isRank_7 : decode cX2_isRank 7 = .ok (.bipush 57, 2) := by decide +kernel
theorem dX2_isRank_9 : decode cX2_isRank 9 = .ok (.if_icmp .ge 7, 3) := by decide +kernel
theorem dX2_isRank_12 : decode cX2_isRank 12 = .ok (.iconst 1, 1) := by decide +kernel
theorem dX2_isRank_13 : decode cX2_isRank 13 = .ok (.goto 4, 3) := by decide +kernel
theorem dX2_isRank_16 : decode cX2_isRank 16 = .ok (.iconst 0, 1) := by decide +kernel
theorem dX2_isRank_17 : decode cX2_isRank 17 = .ok (.ireturn, 1) := by decide +kernel
theorem dX2_isSign_0 : decode cX2_isSign 0 = .ok (.iload_n 0, 1) := by decide +kernel
theorem dX2_isSign_1 : decode cX2_isSign 1 = .ok (.bipush 43, 2) := by decide +kernel
theorem dX2_isSign_3 : decode cX2_isSign 3 = .ok (.if_icmp .eq 9, 3) := by decide +kernel
theorem dX2_isSign_6 : decode cX2_isSign 6 = .ok (.iload_n 0, 1) := by decide +kernel
theorem dX2_isSign_7 : decode cX2_isSign 7 = .ok (.bipush 35, 2) := by decide +kernel
theorem dX2_isSign_9 : decode cX2_isSign 9 = .ok (.if_icmp .ne 7, 3) := by decide +kernel
theorem dX2_isSign_12 : decode cX2_isSign 12 = .ok (.iconst 1, 1) := by decide +kernel
theorem dX2_isSign_13 : decode cX2_isSign 13 = .ok (.goto 4, 3) := by decide +kernel
theorem dX2_isSign_16 : decode cX2_isSign 16 = .ok (.iconst 0, 1) := by decide +kernel
theorem dX2_isSign_17 : decode cX2_isSign 17 = .ok (.ireturn, 1) := by decide +kernel
theorem dX3_init_0 : decode cX3_init 0 = .ok (.aload_n 0, 1) := by decide +kernel
theorem dX3_init_1 : decode cX3_init 1 = .ok (.invokespecial 3, 3) := by decide +kernel
theorem dX3_init_4 : decode cX3_init 4 = .ok (.aload_n 0, 1) := by decide +kernel
theorem dX3_init_5 : decode cX3_init 5 = .ok (.sipush 2000, 3) := by decide +kernel
theorem dX3_init_8 : decode cX3_init 8 = .ok (.newarray .int, 2) := by decide +kernel
theorem dX3_init_10 : decode cX3_init 10 = .ok (.putfield 9, 3) := by decide +kernel
theorem dX3_init_13 : decode cX3_init 13 = .ok (.aload_n 0, 1) := by decide +kernel
theorem dX3_init_14 : decode cX3_init 14 = .ok (.iconst 0, 1) := by decide +kernel
theorem dX3_init_15 : decode cX3_init 15 = .ok (.putfield 15, 3) := by decide +kernel
theorem dX3_init_18 : decode cX3_init 18 = .ok (.aload_n 0, 1) := by decide +kernel
theorem dX3_init_19 : decode cX3_init 19 = .ok (.iconst 0, 1) := by decide +kernel
theorem dX3_init_20 : decode cX3_init 20 = .ok (.putfield 19, 3) := by decide +kernel
theorem dX3_init_23 : decode cX3_init 23 = .ok (.return_, 1) := by decide +kernel
theorem dX3_size_0 : decode cX3_size 0 = .ok (.aload_n 0, 1) := by decide +kernel
theorem dX3_size_1 : decode cX3_size 1 = .ok (.getfield 15, 3) := by decide +kernel
theorem dX3_size_4 : decode cX3_size 4 = .ok (.ireturn, 1) := by decide +kernel
theorem dX3_hasSpilled_0 : decode cX3_hasSpilled 0 = .ok (.aload_n 0, 1) := by decide +kernel
theorem dX3_hasSpilled_1 : decode cX3_hasSpilled 1 = .ok (.getfield 19, 3) := by decide +kernel
theorem dX3_hasSpilled_4 : decode cX3_hasSpilled 4 = .ok (.ireturn, 1) := by decide +kernel
theorem dX3_get_0 : decode cX3_get 0 = .ok (.iload_n 1, 1) := by decide +kernel
theorem dX3_get_1 : decode cX3_get 1 = .ok (.ifCond .lt 20, 3) := by decide +kernel
theorem dX3_get_4 : decode cX3_get 4 = .ok (.iload_n 1, 1) := by decide +kernel
theorem dX3_get_5 : decode cX3_get 5 = .ok (.aload_n 0, 1) := by decide +kernel
theorem dX3_get_6 : decode cX3_get 6 = .ok (.getfield 15, 3) := by decide +kernel
theorem dX3_get_9 : decode cX3_get 9 = .ok (.if_icmp .ge 12, 3) := by decide +kernel
theorem dX3_get_12 : decode cX3_get 12 = .ok (.aload_n 0, 1) := by decide +kernel
theorem dX3_get_13 : decode cX3_get 13 = .ok (.getfield 9, 3) := by decide +kernel
theorem dX3_get_16 : decode cX3_get 16 = .ok (.iload_n 1, 1) := by decide +kernel
theorem dX3_get_17 : decode cX3_get 17 = .ok (.iaload, 1) := by decide +kernel
theorem dX3_get_18 : decode cX3_get 18 = .ok (.goto 4, 3) := by decide +kernel
theorem dX3_get_21 : decode cX3_get 21 = .ok (.iconst (-1), 1) := by decide +kernel
theorem dX3_get_22 : decode cX3_get 22 = .ok (.ireturn, 1) := by decide +kernel
theorem dX3_wipe_0 : decode cX3_wipe 0 = .ok (.aload_n 0, 1) := by decide +kernel
theorem dX3_wipe_1 : decode cX3_wipe 1 = .ok (.iconst 0, 1) := by decide +kernel
theorem dX3_wipe_2 : decode cX3_wipe 2 = .ok (.putfield 15, 3) := by decide +kernel
theorem dX3_wipe_5 : decode cX3_wipe 5 = .ok (.aload_n 0, 1) := by decide +kernel
theorem dX3_wipe_6 : decode cX3_wipe 6 = .ok (.iconst 0, 1) := by decide +kernel
theorem dX3_wipe_7 : decode cX3_wipe 7 = .ok (.putfield 19, 3) := by decide +kernel
theorem dX3_wipe_10 : decode cX3_wipe 10 = .ok (.return_, 1) := by decide +kernel
theorem dX3_append_0 : decode cX3_append 0 = .ok (.aload_n 0, 1) := by decide +kernel
theorem dX3_append_1 : decode cX3_append 1 = .ok (.getfield 15, 3) := by decide +kernel
theorem dX3_append_4 : decode cX3_append 4 = .ok (.aload_n 0, 1) := by decide +kernel
theorem dX3_append_5 : decode cX3_append 5 = .ok (.getfield 9, 3) := by decide +kernel
theorem dX3_append_8 : decode cX3_append 8 = .ok (.arraylength, 1) := by decide +kernel
theorem dX3_append_9 : decode cX3_append 9 = .ok (.if_icmp .ge 26, 3) := by decide +kernel
theorem dX3_append_12 : decode cX3_append 12 = .ok (.aload_n 0, 1) := by decide +kernel
theorem dX3_append_13 : decode cX3_append 13 = .ok (.getfield 9, 3) := by decide +kernel
theorem dX3_append_16 : decode cX3_append 16 = .ok (.aload_n 0, 1) := by decide +kernel
theorem dX3_append_17 : decode cX3_append 17 = .ok (.getfield 15, 3) := by decide +kernel
theorem dX3_append_20 : decode cX3_append 20 = .ok (.iload_n 1, 1) := by decide +kernel
theorem dX3_append_21 : decode cX3_append 21 = .ok (.iastore, 1) := by decide +kernel
theorem dX3_append_22 : decode cX3_append 22 = .ok (.aload_n 0, 1) := by decide +kernel
theorem dX3_append_23 : decode cX3_append 23 = .ok (.dup, 1) := by decide +kernel
theorem dX3_append_24 : decode cX3_append 24 = .ok (.getfield 15, 3) := by decide +kernel
theorem dX3_append_27 : decode cX3_append 27 = .ok (.iconst 1, 1) := by decide +kernel
theorem dX3_append_28 : decode cX3_append 28 = .ok (.iadd, 1) := by decide +kernel
theorem dX3_append_29 : decode cX3_append 29 = .ok (.putfield 15, 3) := by decide +kernel
theorem dX3_append_32 : decode cX3_append 32 = .ok (.goto 8, 3) := by decide +kernel
theorem dX3_append_35 : decode cX3_append 35 = .ok (.aload_n 0, 1) := by decide +kernel
theorem dX3_append_36 : decode cX3_append 36 = .ok (.iconst 1, 1) := by decide +kernel
theorem dX3_append_37 : decode cX3_append 37 = .ok (.putfield 19, 3) := by decide +kernel
theorem dX3_append_40 : decode cX3_append 40 = .ok (.return_, 1) := by decide +kernel
set_option maxRecDepth 20000 in
theorem ggX3_separate_X3_get : GoodIn wsX3_separate wsX3_get := goodIn_r _ [6, 1, 7, 13, 14, 15] (by decide +kernel) (by decide +kernel)
set_option maxRecDepth 20000 in
theorem gX3_separate_X3_get : GoodIn wsX3_separate (wsV RX3 23 RX3 yX3_get wsX3_get) := goodIn_app (goodIn_of _ (by decide +kernel)) ggX3_separate_X3_get
set_option maxRecDepth 20000 in
theorem ggX3_separate_X3_append : GoodIn wsX3_separate wsX3_append := goodIn_r _ [11, 1, 7, 12, 13, 14, 15] (by decide +kernel) (by decide +kernel)
set_option maxRecDepth 20000 in
theorem gX3_separate_X3_append : GoodIn wsX3_separate (wsV RX3 27 RX3 yX3_append wsX3_append) := goodIn_app (goodIn_of _ (by decide +kernel)) ggX3_separate_X3_append
theorem dX3_separate_0 : decode cX3_separate 0 = .ok (.aload_n 0, 1) := by decide +kernel
theorem dX3_separate_1 : decode cX3_separate 1 = .ok (.getfield 15, 3) := by decide +kernel
theorem dX3_separate_4 : decode cX3_separate 4 = .ok (.ifCond .le 24, 3) := by decide +kernel
theorem dX3_separate_7 : decode cX3_separate 7 = .ok (.aload_n 0, 1) := by decide +kernel
theorem dX3_separate_8 : decode cX3_separate 8 = .ok (.aload_n 0, 1) := by decide +kernel
theorem dX3_separate_9 : decode cX3_separate 9 = .ok (.getfield 15, 3) := by decide +kernel
theorem dX3_separate_12 : decode cX3_separate 12 = .ok (.iconst 1, 1) := by decide +kernel
theorem dX3_separate_13 : decode cX3_separate 13 = .ok (.isub, 1) := by decide +kernel
theorem dX3_separate_14 : decode cX3_separate 14 = .ok (.invokevirtual 23, 3) := by decide +kernel
theorem dX3_separate_17 : decode cX3_separate 17 = .ok (.bipush 40, 2) := by decide +kernel
theorem dX3_separate_19 : decode cX3_separate 19 = .ok (.if_icmp .eq 9, 3) := by decide +kernel
theorem dX3_separate_22 : decode cX3_separate 22 = .ok (.aload_n 0, 1) := by decide +kernel
theorem dX3_separate_23 : decode cX3_separate 23 = .ok (.bipush 32, 2) := by decide +kernel
theorem dX3_separate_25 : decode cX3_separate 25 = .ok (.invokevirtual 27, 3) := by decide +kernel
theorem dX3_separate_28 : decode cX3_separate 28 = .ok (.return_, 1) := by decide +kernel
set_option maxRecDepth 20000 in
theorem ggX3_isOfWord_X3_get : GoodIn wsX3_isOfWord wsX3_get := goodIn_r _ [5, 6, 7, 8, 9, 10] (by decide +kernel) (by decide +kernel)
set_option maxRecDepth 20000 in
theorem gX3_isOfWord_X3_get : GoodIn wsX3_isOfWord (wsV RX3 23 RX3 yX3_get wsX3_get) := goodIn_app (goodIn_of _ (by decide +kernel)) ggX3_isOfWord_X3_get
theorem dX3_isOfWord_0 : decode cX3_isOfWord 0 = .ok (.aload_n 0, 1) := by decide +kernel
theorem dX3_isOfWord_1 : decode cX3_isOfWord 1 = .ok (.iload_n 1, 1) := by decide +kernel
theorem dX3_isOfWord_2 : decode cX3_isOfWord 2 = .ok (.invokevirtual 23, 3) := by decide +kernel
theorem dX3_isOfWord_5 : decode cX3_isOfWord 5 = .ok (.istore_n 2, 1) := by decide +kernel
theorem dX3_isOfWord_6 : decode cX3_isOfWord 6 = .ok (.iload_n 2, 1) := by decide +kernel
theorem dX3_isOfWord_7 : decode cX3_isOfWord 7 = .ok (.iconst (-1), 1) := by decide +kernel
theorem dX3_isOfWord_8 : decode cX3_isOfWord 8 = .ok (.if_icmp .eq 25, 3) := by decide +kernel
theorem dX3_isOfWord_11 : decode cX3_isOfWord 11 = .ok (.iload_n 2, 1) := by decide +kernel
theorem dX3_isOfWord_12 : decode cX3_isOfWord 12 = .ok (.bipush 32, 2) := by decide +kernel
theorem dX3_isOfWord_14 : decode cX3_isOfWord 14 = .ok (.if_icmp .eq 19, 3) := by decide +kernel
theorem dX3_isOfWord_17 : decode cX3_isOfWord 17 = .ok (.iload_n 2, 1) := by decide +kernel
theorem dX3_isOfWord_18 : decode cX3_isOfWord 18 = .ok (.bipush 40, 2) := by decide +kernel
theorem dX3_isOfWord_20 : decode cX3_isOfWord 20 = .ok (.if_icmp .eq 13, 3) := by decide +kernel
theorem dX3_isOfWord_23 : decode cX3_isOfWord 23 = .ok (.iload_n 2, 1) := by decide +kernel
theorem dX3_isOfWord_24 : decode cX3_isOfWord 24 = .ok (.bipush 41, 2) := by decide +kernel
theorem dX3_isOfWord_26 : decode cX3_isOfWord 26 = .ok (.if_icmp .eq 7, 3) := by decide +kernel
theorem dX3_isOfWord_29 : decode cX3_isOfWord 29 = .ok (.iconst 1, 1) := by decide +kernel
theorem dX3_isOfWord_30 : decode cX3_isOfWord 30 = .ok (.goto 4, 3) := by decide +kernel
theorem dX3_isOfWord_33 : decode cX3_isOfWord 33 = .ok (.iconst 0, 1) := by decide +kernel
theorem dX3_isOfWord_34 : decode cX3_isOfWord 34 = .ok (.ireturn, 1) := by decide +kernel
set_option maxRecDepth 20000 in
theorem ggX3_isWordStart_X3_isOfWord : GoodIn wsX3_isWordStart wsX3_isOfWord := goodIn_r _ [5, 6, 7, 8, 4, 9, 10, 11, 12, 13, 14] (by decide +kernel) (by decide +kernel)
set_option maxRecDepth 20000 in
theorem gX3_isWordStart_X3_isOfWord : GoodIn wsX3_isWordStart (wsV RX3 31 RX3 yX3_isOfWord wsX3_isOfWord) := goodIn_app (goodIn_of _ (by decide +kernel)) ggX3_isWordStart_X3_isOfWord
theorem dX3_isWordStart_0 : decode cX3_isWordStart 0 = .ok (.aload_n 0, 1) := by decide +kernel
theorem dX3_isWordStart_1 : decode cX3_isWordStart 1 = .ok (.iload_n 1, 1) := by decide +kernel
theorem dX3_isWordStart_2 : decode cX3_isWordStart 2 = .ok (.invokevirtual 31, 3) := by decide +kernel
theorem dX3_isWordStart_5 : decode cX3_isWordStart 5 = .ok (.ifCond .eq 17, 3) := by decide +kernel
theorem dX3_isWordStart_8 : decode cX3_isWordStart 8 = .ok (.aload_n 0, 1) := by decide +kernel
theorem dX3_isWordStart_9 : decode cX3_isWordStart 9 = .ok (.iload_n 1, 1) := by decide +kernel
theorem dX3_isWordStart_10 : decode cX3_isWordStart 10 = .ok (.iconst 1, 1) := by decide +kernel
theorem dX3_isWordStart_11 : decode cX3_isWordStart 11 = .ok (.isub, 1) := by decide +kernel
theorem dX3_isWordStart_12 : decode cX3_isWordStart 12 = .ok (.invokevirtual 31, 3) := by decide +kernel
theorem dX3_isWordStart_15 : decode cX3_isWordStart 15 = .ok (.ifCond .ne 7, 3) := by decide +kernel
theorem dX3_isWordStart_18 : decode cX3_isWordStart 18 = .ok (.iconst 1, 1) := by decide +kernel
theorem dX3_isWordStart_19 : decode cX3_isWordStart 19 = .ok (.goto 4, 3) := by decide +kernel
theorem dX3_isWordStart_22 : decode cX3_isWordStart 22 = .ok (.iconst 0, 1) := by decide +kernel
theorem dX3_isWordStart_23 : decode cX3_isWordStart 23 = .ok (.ireturn, 1) := by decide +kernel
set_option maxRecDepth 20000 in
theorem ggX3_wordEnd_X3_isOfWord : GoodIn wsX3_wordEnd wsX3_isOfWord := goodIn_r _ [6, 7, 8, 9, 5, 10, 1, 11, 12, 13, 14] (by decide +kernel) (by decide +kernel)
set_option maxRecDepth 20000 in
theorem gX3_wordEnd_X3_isOfWord : GoodIn wsX3_wordEnd (wsV RX3 31 RX3 yX3_isOfWord wsX3_isOfWord) := goodIn_app (goodIn_of _ (by decide +kernel)) ggX3_wordEnd_X3_isOfWord
theorem dX3_wordEnd_0 : decode cX3_wordEnd 0 = .ok (.iload_n 1, 1) := by decide +kernel
theorem dX3_wordEnd_1 : decode cX3_wordEnd 1 = .ok (.istore_n 2, 1) := by decide +kernel
theorem dX3_wordEnd_2 : decode cX3_wordEnd 2 = .ok (.iload_n 2, 1) := by decide +kernel
theorem dX3_wordEnd_3 : decode cX3_wordEnd 3 = .ok (.aload_n 0, 1) := by decide +kernel
theorem dX3_wordEnd_4 : decode cX3_wordEnd 4 = .ok (.getfield 15, 3) := by decide +kernel
theorem dX3_wordEnd_7 : decode cX3_wordEnd 7 = .ok (.if_icmp .ge 17, 3) := by decide +kernel
theorem dX3_wordEnd_10 : decode cX3_wordEnd 10 = .ok (.aload_n 0, 1) := by decide +kernel
theorem dX3_wordEnd_11 : decode cX3_wordEnd 11 = .ok (.iload_n 2, 1) := by decide +kernel
theorem dX3_wordEnd_12 : decode cX3_wordEnd 12 = .ok (.invokevirtual 31, 3) := by decide +kernel
theorem dX3_wordEnd_15 : decode cX3_wordEnd 15 = .ok (.ifCond .eq 9, 3) := by decide +kernel
theorem dX3_wordEnd_18 : decode cX3_wordEnd 18 = .ok (.iinc 2 1, 3) := by decide +kernel
theorem dX3_wordEnd_21 : decode cX3_wordEnd 21 = .ok (.goto (-19), 3) := by decide +kernel
theorem dX3_wordEnd_24 : decode cX3_wordEnd 24 = .ok (.iload_n 2, 1) := by decide +kernel
theorem dX3_wordEnd_25 : decode cX3_wordEnd 25 = .ok (.ireturn, 1) := by decide +kernel
set_option maxRecDepth 20000 in
theorem ggX4_init_X4_occupy : GoodIn wsX4_init wsX4_occupy := goodIn_r _ [18, 13, 5, 6, 7, 8, 9, 10, 11, 12, 19, 20, 21, 22, 23, 24, 25, 26, 27] (by decide +kernel) (by decide +kernel)
set_option maxRecDepth 20000 in
theorem gX4_init_X4_occupy : GoodIn wsX4_init (wsV RX4 40 RX4 yX4_occupy wsX4_occupy) := goodIn_app (goodIn_of _ (by decide +kernel)) ggX4_init_X4_occupy
theorem dX4_init_0 : decode cX4_init 0 = .ok (.aload_n 0, 1) := by decide +kernel
theorem dX4_init_1 : decode cX4_init 1 = .ok (.invokespecial 3, 3) := by decide +kernel
theorem dX4_init_4 : decode cX4_init 4 = .ok (.aload_n 0, 1) := by decide +kernel
theorem dX4_init_5 : decode cX4_init 5 = .ok (.sipush 200, 3) := by decide +kernel
theorem dX4_init_8 : decode cX4_init 8 = .ok (.newarray .int, 2) := by decide +kernel
theorem dX4_init_10 : decode cX4_init 10 = .ok (.putfield 9, 3) := by decide +kernel
theorem dX4_init_13 : decode cX4_init 13 = .ok (.aload_n 0, 1) := by decide +kernel
theorem dX4_init_14 : decode cX4_init 14 = .ok (.sipush 200, 3) := by decide +kernel
theorem dX4_init_17 : decode cX4_init 17 = .ok (.newarray .int, 2) := by decide +kernel
theorem dX4_init_19 : decode cX4_init 19 = .ok (.putfield 15, 3) := by decide +kernel
theorem dX4_init_22 : decode cX4_init 22 = .ok (.aload_n 0, 1) := by decide +kernel
theorem dX4_init_23 : decode cX4_init 23 = .ok (.sipush 200, 3) := by decide +kernel
theorem dX4_init_26 : decode cX4_init 26 = .ok (.newarray .int, 2) := by decide +kernel
theorem dX4_init_28 : decode cX4_init 28 = .ok (.putfield 18, 3) := by decide +kernel
theorem dX4_init_31 : decode cX4_init 31 = .ok (.aload_n 0, 1) := by decide +kernel
theorem dX4_init_32 : decode cX4_init 32 = .ok (.sipush 200, 3) := by decide +kernel
theorem dX4_init_35 : decode cX4_init 35 = .ok (.newarray .int, 2) := by decide +kernel
theorem dX4_init_37 : decode cX4_init 37 = .ok (.putfield 21, 3) := by decide +kernel
theorem dX4_init_40 : decode cX4_init 40 = .ok (.aload_n 0, 1) := by decide +kernel
theorem dX4_init_41 : decode cX4_init 41 = .ok (.sipush 200, 3) := by decide +kernel
theorem dX4_init_44 : decode cX4_init 44 = .ok (.newarray .int, 2) := by decide +kernel
theorem dX4_init_46 : decode cX4_init 46 = .ok (.putfield 24, 3) := by decide +kernel
theorem dX4_init_49 : decode cX4_init 49 = .ok (.aload_n 0, 1) := by decide +kernel
theorem dX4_init_50 : decode cX4_init 50 = .ok (.sipush 200, 3) := by decide +kernel
theorem dX4_init_53 : decode cX4_init 53 = .ok (.newarray .int, 2) := by decide +kernel
theorem dX4_init_55 : decode cX4_init 55 = .ok (.putfield 27, 3) := by decide +kernel
theorem dX4_init_58 : decode cX4_init 58 = .ok (.aload_n 0, 1) := by decide +kernel
theorem dX4_init_59 : decode cX4_init 59 = .ok (.sipush 200, 3) := by decide +kernel
theorem dX4_init_62 : decode cX4_init 62 = .ok (.newarray .int, 2) := by decide +kernel
theorem dX4_init_64 : decode cX4_init 64 = .ok (.putfield 30, 3) := by decide +kernel
theorem dX4_init_67 : decode cX4_init 67 = .ok (.aload_n 0, 1) := by decide +kernel
theorem dX4_init_68 : decode cX4_init 68 = .ok (.sipush 200, 3) := by decide +kernel
theorem dX4_init_71 : decode cX4_init 71 = .ok (.newarray .int, 2) := by decide +kernel
theorem dX4_init_73 : decode cX4_init 73 = .ok (.putfield 33, 3) := by decide +kernel
theorem dX4_init_76 : decode cX4_init 76 = .ok (.aload_n 0, 1) := by decide +kernel
theorem dX4_init_77 : decode cX4_init 77 = .ok (.iconst 0, 1) := by decide +kernel
theorem dX4_init_78 : decode cX4_init 78 = .ok (.putfield 36, 3) := by decide +kernel
theorem dX4_init_81 : decode cX4_init 81 = .ok (.aload_n 0, 1) := by decide +kernel
theorem dX4_init_82 : decode cX4_init 82 = .ok (.iconst (-1), 1) := by decide +kernel
theorem dX4_init_83 : decode cX4_init 83 = .ok (.iconst (-1), 1) := by decide +kernel
theorem dX4_init_84 : decode cX4_init 84 = .ok (.iconst (-1), 1) := by decide +kernel
theorem dX4_init_85 : decode cX4_init 85 = .ok (.iconst 0, 1) := by decide +kernel
theorem dX4_init_86 : decode cX4_init 86 = .ok (.invokevirtual 40, 3) := by decide +kernel
theorem dX4_init_89 : decode cX4_init 89 = .ok (.pop, 1) := by decide +kernel
theorem dX4_init_90 : decode cX4_init 90 = .ok (.return_, 1) := by decide +kernel
theorem dX4_occupy_0 : decode cX4_occupy 0 = .ok (.aload_n 0, 1) := by decide +kernel
theorem dX4_occupy_1 : decode cX4_occupy 1 = .ok (.getfield 36, 3) := by decide +kernel
theorem dX4_occupy_4 : decode cX4_occupy 4 = .ok (.sipush 200, 3) := by decide +kernel
theorem dX4_occupy_7 : decode cX4_occupy 7 = .ok (.if_icmp .lt 5, 3) := by decide +kernel
theorem dX4_occupy_10 : decode cX4_occupy 10 = .ok (.iconst (-1), 1) := by decide +kernel
theorem dX4_occupy_11 : decode cX4_occupy 11 = .ok (.ireturn, 1) := by decide +kernel
theorem dX4_occupy_12 : decode cX4_occupy 12 = .ok (.aload_n 0, 1) := by decide +kernel
theorem dX4_occupy_13 : decode cX4_occupy 13 = .ok (.getfield 9, 3) := by decide +kernel
theorem dX4_occupy_16 : decode cX4_occupy 16 = .ok (.aload_n 0, 1) := by decide +kernel
theorem dX4_occupy_17 : decode cX4_occupy 17 = .ok (.getfield 36, 3) := by decide +kernel
theorem dX4_occupy_20 : decode cX4_occupy 20 = .ok (.iload_n 1, 1) := by decide +kernel
theorem dX4_occupy_21 : decode cX4_occupy 21 = .ok (.iastore, 1) := by decide +kernel
theorem dX4_occupy_22 : decode cX4_occupy 22 = .ok (.aload_n 0, 1) := by decide +kernel
theorem dX4_occupy_23 : decode cX4_occupy 23 = .ok (.getfield 15, 3) := by decide +kernel
theorem dX4_occupy_26 : decode cX4_occupy 26 = .ok (.aload_n 0, 1) := by decide +kernel
theorem dX4_occupy_27 : decode cX4_occupy 27 = .ok (.getfield 36, 3) := by decide +kernel
theorem dX4_occupy_30 : decode cX4_occupy 30 = .ok (.iload_n 2, 1) := by decide +kernel
theorem dX4_occupy_31 : decode cX4_occupy 31 = .ok (.iastore, 1) := by decide +kernel
theorem dX4_occupy_32 : decode cX4_occupy 32 = .ok (.aload_n 0, 1) := by decide +kernel
theorem dX4_occupy_33 : decode cX4_occupy 33 = .ok (.getfield 18, 3) := by decide +kernel
theorem dX4_occupy_36 : decode cX4_occupy 36 = .ok (.aload_n 0, 1) := by decide +kernel
theorem dX4_occupy_37 : decode cX4_occupy 37 = .ok (.getfield 36, 3) := by decide +kernel
theorem dX4_occupy_40 : decode cX4_occupy 40 = .ok (.iload_n 3, 1) := by decide +kernel
theorem dX4_occupy_41 : decode cX4_occupy 41 = .ok (.iastore, 1) := by decide +kernel
theorem dX4_occupy_42 : decode cX4_occupy 42 = .ok (.aload_n 0, 1) := by decide +kernel
theorem dX4_occupy_43 : decode cX4_occupy 43 = .ok (.getfield 21, 3) := by decide +kernel
theorem dX4_occupy_46 : decode cX4_occupy 46 = .ok (.aload_n 0, 1) := by decide +kernel
theorem dX4_occupy_47 : decode cX4_occupy 47 = .ok (.getfield 36, 3) := by decide +kernel
theorem dX4_occupy_50 : decode cX4_occupy 50 = .ok (.iconst (-1), 1) := by decide +kernel
theorem dX4_occupy_51 : decode cX4_occupy 51 = .ok (.iastore, 1) := by decide +kernel
theorem dX4_occupy_52 : decode cX4_occupy 52 = .ok (.aload_n 0, 1) := by decide +kernel
theorem dX4_occupy_53 : decode cX4_occupy 53 = .ok (.getfield 24, 3) := by decide +kernel
theorem dX4_occupy_56 : decode cX4_occupy 56 = .ok (.aload_n 0, 1) := by decide +kernel
theorem dX4_occupy_57 : decode cX4_occupy 57 = .ok (.getfield 36, 3) := by decide +kernel
theorem dX4_occupy_60 : decode cX4_occupy 60 = .ok (.iload 4, 2) := by decide +kernel
theorem dX4_occupy_62 : decode cX4_occupy 62 = .ok (.iastore, 1) := by decide +kernel
theorem dX4_occupy_63 : decode cX4_occupy 63 = .ok (.aload_n 0, 1) := by decide +kernel
theorem dX4_occupy_64 : decode cX4_occupy 64 = .ok (.getfield 27, 3) := by decide +kernel
theorem dX4_occupy_67 : decode cX4_occupy 67 = .ok (.aload_n 0, 1) := by decide +kernel
theorem dX4_occupy_68 : decode cX4_occupy 68 = .ok (.getfield 36, 3) := by decide +kernel
theorem dX4_occupy_71 : decode cX4_occupy 71 = .ok (.iconst 0, 1) := by decide +kernel
theorem dX4_occupy_72 : decode cX4_occupy 72 = .ok (.iastore, 1) := by decide +kernel
theorem dX4_occupy_73 : decode cX4_occupy 73 = .ok (.aload_n 0, 1) := by decide +kernel
theorem dX4_occupy_74 : decode cX4_occupy 74 = .ok (.getfield 30, 3) := by decide +kernel
theorem dX4_occupy_77 : decode cX4_occupy 77 = .ok (.aload_n 0, 1) := by decide +kernel
theorem dX4_occupy_78 : decode cX4_occupy 78 = .ok (.getfield 36, 3) := by decide +kernel
theorem dX4_occupy_81 : decode cX4_occupy 81 = .ok (.iconst (-1), 1) := by decide +kernel
theorem dX4_occupy_82 : decode cX4_occupy 82 = .ok (.iastore, 1) := by decide +kernel
theorem dX4_occupy_83 : decode cX4_occupy 83 = .ok (.aload_n 0, 1) := by decide +kernel
theorem dX4_occupy_84 : decode cX4_occupy 84 = .ok (.getfield 33, 3) := by decide +kernel
theorem dX4_occupy_87 : decode cX4_occupy 87 = .ok (.aload_n 0, 1) := by decide +kernel
theorem dX4_occupy_88 : decode cX4_occupy 88 = .ok (.getfield 36, 3) := by decide +kernel
theorem dX4_occupy_91 : decode cX4_occupy 91 = .ok (.iconst (-1), 1) := by decide +kernel
theorem dX4_occupy_92 : decode cX4_occupy 92 = .ok (.iastore, 1) := by decide +kernel
theorem dX4_occupy_93 : decode cX4_occupy 93 = .ok (.aload_n 0, 1) := by decide +kernel
theorem dX4_occupy_94 : decode cX4_occupy 94 = .ok (.dup, 1) := by decide +kernel
theorem dX4_occupy_95 : decode cX4_occupy 95 = .ok (.getfield 36, 3) := by decide +kernel
theorem dX4_occupy_98 : decode cX4_occupy 98 = .ok (.iconst 1, 1) := by decide +kernel
theorem dX4_occupy_99 : decode cX4_occupy 99 = .ok (.iadd, 1) := by decide +kernel
theorem dX4_occupy_100 : decode cX4_occupy 100 = .ok (.putfield 36, 3) := by decide +kernel
theorem dX4_occupy_103 : decode cX4_occupy 103 = .ok (.aload_n 0, 1) := by decide +kernel
theorem dX4_occupy_104 : decode cX4_occupy 104 = .ok (.getfield 36, 3) := by decide +kernel
theorem dX4_occupy_107 : decode cX4_occupy 107 = .ok (.iconst 1, 1) := by decide +kernel
theorem dX4_occupy_108 : decode cX4_occupy 108 = .ok (.isub, 1) := by decide +kernel
theorem dX4_occupy_109 : decode cX4_occupy 109 = .ok (.ireturn, 1) := by decide +kernel
theorem dX4_size_0 : decode cX4_size 0 = .ok (.aload_n 0, 1) := by decide +kernel
theorem dX4_size_1 : decode cX4_size 1 = .ok (.getfield 36, 3) := by decide +kernel
theorem dX4_size_4 : decode cX4_size 4 = .ok (.ireturn, 1) := by decide +kernel
theorem dX4_has_0 : decode cX4_has 0 = .ok (.iload_n 1, 1) := by decide +kernel
theorem dX4_has_1 : decode cX4_has 1 = .ok (.ifCond .lt 15, 3) := by decide +kernel
theorem dX4_has_4 : decode cX4_has 4 = .ok (.iload_n 1, 1) := by decide +kernel
theorem dX4_has_5 : decode cX4_has 5 = .ok (.aload_n 0, 1) := by decide +kernel
theorem dX4_has_6 : decode cX4_has 6 = .ok (.getfield 36, 3) := by decide +kernel
theorem dX4_has_9 : decode cX4_has 9 = .ok (.if_icmp .ge 7, 3) := by decide +kernel
theorem dX4_has_12 : decode cX4_has 12 = .ok (.iconst 1, 1) := by decide +kernel
theorem dX4_has_13 : decode cX4_has 13 = .ok (.goto 4, 3) := by decide +kernel
theorem dX4_has_16 : decode cX4_has 16 = .ok (.iconst 0, 1) := by decide +kernel
theorem dX4_has_17 : decode cX4_has 17 = .ok (.ireturn, 1) := by decide +kernel
set_option maxRecDepth 20000 in
theorem ggX4_above_X4_has : GoodIn wsX4_above wsX4_has := goodIn_r _ [6, 7, 8, 9, 10, 11, 12, 13, 14, 15, 16] (by decide +kernel) (by decide +kernel)
set_option maxRecDepth 20000 in
theorem gX4_above_X4_has : GoodIn wsX4_above (wsV RX4 44 RX4 yX4_has wsX4_has) := goodIn_app (goodIn_of _ (by decide +kernel)) ggX4_above_X4_has
theorem dX4_above_0 : decode cX4_above 0 = .ok (.aload_n 0, 1) := by decide +kernel
theorem dX4_above_1 : decode cX4_above 1 = .ok (.iload_n 1, 1) := by decide +kernel
theorem dX4_above_2 : decode cX4_above 2 = .ok (.invokevirtual 44, 3) := by decide +kernel
theorem dX4_above_5 : decode cX4_above 5 = .ok (.ifCond .eq 12, 3) := by decide +kernel
theorem dX4_above_8 : decode cX4_above 8 = .ok (.aload_n 0, 1) := by decide +kernel
theorem dX4_above_9 : decode cX4_above 9 = .ok (.getfield 9, 3) := by decide +kernel
theorem dX4_above_12 : decode cX4_above 12 = .ok (.iload_n 1, 1) := by decide +kernel
theorem dX4_above_13 : decode cX4_above 13 = .ok (.iaload, 1) := by decide +kernel
theorem dX4_above_14 : decode cX4_above 14 = .ok (.goto 4, 3) := by decide +kernel
theorem dX4_above_17 : decode cX4_above 17 = .ok (.iconst (-1), 1) := by decide +kernel
theorem dX4_above_18 : decode cX4_above 18 = .ok (.ireturn, 1) := by decide +kernel
set_option maxRecDepth 20000 in
theorem ggX4_from_X4_has : GoodIn wsX4_from wsX4_has := goodIn_r _ [6, 7, 8, 9, 10, 11, 12, 13, 14, 15, 16] (by decide +kernel) (by decide +kernel)
set_option maxRecDepth 20000 in
theorem gX4_from_X4_has : GoodIn wsX4_from (wsV RX4 44 RX4 yX4_has wsX4_has) := goodIn_app (goodIn_of _ (by decide +kernel)) ggX4_from_X4_has
theorem dX4_from_0 : decode cX4_from 0 = .ok (.aload_n 0, 1) := by decide +kernel
theorem dX4_from_1 : decode cX4_from 1 = .ok (.iload_n 1, 1) := by decide +kernel
theorem dX4_from_2 : decode cX4_from 2 = .ok (.invokevirtual 44, 3) := by decide +kernel
theorem dX4_from_5 : decode cX4_from 5 = .ok (.ifCond .eq 12, 3) := by decide +kernel
theorem dX4_from_8 : decode cX4_from 8 = .ok (.aload_n 0, 1) := by decide +kernel
theorem dX4_from_9 : decode cX4_from 9 = .ok (.getfield 15, 3) := by decide +kernel
theorem dX4_from_12 : decode cX4_from 12 = .ok (.iload_n 1, 1) := by decide +kernel
theorem dX4_from_13 : decode cX4_from 13 = .ok (.iaload, 1) := by decide +kernel
theorem dX4_from_14 : decode cX4_from 14 = .ok (.goto 4, 3) := by decide +kernel
theorem dX4_from_17 : decode cX4_from 17 = .ok (.iconst (-1), 1) := by decide +kernel
theorem dX4_from_18 : decode cX4_from 18 = .ok (.ireturn, 1) := by decide +kernel
set_option maxRecDepth 20000 in
theorem ggX4_to_X4_has : GoodIn wsX4_to wsX4_has := goodIn_r _ [6, 7, 8, 9, 10, 11, 12, 13, 14, 15, 16] (by decide +kernel) (by decide +kernel)
set_option maxRecDepth 20000 in
theorem gX4_to_X4_has : GoodIn wsX4_to (wsV RX4 44 RX4 yX4_has wsX4_has) := goodIn_app (goodIn_of _ (by decide +kernel)) ggX4_to_X4_has
theorem dX4_to_0 : decode cX4_to 0 = .ok (.aload_n 0, 1) := by decide +kernel
theorem dX4_to_1 : decode cX4_to 1 = .ok (.iload_n 1, 1) := by decide +kernel
theorem dX4_to_2 : decode cX4_to 2 = .ok (.invokevirtual 44, 3) := by decide +kernel
theorem dX4_to_5 : decode cX4_to 5 = .ok (.ifCond .eq 12, 3) := by decide +kernel
theorem dX4_to_8 : decode cX4_to 8 = .ok (.aload_n 0, 1) := by decide +kernel
theorem dX4_to_9 : decode cX4_to 9 = .ok (.getfield 18, 3) := by decide +kernel
theorem dX4_to_12 : decode cX4_to 12 = .ok (.iload_n 1, 1) := by decide +kernel
theorem dX4_to_13 : decode cX4_to 13 = .ok (.iaload, 1) := by decide +kernel
theorem dX4_to_14 : decode cX4_to 14 = .ok (.goto 4, 3) := by decide +kernel
theorem dX4_to_17 : decode cX4_to 17 = .ok (.iconst (-1), 1) := by decide +kernel
theorem dX4_to_18 : decode cX4_to 18 = .ok (.ireturn, 1) := by decide +kernel
set_option maxRecDepth 20000 in
theorem ggX4_taken_X4_has : GoodIn wsX4_taken wsX4_has := goodIn_r _ [6, 7, 8, 9, 10, 11, 12, 13, 14, 15, 16] (by decide +kernel) (by decide +kernel)
set_option maxRecDepth 20000 in
theorem gX4_taken_X4_has : GoodIn wsX4_taken (wsV RX4 44 RX4 yX4_has wsX4_has) := goodIn_app (goodIn_of _ (by decide +kernel)) ggX4_taken_X4_has
theorem dX4_taken_0 : decode cX4_taken 0 = .ok (.aload_n 0, 1) := by decide +kernel
theorem dX4_taken_1 : decode cX4_taken 1 = .ok (.iload_n 1, 1) := by decide +kernel
theorem dX4_taken_2 : decode cX4_taken 2 = .ok (.invokevirtual 44, 3) := by decide +kernel
theorem dX4_taken_5 : decode cX4_taken 5 = .ok (.ifCond .eq 12, 3) := by decide +kernel
theorem dX4_taken_8 : decode cX4_taken 8 = .ok (.aload_n 0, 1) := by decide +kernel
theorem dX4_taken_9 : decode cX4_taken 9 = .ok (.getfield 21, 3) := by decide +kernel
theorem dX4_taken_12 : decode cX4_taken 12 = .ok (.iload_n 1, 1) := by decide +kernel
theorem dX4_taken_13 : decode cX4_taken 13 = .ok (.iaload, 1) := by decide +kernel
theorem dX4_taken_14 : decode cX4_taken 14 = .ok (.goto 4, 3) := by decide +kernel
theorem dX4_taken_17 : decode cX4_taken 17 = .ok (.iconst (-1), 1) := by decide +kernel
theorem dX4_taken_18 : decode cX4_taken 18 = .ok (.ireturn, 1) := by decide +kernel
set_option maxRecDepth 20000 in
theorem ggX4_depth_X4_has : GoodIn wsX4_depth wsX4_has := goodIn_r _ [6, 7, 8, 9, 10, 11, 12, 13, 14, 15, 16] (by decide +kernel) (by decide +kernel)
set_option maxRecDepth 20000 in
theorem gX4_depth_X4_has : GoodIn wsX4_depth (wsV RX4 44 RX4 yX4_has wsX4_has) := goodIn_app (goodIn_of _ (by decide +kernel)) ggX4_depth_X4_has
theorem dX4_depth_0 : decode cX4_depth 0 = .ok (.aload_n 0, 1) := by decide +kernel
theorem dX4_depth_1 : decode cX4_depth 1 = .ok (.iload_n 1, 1) := by decide +kernel
theorem dX4_depth_2 : decode cX4_depth 2 = .ok (.invokevirtual 44, 3) := by decide +kernel
theorem dX4_depth_5 : decode cX4_depth 5 = .ok (.ifCond .eq 12, 3) := by decide +kernel
theorem dX4_depth_8 : decode cX4_depth 8 = .ok (.aload_n 0, 1) := by decide +kernel
theorem dX4_depth_9 : decode cX4_depth 9 = .ok (.getfield 24, 3) := by decide +kernel
theorem dX4_depth_12 : decode cX4_depth 12 = .ok (.iload_n 1, 1) := by decide +kernel
theorem dX4_depth_13 : decode cX4_depth 13 = .ok (.iaload, 1) := by decide +kernel
theorem dX4_depth_14 : decode cX4_depth 14 = .ok (.goto 4, 3) := by decide +kernel
theorem dX4_depth_17 : decode cX4_depth 17 = .ok (.iconst 0, 1) := by decide +kernel
theorem dX4_depth_18 : decode cX4_depth 18 = .ok (.ireturn, 1) := by decide +kernel
set_option maxRecDepth 20000 in
theorem ggX4_childCount_X4_has : GoodIn wsX4_childCount wsX4_has := goodIn_r _ [6, 7, 8, 9, 10, 11, 12, 13, 14, 15, 16] (by decide +kernel) (by decide +kernel)
set_option maxRecDepth 20000 in
theorem gX4_childCount_X4_has : GoodIn wsX4_childCount (wsV RX4 44 RX4 yX4_has wsX4_has) := goodIn_app (goodIn_of _ (by decide +kernel)) ggX4_childCount_X4_has
theorem dX4_childCount_0 : decode cX4_childCount 0 = .ok (.aload_n 0, 1) := by decide +kernel
theorem dX4_childCount_1 : decode cX4_childCount 1 = .ok (.iload_n 1, 1) := by decide +kernel
theorem dX4_childCount_2 : decode cX4_childCount 2 = .ok (.invokevirtual 44, 3) := by decide +kernel
theorem dX4_childCount_5 : decode cX4_childCount 5 = .ok (.ifCond .eq 12, 3) := by decide +kernel
theorem dX4_childCount_8 : decode cX4_childCount 8 = .ok (.aload_n 0, 1) := by decide +kernel
theorem dX4_childCount_9 : decode cX4_childCount 9 = .ok (.getfield 27, 3) := by decide +kernel
theorem dX4_childCount_12 : decode cX4_childCount 12 = .ok (.iload_n 1, 1) := by decide +kernel
theorem dX4_childCount_13 : decode cX4_childCount 13 = .ok (.iaload, 1) := by decide +kernel
theorem dX4_childCount_14 : decode cX4_childCount 14 = .ok (.goto 4, 3) := by decide +kernel
theorem dX4_childCount_17 : decode cX4_childCount 17 = .ok (.iconst 0, 1) := by decide +kernel
theorem dX4_childCount_18 : decode cX4_childCount 18 = .ok (.ireturn, 1) := by decide +kernel
set_option maxRecDepth 20000 in
theorem ggX4_keepTaken_X4_has : GoodIn wsX4_keepTaken wsX4_has := goodIn_r _ [6, 7, 8, 9, 10, 11, 12, 13, 14, 15, 16] (by decide +kernel) (by decide +kernel)
set_option maxRecDepth 20000 in
theorem gX4_keepTaken_X4_has : GoodIn wsX4_keepTaken (wsV RX4 44 RX4 yX4_has wsX4_has) := goodIn_app (goodIn_of _ (by decide +kernel)) ggX4_keepTaken_X4_has
theorem dX4_keepTaken_0 : decode cX4_keepTaken 0 = .ok (.aload_n 0, 1) := by decide +kernel
theorem dX4_keepTaken_1 : decode cX4_keepTaken 1 = .ok (.iload_n 1, 1) := by decide +kernel
theorem dX4_keepTaken_2 : decode cX4_keepTaken 2 = .ok (.invokevirtual 44, 3) := by decide +kernel
theorem dX4_keepTaken_5 : decode cX4_keepTaken 5 = .ok (.ifCond .eq 10, 3) := by decide +kernel
theorem dX4_keepTaken_8 : decode cX4_keepTaken 8 = .ok (.aload_n 0, 1) := by decide +kernel
theorem dX4_keepTaken_9 : decode cX4_keepTaken 9 = .ok (.getfield 21, 3) := by decide +kernel
theorem dX4_keepTaken_12 : decode cX4_keepTaken 12 = .ok (.iload_n 1, 1) := by decide +kernel
theorem dX4_keepTaken_13 : decode cX4_keepTaken 13 = .ok (.iload_n 2, 1) := by decide +kernel
theorem dX4_keepTaken_14 : decode cX4_keepTaken 14 = .ok (.iastore, 1) := by decide +kernel
theorem dX4_keepTaken_15 : decode cX4_keepTaken 15 = .ok (.return_, 1) := by decide +kernel
set_option maxRecDepth 20000 in
theorem ggX4_fact_X4_above : GoodIn wsX4_fact wsX4_above := goodIn_r _ [5, 6, 7, 8, 9, 4, 10, 11, 32, 33, 34, 35, 36, 37, 38, 39, 40] (by decide +kernel) (by decide +kernel)
set_option maxRecDepth 20000 in
theorem gX4_fact_X4_above : GoodIn wsX4_fact (wsV RX4 48 RX4 yX4_above wsX4_above) := goodIn_app (goodIn_of _ (by decide +kernel)) ggX4_fact_X4_above
set_option maxRecDepth 20000 in
theorem ggX4_fact_X4_from : GoodIn wsX4_fact wsX4_from := goodIn_r _ [15, 16, 7, 8, 9, 4, 10, 11, 32, 33, 34, 35, 36, 37, 38, 39, 40] (by decide +kernel) (by decide +kernel)
set_option maxRecDepth 20000 in
theorem gX4_fact_X4_from : GoodIn wsX4_fact (wsV RX4 51 RX4 yX4_from wsX4_from) := goodIn_app (goodIn_of _ (by decide +kernel)) ggX4_fact_X4_from
set_option maxRecDepth 20000 in
theorem ggX4_fact_X4_to : GoodIn wsX4_fact wsX4_to := goodIn_r _ [20, 21, 7, 8, 9, 4, 10, 11, 32, 33, 34, 35, 36, 37, 38, 39, 40] (by decide +kernel) (by decide +kernel)
set_option maxRecDepth 20000 in
theorem gX4_fact_X4_to : GoodIn wsX4_fact (wsV RX4 53 RX4 yX4_to wsX4_to) := goodIn_app (goodIn_of _ (by decide +kernel)) ggX4_fact_X4_to
set_option maxRecDepth 20000 in
theorem ggX4_fact_X4_depth : GoodIn wsX4_fact wsX4_depth := goodIn_r _ [25, 26, 7, 8, 9, 4, 10, 11, 32, 33, 34, 35, 36, 37, 38, 39, 40] (by decide +kernel) (by decide +kernel)
set_option maxRecDepth 20000 in
theorem gX4_fact_X4_depth : GoodIn wsX4_fact (wsV RX4 55 RX4 yX4_depth wsX4_depth) := goodIn_app (goodIn_of _ (by decide +kernel)) ggX4_fact_X4_depth
set_option maxRecDepth 20000 in
theorem ggX4_fact_X4_childCount : GoodIn wsX4_fact wsX4_childCount := goodIn_r _ [30, 31, 7, 8, 9, 4, 10, 11, 32, 33, 34, 35, 36, 37, 38, 39, 40] (by decide +kernel) (by decide +kernel)
set_option maxRecDepth 20000 in
theorem gX4_fact_X4_childCount : GoodIn wsX4_fact (wsV RX4 57 RX4 yX4_childCount wsX4_childCount) := goodIn_app (goodIn_of _ (by decide +kernel)) ggX4_fact_X4_childCount
theorem dX4_fact_0 : decode cX4_fact 0 = .ok (.iload_n 2, 1) := by decide +kernel
theorem dX4_fact_1 : decode cX4_fact 1 = .ok (.tableswitch 55 0 3 #[31, 37, 43, 49], 31) := by decide +kernel
theorem dX4_fact_32 : decode cX4_fact 32 = .ok (.aload_n 0, 1) := by decide +kernel
theorem dX4_fact_33 : decode cX4_fact 33 = .ok (.iload_n 1, 1) := by decide +kernel
theorem dX4_fact_34 : decode cX4_fact 34 = .ok (.invokevirtual 48, 3) := by decide +kernel
theorem dX4_fact_37 : decode cX4_fact 37 = .ok (.ireturn, 1) := by decide +kernel
theorem dX4_fact_38 : decode cX4_fact 38 = .ok (.aload_n 0, 1) := by decide +kernel
theorem dX4_fact_39 : decode cX4_fact 39 = .ok (.iload_n 1, 1) := by decide +kernel
theorem dX4_fact_40 : decode cX4_fact 40 = .ok (.invokevirtual 51, 3) := by decide +kernel
theorem dX4_fact_43 : decode cX4_fact 43 = .ok (.ireturn, 1) := by decide +kernel
theorem dX4_fact_44 : decode cX4_fact 44 = .ok (.aload_n 0, 1) := by decide +kernel
theorem dX4_fact_45 : decode cX4_fact 45 = .ok (.iload_n 1, 1) := by decide +kernel
theorem dX4_fact_46 : decode cX4_fact 46 = .ok (.invokevirtual 53, 3) := by decide +kernel
theorem dX4_fact_49 : decode cX4_fact 49 = .ok (.ireturn, 1) := by decide +kernel
theorem dX4_fact_50 : decode cX4_fact 50 = .ok (.aload_n 0, 1) := by decide +kernel
theorem dX4_fact_51 : decode cX4_fact 51 = .ok (.iload_n 1, 1) := by decide +kernel
theorem dX4_fact_52 : decode cX4_fact 52 = .ok (.invokevirtual 55, 3) := by decide +kernel
theorem dX4_fact_55 : decode cX4_fact 55 = .ok (.ireturn, 1) := by decide +kernel
theorem dX4_fact_56 : decode cX4_fact 56 = .ok (.aload_n 0, 1) := by decide +kernel
theorem dX4_fact_57 : decode cX4_fact 57 = .ok (.iload_n 1, 1) := by decide +kernel
theorem dX4_fact_58 : decode cX4_fact 58 = .ok (.invokevirtual 57, 3) := by decide +kernel
theorem dX4_fact_61 : decode cX4_fact 61 = .ok (.ireturn, 1) := by decide +kernel
set_option maxRecDepth 20000 in
theorem ggX4_child_X4_has : GoodIn wsX4_child wsX4_has := goodIn_r _ [8, 9, 10, 11, 12, 13, 14, 15, 16, 17, 18] (by decide +kernel) (by decide +kernel)
set_option maxRecDepth 20000 in
theorem gX4_child_X4_has : GoodIn wsX4_child (wsV RX4 44 RX4 yX4_has wsX4_has) := goodIn_app (goodIn_of _ (by decide +kernel)) ggX4_child_X4_has
theorem dX4_child_0 : decode cX4_child 0 = .ok (.aload_n 0, 1) := by decide +kernel
theorem dX4_child_1 : decode cX4_child 1 = .ok (.iload_n 1, 1) := by decide +kernel
theorem dX4_child_2 : decode cX4_child 2 = .ok (.invokevirtual 44, 3) := by decide +kernel
theorem dX4_child_5 : decode cX4_child 5 = .ok (.ifCond .eq 17, 3) := by decide +kernel
theorem dX4_child_8 : decode cX4_child 8 = .ok (.iload_n 2, 1) := by decide +kernel
theorem dX4_child_9 : decode cX4_child 9 = .ok (.ifCond .lt 13, 3) := by decide +kernel
theorem dX4_child_12 : decode cX4_child 12 = .ok (.iload_n 2, 1) := by decide +kernel
theorem dX4_child_13 : decode cX4_child 13 = .ok (.aload_n 0, 1) := by decide +kernel
theorem dX4_child_14 : decode cX4_child 14 = .ok (.getfield 27, 3) := by decide +kernel
theorem dX4_child_17 : decode cX4_child 17 = .ok (.iload_n 1, 1) := by decide +kernel
theorem dX4_child_18 : decode cX4_child 18 = .ok (.iaload, 1) := by decide +kernel
theorem dX4_child_19 : decode cX4_child 19 = .ok (.if_icmp .lt 5, 3) := by decide +kernel
theorem dX4_child_22 : decode cX4_child 22 = .ok (.iconst (-1), 1) := by decide +kernel
theorem dX4_child_23 : decode cX4_child 23 = .ok (.ireturn, 1) := by decide +kernel
theorem dX4_child_24 : decode cX4_child 24 = .ok (.aload_n 0, 1) := by decide +kernel
theorem dX4_child_25 : decode cX4_child 25 = .ok (.getfield 30, 3) := by decide +kernel
theorem dX4_child_28 : decode cX4_child 28 = .ok (.iload_n 1, 1) := by decide +kernel
theorem dX4_child_29 : decode cX4_child 29 = .ok (.iaload, 1) := by decide +kernel
theorem dX4_child_30 : decode cX4_child 30 = .ok (.istore_n 3, 1) := by decide +kernel
theorem dX4_child_31 : decode cX4_child 31 = .ok (.iconst 0, 1) := by decide +kernel
theorem dX4_child_32 : decode cX4_child 32 = .ok (.istore 4, 2) := by decide +kernel
theorem dX4_child_34 : decode cX4_child 34 = .ok (.iload 4, 2) := by decide +kernel
theorem dX4_child_36 : decode cX4_child 36 = .ok (.iload_n 2, 1) := by decide +kernel
theorem dX4_child_37 : decode cX4_child 37 = .ok (.if_icmp .ge 24, 3) := by decide +kernel
theorem dX4_child_40 : decode cX4_child 40 = .ok (.aload_n 0, 1) := by decide +kernel
theorem dX4_child_41 : decode cX4_child 41 = .ok (.iload_n 3, 1) := by decide +kernel
theorem dX4_child_42 : decode cX4_child 42 = .ok (.invokevirtual 44, 3) := by decide +kernel
theorem dX4_child_45 : decode cX4_child 45 = .ok (.ifCond .eq 16, 3) := by decide +kernel
theorem dX4_child_48 : decode cX4_child 48 = .ok (.aload_n 0, 1) := by decide +kernel
theorem dX4_child_49 : decode cX4_child 49 = .ok (.getfield 33, 3) := by decide +kernel
theorem dX4_child_52 : decode cX4_child 52 = .ok (.iload_n 3, 1) := by decide +kernel
theorem dX4_child_53 : decode cX4_child 53 = .ok (.iaload, 1) := by decide +kernel
theorem dX4_child_54 : decode cX4_child 54 = .ok (.istore_n 3, 1) := by decide +kernel
theorem dX4_child_55 : decode cX4_child 55 = .ok (.iinc 4 1, 3) := by decide +kernel
theorem dX4_child_58 : decode cX4_child 58 = .ok (.goto (-24), 3) := by decide +kernel
theorem dX4_child_61 : decode cX4_child 61 = .ok (.iload_n 3, 1) := by decide +kernel
theorem dX4_child_62 : decode cX4_child 62 = .ok (.ireturn, 1) := by decide +kernel
set_option maxRecDepth 20000 in
theorem ggX4_childOfMove_X4_child : GoodIn wsX4_childOfMove wsX4_child := goodIn_r _ [8, 9, 10, 3, 11, 12, 13, 7, 14, 15, 20, 21, 22, 23, 24, 25, 26, 27, 28] (by decide +kernel) (by decide +kernel)
set_option maxRecDepth 20000 in
theorem gX4_childOfMove_X4_child : GoodIn wsX4_childOfMove (wsV RX4 59 RX4 yX4_child wsX4_child) := goodIn_app (goodIn_of _ (by decide +kernel)) ggX4_childOfMove_X4_child
set_option maxRecDepth 20000 in
theorem ggX4_childOfMove_X4_childCount : GoodIn wsX4_childOfMove wsX4_childCount := goodIn_r _ [19, 9, 11, 12, 13, 7, 14, 15, 20, 21, 22, 23, 24, 25, 26, 27, 28] (by decide +kernel) (by decide +kernel)
set_option maxRecDepth 20000 in
theorem gX4_childOfMove_X4_childCount : GoodIn wsX4_childOfMove (wsV RX4 57 RX4 yX4_childCount wsX4_childCount) := goodIn_app (goodIn_of _ (by decide +kernel)) ggX4_childOfMove_X4_childCount
set_option maxRecDepth 20000 in
theorem ggX4_childOfMove_X4_has : GoodIn wsX4_childOfMove wsX4_has := goodIn_r _ [14, 15, 20, 21, 22, 23, 24, 25, 26, 27, 28] (by decide +kernel) (by decide +kernel)
set_option maxRecDepth 20000 in
theorem gX4_childOfMove_X4_has : GoodIn wsX4_childOfMove (wsV RX4 44 RX4 yX4_has wsX4_has) := goodIn_app (goodIn_of _ (by decide +kernel)) ggX4_childOfMove_X4_has
theorem dX4_childOfMove_0 : decode cX4_childOfMove 0 = .ok (.aload_n 0, 1) := by decide +kernel
theorem dX4_childOfMove_1 : decode cX4_childOfMove 1 = .ok (.iload_n 1, 1) := by decide +kernel
theorem dX4_childOfMove_2 : decode cX4_childOfMove 2 = .ok (.iconst 0, 1) := by decide +kernel
theorem dX4_childOfMove_3 : decode cX4_childOfMove 3 = .ok (.invokevirtual 59, 3) := by decide +kernel
theorem dX4_childOfMove_6 : decode cX4_childOfMove 6 = .ok (.istore 4, 2) := by decide +kernel
theorem dX4_childOfMove_8 : decode cX4_childOfMove 8 = .ok (.iconst 0, 1) := by decide +kernel
theorem dX4_childOfMove_9 : decode cX4_childOfMove 9 = .ok (.istore 5, 2) := by decide +kernel
theorem dX4_childOfMove_11 : decode cX4_childOfMove 11 = .ok (.iload 5, 2) := by decide +kernel
theorem dX4_childOfMove_13 : decode cX4_childOfMove 13 = .ok (.aload_n 0, 1) := by decide +kernel
theorem dX4_childOfMove_14 : decode cX4_childOfMove 14 = .ok (.iload_n 1, 1) := by decide +kernel
theorem dX4_childOfMove_15 : decode cX4_childOfMove 15 = .ok (.invokevirtual 57, 3) := by decide +kernel
theorem dX4_childOfMove_18 : decode cX4_childOfMove 18 = .ok (.if_icmp .ge 52, 3) := by decide +kernel
theorem dX4_childOfMove_21 : decode cX4_childOfMove 21 = .ok (.aload_n 0, 1) := by decide +kernel
theorem dX4_childOfMove_22 : decode cX4_childOfMove 22 = .ok (.iload 4, 2) := by decide +kernel
theorem dX4_childOfMove_24 : decode cX4_childOfMove 24 = .ok (.invokevirtual 44, 3) := by decide +kernel
theorem dX4_childOfMove_27 : decode cX4_childOfMove 27 = .ok (.ifCond .eq 43, 3) := by decide +kernel
theorem dX4_childOfMove_30 : decode cX4_childOfMove 30 = .ok (.aload_n 0, 1) := by decide +kernel
theorem dX4_childOfMove_31 : decode cX4_childOfMove 31 = .ok (.getfield 15, 3) := by decide +kernel
theorem dX4_childOfMove_34 : decode cX4_childOfMove 34 = .ok (.iload 4, 2) := by decide +kernel
theorem dX4_childOfMove_36 : decode cX4_childOfMove 36 = .ok (.iaload, 1) := by decide +kernel
theorem dX4_childOfMove_37 : decode cX4_childOfMove 37 = .ok (.iload_n 2, 1) := by decide +kernel
theorem dX4_childOfMove_38 : decode cX4_childOfMove 38 = .ok (.if_icmp .ne 17, 3) := by decide +kernel
theorem dX4_childOfMove_41 : decode cX4_childOfMove 41 = .ok (.aload_n 0, 1) := by decide +kernel
theorem dX4_childOfMove_42 : decode cX4_childOfMove 42 = .ok (.getfield 18, 3) := by decide +kernel
theorem dX4_childOfMove_45 : decode cX4_childOfMove 45 = .ok (.iload 4, 2) := by decide +kernel
theorem dX4_childOfMove_47 : decode cX4_childOfMove 47 = .ok (.iaload, 1) := by decide +kernel
theorem dX4_childOfMove_48 : decode cX4_childOfMove 48 = .ok (.iload_n 3, 1) := by decide +kernel
theorem dX4_childOfMove_49 : decode cX4_childOfMove 49 = .ok (.if_icmp .ne 6, 3) := by decide +kernel
theorem dX4_childOfMove_52 : decode cX4_childOfMove 52 = .ok (.iload 4, 2) := by decide +kernel
theorem dX4_childOfMove_54 : decode cX4_childOfMove 54 = .ok (.ireturn, 1) := by decide +kernel
theorem dX4_childOfMove_55 : decode cX4_childOfMove 55 = .ok (.aload_n 0, 1) := by decide +kernel
theorem dX4_childOfMove_56 : decode cX4_childOfMove 56 = .ok (.getfield 33, 3) := by decide +kernel
theorem dX4_childOfMove_59 : decode cX4_childOfMove 59 = .ok (.iload 4, 2) := by decide +kernel
theorem dX4_childOfMove_61 : decode cX4_childOfMove 61 = .ok (.iaload, 1) := by decide +kernel
theorem dX4_childOfMove_62 : decode cX4_childOfMove 62 = .ok (.istore 4, 2) := by decide +kernel
theorem dX4_childOfMove_64 : decode cX4_childOfMove 64 = .ok (.iinc 5 1, 3) := by decide +kernel
theorem dX4_childOfMove_67 : decode cX4_childOfMove 67 = .ok (.goto (-56), 3) := by decide +kernel
theorem dX4_childOfMove_70 : decode cX4_childOfMove 70 = .ok (.iconst (-1), 1) := by decide +kernel
theorem dX4_childOfMove_71 : decode cX4_childOfMove 71 = .ok (.ireturn, 1) := by decide +kernel
set_option maxRecDepth 20000 in
theorem ggX4_grow_X4_childCount : GoodIn wsX4_grow wsX4_childCount := goodIn_r _ [9, 4, 10, 11, 12, 8, 13, 14, 27, 28, 29, 30, 31, 32, 33, 34, 35] (by decide +kernel) (by decide +kernel)
set_option maxRecDepth 20000 in
theorem gX4_grow_X4_childCount : GoodIn wsX4_grow (wsV RX4 57 RX4 yX4_childCount wsX4_childCount) := goodIn_app (goodIn_of _ (by decide +kernel)) ggX4_grow_X4_childCount
set_option maxRecDepth 20000 in
theorem ggX4_grow_X4_child : GoodIn wsX4_grow wsX4_child := goodIn_r _ [18, 4, 3, 2, 10, 11, 12, 8, 13, 14, 27, 28, 29, 30, 31, 32, 33, 34, 35] (by decide +kernel) (by decide +kernel)
set_option maxRecDepth 20000 in
theorem gX4_grow_X4_child : GoodIn wsX4_grow (wsV RX4 59 RX4 yX4_child wsX4_child) := goodIn_app (goodIn_of _ (by decide +kernel)) ggX4_grow_X4_child
set_option maxRecDepth 20000 in
theorem ggX4_grow_X4_has : GoodIn wsX4_grow wsX4_has := goodIn_r _ [13, 14, 27, 28, 29, 30, 31, 32, 33, 34, 35] (by decide +kernel) (by decide +kernel)
set_option maxRecDepth 20000 in
theorem gX4_grow_X4_has : GoodIn wsX4_grow (wsV RX4 44 RX4 yX4_has wsX4_has) := goodIn_app (goodIn_of _ (by decide +kernel)) ggX4_grow_X4_has
set_option maxRecDepth 20000 in
theorem ggX4_grow_X4_occupy : GoodIn wsX4_grow wsX4_occupy := goodIn_r _ [22, 14, 23, 24, 25, 26, 1, 4, 3, 2, 27, 28, 29, 30, 31, 32, 33, 34, 35] (by decide +kernel) (by decide +kernel)
set_option maxRecDepth 20000 in
theorem gX4_grow_X4_occupy : GoodIn wsX4_grow (wsV RX4 40 RX4 yX4_occupy wsX4_occupy) := goodIn_app (goodIn_of _ (by decide +kernel)) ggX4_grow_X4_occupy
theorem dX4_grow_0 : decode cX4_grow 0 = .ok (.aload_n 0, 1) := by decide +kernel
theorem dX4_grow_1 : decode cX4_grow 1 = .ok (.iload_n 1, 1) := by decide +kernel
theorem dX4_grow_2 : decode cX4_grow 2 = .ok (.aload_n 0, 1) := by decide +kernel
theorem dX4_grow_3 : decode cX4_grow 3 = .ok (.iload_n 1, 1) := by decide +kernel
theorem dX4_grow_4 : decode cX4_grow 4 = .ok (.invokevirtual 57, 3) := by decide +kernel
theorem dX4_grow_7 : decode cX4_grow 7 = .ok (.iconst 1, 1) := by decide +kernel
theorem dX4_grow_8 : decode cX4_grow 8 = .ok (.isub, 1) := by decide +kernel
theorem dX4_grow_9 : decode cX4_grow 9 = .ok (.invokevirtual 59, 3) := by decide +kernel
theorem dX4_grow_12 : decode cX4_grow 12 = .ok (.istore 4, 2) := by decide +kernel
theorem dX4_grow_14 : decode cX4_grow 14 = .ok (.aload_n 0, 1) := by decide +kernel
theorem dX4_grow_15 : decode cX4_grow 15 = .ok (.iload_n 1, 1) := by decide +kernel
theorem dX4_grow_16 : decode cX4_grow 16 = .ok (.invokevirtual 44, 3) := by decide +kernel
theorem dX4_grow_19 : decode cX4_grow 19 = .ok (.ifCond .eq 21, 3) := by decide +kernel
theorem dX4_grow_22 : decode cX4_grow 22 = .ok (.aload_n 0, 1) := by decide +kernel
theorem dX4_grow_23 : decode cX4_grow 23 = .ok (.iload_n 1, 1) := by decide +kernel
theorem dX4_grow_24 : decode cX4_grow 24 = .ok (.iload_n 2, 1) := by decide +kernel
theorem dX4_grow_25 : decode cX4_grow 25 = .ok (.iload_n 3, 1) := by decide +kernel
theorem dX4_grow_26 : decode cX4_grow 26 = .ok (.aload_n 0, 1) := by decide +kernel
theorem dX4_grow_27 : decode cX4_grow 27 = .ok (.getfield 24, 3) := by decide +kernel
theorem dX4_grow_30 : decode cX4_grow 30 = .ok (.iload_n 1, 1) := by decide +kernel
theorem dX4_grow_31 : decode cX4_grow 31 = .ok (.iaload, 1) := by decide +kernel
theorem dX4_grow_32 : decode cX4_grow 32 = .ok (.iconst 1, 1) := by decide +kernel
theorem dX4_grow_33 : decode cX4_grow 33 = .ok (.iadd, 1) := by decide +kernel
theorem dX4_grow_34 : decode cX4_grow 34 = .ok (.invokevirtual 40, 3) := by decide +kernel
theorem dX4_grow_37 : decode cX4_grow 37 = .ok (.goto 4, 3) := by decide +kernel
theorem dX4_grow_40 : decode cX4_grow 40 = .ok (.iconst (-1), 1) := by decide +kernel
theorem dX4_grow_41 : decode cX4_grow 41 = .ok (.istore 5, 2) := by decide +kernel
theorem dX4_grow_43 : decode cX4_grow 43 = .ok (.iload 5, 2) := by decide +kernel
theorem dX4_grow_45 : decode cX4_grow 45 = .ok (.iconst (-1), 1) := by decide +kernel
theorem dX4_grow_46 : decode cX4_grow 46 = .ok (.if_icmp .ne 5, 3) := by decide +kernel
theorem dX4_grow_49 : decode cX4_grow 49 = .ok (.iconst (-1), 1) := by decide +kernel
theorem dX4_grow_50 : decode cX4_grow 50 = .ok (.ireturn, 1) := by decide +kernel
theorem dX4_grow_51 : decode cX4_grow 51 = .ok (.aload_n 0, 1) := by decide +kernel
theorem dX4_grow_52 : decode cX4_grow 52 = .ok (.iload 4, 2) := by decide +kernel
theorem dX4_grow_54 : decode cX4_grow 54 = .ok (.invokevirtual 44, 3) := by decide +kernel
theorem dX4_grow_57 : decode cX4_grow 57 = .ok (.ifCond .eq 15, 3) := by decide +kernel
theorem dX4_grow_60 : decode cX4_grow 60 = .ok (.aload_n 0, 1) := by decide +kernel
theorem dX4_grow_61 : decode cX4_grow 61 = .ok (.getfield 33, 3) := by decide +kernel
theorem dX4_grow_64 : decode cX4_grow 64 = .ok (.iload 4, 2) := by decide +kernel
theorem dX4_grow_66 : decode cX4_grow 66 = .ok (.iload 5, 2) := by decide +kernel
theorem dX4_grow_68 : decode cX4_grow 68 = .ok (.iastore, 1) := by decide +kernel
theorem dX4_grow_69 : decode cX4_grow 69 = .ok (.goto 11, 3) := by decide +kernel
theorem dX4_grow_72 : decode cX4_grow 72 = .ok (.aload_n 0, 1) := by decide +kernel
theorem dX4_grow_73 : decode cX4_grow 73 = .ok (.getfield 30, 3) := by decide +kernel
theorem dX4_grow_76 : decode cX4_grow 76 = .ok (.iload_n 1, 1) := by decide +kernel
theorem dX4_grow_77 : decode cX4_grow 77 = .ok (.iload 5, 2) := by decide +kernel
theorem dX4_grow_79 : decode cX4_grow 79 = .ok (.iastore, 1) := by decide +kernel
theorem dX4_grow_80 : decode cX4_grow 80 = .ok (.aload_n 0, 1) := by decide +kernel
theorem dX4_grow_81 : decode cX4_grow 81 = .ok (.getfield 27, 3) := by decide +kernel
theorem dX4_grow_84 : decode cX4_grow 84 = .ok (.iload_n 1, 1) := by decide +kernel
theorem dX4_grow_85 : decode cX4_grow 85 = .ok (.dup2, 1) := by decide +kernel
theorem dX4_grow_86 : decode cX4_grow 86 = .ok (.iaload, 1) := by decide +kernel
theorem dX4_grow_87 : decode cX4_grow 87 = .ok (.iconst 1, 1) := by decide +kernel
theorem dX4_grow_88 : decode cX4_grow 88 = .ok (.iadd, 1) := by decide +kernel
theorem dX4_grow_89 : decode cX4_grow 89 = .ok (.iastore, 1) := by decide +kernel
theorem dX4_grow_90 : decode cX4_grow 90 = .ok (.iload 5, 2) := by decide +kernel
theorem dX4_grow_92 : decode cX4_grow 92 = .ok (.ireturn, 1) := by decide +kernel
set_option maxRecDepth 20000 in
theorem ggX4_placeOf_X4_above : GoodIn wsX4_placeOf wsX4_above := goodIn_r _ [6, 7, 8, 9, 10, 5, 11, 12, 23, 24, 25, 26, 27, 28, 29, 30, 31] (by decide +kernel) (by decide +kernel)
set_option maxRecDepth 20000 in
theorem gX4_placeOf_X4_above : GoodIn wsX4_placeOf (wsV RX4 48 RX4 yX4_above wsX4_above) := goodIn_app (goodIn_of _ (by decide +kernel)) ggX4_placeOf_X4_above
set_option maxRecDepth 20000 in
theorem ggX4_placeOf_X4_child : GoodIn wsX4_placeOf wsX4_child := goodIn_r _ [16, 17, 18, 1, 8, 9, 10, 5, 11, 12, 23, 24, 25, 26, 27, 28, 29, 30, 31] (by decide +kernel) (by decide +kernel)
set_option maxRecDepth 20000 in
theorem gX4_placeOf_X4_child : GoodIn wsX4_placeOf (wsV RX4 59 RX4 yX4_child wsX4_child) := goodIn_app (goodIn_of _ (by decide +kernel)) ggX4_placeOf_X4_child
set_option maxRecDepth 20000 in
theorem ggX4_placeOf_X4_childCount : GoodIn wsX4_placeOf wsX4_childCount := goodIn_r _ [22, 17, 8, 9, 10, 5, 11, 12, 23, 24, 25, 26, 27, 28, 29, 30, 31] (by decide +kernel) (by decide +kernel)
set_option maxRecDepth 20000 in
theorem gX4_placeOf_X4_childCount : GoodIn wsX4_placeOf (wsV RX4 57 RX4 yX4_childCount wsX4_childCount) := goodIn_app (goodIn_of _ (by decide +kernel)) ggX4_placeOf_X4_childCount
set_option maxRecDepth 20000 in
theorem ggX4_placeOf_X4_has : GoodIn wsX4_placeOf wsX4_has := goodIn_r _ [11, 12, 23, 24, 25, 26, 27, 28, 29, 30, 31] (by decide +kernel) (by decide +kernel)
set_option maxRecDepth 20000 in
theorem gX4_placeOf_X4_has : GoodIn wsX4_placeOf (wsV RX4 44 RX4 yX4_has wsX4_has) := goodIn_app (goodIn_of _ (by decide +kernel)) ggX4_placeOf_X4_has
theorem dX4_placeOf_0 : decode cX4_placeOf 0 = .ok (.aload_n 0, 1) := by decide +kernel
theorem dX4_placeOf_1 : decode cX4_placeOf 1 = .ok (.aload_n 0, 1) := by decide +kernel
theorem dX4_placeOf_2 : decode cX4_placeOf 2 = .ok (.iload_n 1, 1) := by decide +kernel
theorem dX4_placeOf_3 : decode cX4_placeOf 3 = .ok (.invokevirtual 48, 3) := by decide +kernel
theorem dX4_placeOf_6 : decode cX4_placeOf 6 = .ok (.iconst 0, 1) := by decide +kernel
theorem dX4_placeOf_7 : decode cX4_placeOf 7 = .ok (.invokevirtual 59, 3) := by decide +kernel
theorem dX4_placeOf_10 : decode cX4_placeOf 10 = .ok (.istore_n 2, 1) := by decide +kernel
theorem dX4_placeOf_11 : decode cX4_placeOf 11 = .ok (.iconst 0, 1) := by decide +kernel
theorem dX4_placeOf_12 : decode cX4_placeOf 12 = .ok (.istore_n 3, 1) := by decide +kernel
theorem dX4_placeOf_13 : decode cX4_placeOf 13 = .ok (.iload_n 3, 1) := by decide +kernel
theorem dX4_placeOf_14 : decode cX4_placeOf 14 = .ok (.aload_n 0, 1) := by decide +kernel
theorem dX4_placeOf_15 : decode cX4_placeOf 15 = .ok (.aload_n 0, 1) := by decide +kernel
theorem dX4_placeOf_16 : decode cX4_placeOf 16 = .ok (.iload_n 1, 1) := by decide +kernel
theorem dX4_placeOf_17 : decode cX4_placeOf 17 = .ok (.invokevirtual 48, 3) := by decide +kernel
theorem dX4_placeOf_20 : decode cX4_placeOf 20 = .ok (.invokevirtual 57, 3) := by decide +kernel
theorem dX4_placeOf_23 : decode cX4_placeOf 23 = .ok (.if_icmp .ge 31, 3) := by decide +kernel
theorem dX4_placeOf_26 : decode cX4_placeOf 26 = .ok (.aload_n 0, 1) := by decide +kernel
theorem dX4_placeOf_27 : decode cX4_placeOf 27 = .ok (.iload_n 2, 1) := by decide +kernel
theorem dX4_placeOf_28 : decode cX4_placeOf 28 = .ok (.invokevirtual 44, 3) := by decide +kernel
theorem dX4_placeOf_31 : decode cX4_placeOf 31 = .ok (.ifCond .eq 23, 3) := by decide +kernel
theorem dX4_placeOf_34 : decode cX4_placeOf 34 = .ok (.iload_n 2, 1) := by decide +kernel
theorem dX4_placeOf_35 : decode cX4_placeOf 35 = .ok (.iload_n 1, 1) := by decide +kernel
theorem dX4_placeOf_36 : decode cX4_placeOf 36 = .ok (.if_icmp .ne 5, 3) := by decide +kernel
theorem dX4_placeOf_39 : decode cX4_placeOf 39 = .ok (.iload_n 3, 1) := by decide +kernel
theorem dX4_placeOf_40 : decode cX4_placeOf 40 = .ok (.ireturn, 1) := by decide +kernel
theorem dX4_placeOf_41 : decode cX4_placeOf 41 = .ok (.aload_n 0, 1) := by decide +kernel
theorem dX4_placeOf_42 : decode cX4_placeOf 42 = .ok (.getfield 33, 3) := by decide +kernel
theorem dX4_placeOf_45 : decode cX4_placeOf 45 = .ok (.iload_n 2, 1) := by decide +kernel
theorem dX4_placeOf_46 : decode cX4_placeOf 46 = .ok (.iaload, 1) := by decide +kernel
theorem dX4_placeOf_47 : decode cX4_placeOf 47 = .ok (.istore_n 2, 1) := by decide +kernel
theorem dX4_placeOf_48 : decode cX4_placeOf 48 = .ok (.iinc 3 1, 3) := by decide +kernel
theorem dX4_placeOf_51 : decode cX4_placeOf 51 = .ok (.goto (-38), 3) := by decide +kernel
theorem dX4_placeOf_54 : decode cX4_placeOf 54 = .ok (.iconst (-1), 1) := by decide +kernel
theorem dX4_placeOf_55 : decode cX4_placeOf 55 = .ok (.ireturn, 1) := by decide +kernel
set_option maxRecDepth 20000 in
theorem ggX4_makeMain_X4_placeOf : GoodIn wsX4_makeMain wsX4_placeOf := goodIn_r _ [7, 1, 8, 9, 10, 6, 11, 12, 13, 14, 15, 16, 17, 18, 19, 20, 21, 22, 2, 23, 24, 25, 26, 27, 28, 29, 30, 31, 32, 33, 34, 35] (by decide +kernel) (by decide +kernel)
set_option maxRecDepth 20000 in
theorem gX4_makeMain_X4_placeOf : GoodIn wsX4_makeMain (wsV RX4 63 RX4 yX4_placeOf wsX4_placeOf) := goodIn_app (goodIn_of _ (by decide +kernel)) ggX4_makeMain_X4_placeOf
set_option maxRecDepth 20000 in
theorem ggX4_makeMain_X4_above : GoodIn wsX4_makeMain wsX4_above := goodIn_r _ [11, 12, 13, 14, 15, 6, 16, 17, 27, 28, 29, 30, 31, 32, 33, 34, 35] (by decide +kernel) (by decide +kernel)
set_option maxRecDepth 20000 in
theorem gX4_makeMain_X4_above : GoodIn wsX4_makeMain (wsV RX4 48 RX4 yX4_above wsX4_above) := goodIn_app (goodIn_of _ (by decide +kernel)) ggX4_makeMain_X4_above
set_option maxRecDepth 20000 in
theorem ggX4_makeMain_X4_child : GoodIn wsX4_makeMain wsX4_child := goodIn_r _ [21, 22, 2, 1, 13, 14, 15, 6, 16, 17, 27, 28, 29, 30, 31, 32, 33, 34, 35] (by decide +kernel) (by decide +kernel)
set_option maxRecDepth 20000 in
theorem gX4_makeMain_X4_child : GoodIn wsX4_makeMain (wsV RX4 59 RX4 yX4_child wsX4_child) := goodIn_app (goodIn_of _ (by decide +kernel)) ggX4_makeMain_X4_child
set_option maxRecDepth 20000 in
theorem ggX4_makeMain_X4_has : GoodIn wsX4_makeMain wsX4_has := goodIn_r _ [16, 17, 27, 28, 29, 30, 31, 32, 33, 34, 35] (by decide +kernel) (by decide +kernel)
set_option maxRecDepth 20000 in
theorem gX4_makeMain_X4_has : GoodIn wsX4_makeMain (wsV RX4 44 RX4 yX4_has wsX4_has) := goodIn_app (goodIn_of _ (by decide +kernel)) ggX4_makeMain_X4_has
theorem dX4_makeMain_0 : decode cX4_makeMain 0 = .ok (.aload_n 0, 1) := by decide +kernel
theorem dX4_makeMain_1 : decode cX4_makeMain 1 = .ok (.iload_n 1, 1) := by decide +kernel
theorem dX4_makeMain_2 : decode cX4_makeMain 2 = .ok (.invokevirtual 63, 3) := by decide +kernel
theorem dX4_makeMain_5 : decode cX4_makeMain 5 = .ok (.istore_n 2, 1) := by decide +kernel
theorem dX4_makeMain_6 : decode cX4_makeMain 6 = .ok (.aload_n 0, 1) := by decide +kernel
theorem dX4_makeMain_7 : decode cX4_makeMain 7 = .ok (.iload_n 1, 1) := by decide +kernel
theorem dX4_makeMain_8 : decode cX4_makeMain 8 = .ok (.invokevirtual 48, 3) := by decide +kernel
theorem dX4_makeMain_11 : decode cX4_makeMain 11 = .ok (.istore_n 3, 1) := by decide +kernel
theorem dX4_makeMain_12 : decode cX4_makeMain 12 = .ok (.aload_n 0, 1) := by decide +kernel
theorem dX4_makeMain_13 : decode cX4_makeMain 13 = .ok (.iload_n 3, 1) := by decide +kernel
theorem dX4_makeMain_14 : decode cX4_makeMain 14 = .ok (.iload_n 2, 1) := by decide +kernel
theorem dX4_makeMain_15 : decode cX4_makeMain 15 = .ok (.iconst 1, 1) := by decide +kernel
theorem dX4_makeMain_16 : decode cX4_makeMain 16 = .ok (.isub, 1) := by decide +kernel
theorem dX4_makeMain_17 : decode cX4_makeMain 17 = .ok (.invokevirtual 59, 3) := by decide +kernel
theorem dX4_makeMain_20 : decode cX4_makeMain 20 = .ok (.istore 4, 2) := by decide +kernel
theorem dX4_makeMain_22 : decode cX4_makeMain 22 = .ok (.aload_n 0, 1) := by decide +kernel
theorem dX4_makeMain_23 : decode cX4_makeMain 23 = .ok (.iload_n 1, 1) := by decide +kernel
theorem dX4_makeMain_24 : decode cX4_makeMain 24 = .ok (.invokevirtual 44, 3) := by decide +kernel
theorem dX4_makeMain_27 : decode cX4_makeMain 27 = .ok (.ifCond .eq 52, 3) := by decide +kernel
theorem dX4_makeMain_30 : decode cX4_makeMain 30 = .ok (.aload_n 0, 1) := by decide +kernel
theorem dX4_makeMain_31 : decode cX4_makeMain 31 = .ok (.iload_n 3, 1) := by decide +kernel
theorem dX4_makeMain_32 : decode cX4_makeMain 32 = .ok (.invokevirtual 44, 3) := by decide +kernel
theorem dX4_makeMain_35 : decode cX4_makeMain 35 = .ok (.ifCond .eq 44, 3) := by decide +kernel
theorem dX4_makeMain_38 : decode cX4_makeMain 38 = .ok (.aload_n 0, 1) := by decide +kernel
theorem dX4_makeMain_39 : decode cX4_makeMain 39 = .ok (.iload 4, 2) := by decide +kernel
theorem dX4_makeMain_41 : decode cX4_makeMain 41 = .ok (.invokevirtual 44, 3) := by decide +kernel
theorem dX4_makeMain_44 : decode cX4_makeMain 44 = .ok (.ifCond .eq 35, 3) := by decide +kernel
theorem dX4_makeMain_47 : decode cX4_makeMain 47 = .ok (.aload_n 0, 1) := by decide +kernel
theorem dX4_makeMain_48 : decode cX4_makeMain 48 = .ok (.getfield 33, 3) := by decide +kernel
theorem dX4_makeMain_51 : decode cX4_makeMain 51 = .ok (.iload 4, 2) := by decide +kernel
theorem dX4_makeMain_53 : decode cX4_makeMain 53 = .ok (.aload_n 0, 1) := by decide +kernel
theorem dX4_makeMain_54 : decode cX4_makeMain 54 = .ok (.getfield 33, 3) := by decide +kernel
theorem dX4_makeMain_57 : decode cX4_makeMain 57 = .ok (.iload_n 1, 1) := by decide +kernel
theorem dX4_makeMain_58 : decode cX4_makeMain 58 = .ok (.iaload, 1) := by decide +kernel
theorem dX4_makeMain_59 : decode cX4_makeMain 59 = .ok (.iastore, 1) := by decide +kernel
theorem dX4_makeMain_60 : decode cX4_makeMain 60 = .ok (.aload_n 0, 1) := by decide +kernel
theorem dX4_makeMain_61 : decode cX4_makeMain 61 = .ok (.getfield 33, 3) := by decide +kernel
theorem dX4_makeMain_64 : decode cX4_makeMain 64 = .ok (.iload_n 1, 1) := by decide +kernel
theorem dX4_makeMain_65 : decode cX4_makeMain 65 = .ok (.aload_n 0, 1) := by decide +kernel
theorem dX4_makeMain_66 : decode cX4_makeMain 66 = .ok (.getfield 30, 3) := by decide +kernel
theorem dX4_makeMain_69 : decode cX4_makeMain 69 = .ok (.iload_n 3, 1) := by decide +kernel
theorem dX4_makeMain_70 : decode cX4_makeMain 70 = .ok (.iaload, 1) := by decide +kernel
theorem dX4_makeMain_71 : decode cX4_makeMain 71 = .ok (.iastore, 1) := by decide +kernel
theorem dX4_makeMain_72 : decode cX4_makeMain 72 = .ok (.aload_n 0, 1) := by decide +kernel
theorem dX4_makeMain_73 : decode cX4_makeMain 73 = .ok (.getfield 30, 3) := by decide +kernel
theorem dX4_makeMain_76 : decode cX4_makeMain 76 = .ok (.iload_n 3, 1) := by decide +kernel
theorem dX4_makeMain_77 : decode cX4_makeMain 77 = .ok (.iload_n 1, 1) := by decide +kernel
theorem dX4_makeMain_78 : decode cX4_makeMain 78 = .ok (.iastore, 1) := by decide +kernel
theorem dX4_makeMain_79 : decode cX4_makeMain 79 = .ok (.iload_n 2, 1) := by decide +kernel
theorem dX4_makeMain_80 : decode cX4_makeMain 80 = .ok (.ireturn, 1) := by decide +kernel
set_option maxRecDepth 20000 in
theorem ggX4_cutToRoot_X4_occupy : GoodIn wsX4_cutToRoot wsX4_occupy := goodIn_r _ [6, 1, 7, 8, 9, 10, 11, 12, 13, 14, 15, 16, 17, 18, 19, 20, 21, 22, 23] (by decide +kernel) (by decide +kernel)
set_option maxRecDepth 20000 in
theorem gX4_cutToRoot_X4_occupy : GoodIn wsX4_cutToRoot (wsV RX4 40 RX4 yX4_occupy wsX4_occupy) := goodIn_app (goodIn_of _ (by decide +kernel)) ggX4_cutToRoot_X4_occupy
theorem dX4_cutToRoot_0 : decode cX4_cutToRoot 0 = .ok (.aload_n 0, 1) := by decide +kernel
theorem dX4_cutToRoot_1 : decode cX4_cutToRoot 1 = .ok (.iconst 0, 1) := by decide +kernel
theorem dX4_cutToRoot_2 : decode cX4_cutToRoot 2 = .ok (.putfield 36, 3) := by decide +kernel
theorem dX4_cutToRoot_5 : decode cX4_cutToRoot 5 = .ok (.aload_n 0, 1) := by decide +kernel
theorem dX4_cutToRoot_6 : decode cX4_cutToRoot 6 = .ok (.iconst (-1), 1) := by decide +kernel
theorem dX4_cutToRoot_7 : decode cX4_cutToRoot 7 = .ok (.iconst (-1), 1) := by decide +kernel
theorem dX4_cutToRoot_8 : decode cX4_cutToRoot 8 = .ok (.iconst (-1), 1) := by decide +kernel
theorem dX4_cutToRoot_9 : decode cX4_cutToRoot 9 = .ok (.iconst 0, 1) := by decide +kernel
theorem dX4_cutToRoot_10 : decode cX4_cutToRoot 10 = .ok (.invokevirtual 40, 3) := by decide +kernel
theorem dX4_cutToRoot_13 : decode cX4_cutToRoot 13 = .ok (.pop, 1) := by decide +kernel
theorem dX4_cutToRoot_14 : decode cX4_cutToRoot 14 = .ok (.return_, 1) := by decide +kernel
set_option maxRecDepth 20000 in
theorem ggX5_init_X1_init : GoodIn wsX5_init wsX1_init := goodIn_r _ [37, 38, 2, 3, 20, 39, 40, 41, 42, 43, 44, 89, 90, 91, 92, 93, 94] (by decide +kernel) (by decide +kernel)
set_option maxRecDepth 20000 in
theorem gX5_init_X1_init_n11 : GoodIn wsX5_init (wsX1_init) := ggX5_init_X1_init
set_option maxRecDepth 20000 in
theorem ggX5_init_X0_init : GoodIn wsX5_init wsX0_init := goodIn_r _ [47, 48, 2, 3, 20, 49, 50, 51, 52, 53, 54, 111, 112] (by decide +kernel) (by decide +kernel)
set_option maxRecDepth 20000 in
theorem gX5_init_X0_init : GoodIn wsX5_init (wsX0_init) := ggX5_init_X0_init
set_option maxRecDepth 20000 in
theorem ggX5_init_X4_init : GoodIn wsX5_init wsX4_init := goodIn_r _ [57, 58, 2, 3, 20, 59, 60, 61, 62, 63, 64, 65, 66, 67, 68, 69, 70, 14, 71, 113, 114, 115, 116, 117, 118, 119, 120, 121] (by decide +kernel) (by decide +kernel)
set_option maxRecDepth 20000 in
theorem gX5_init_X4_init : GoodIn wsX5_init (wsX4_init) := ggX5_init_X4_init
set_option maxRecDepth 20000 in
theorem ggX5_init_X2_init : GoodIn wsX5_init wsX2_init := goodIn_r _ [73, 74, 2, 3, 75, 76, 77, 78, 79, 80, 81, 82, 122, 123, 124, 125, 126, 127, 128, 129] (by decide +kernel) (by decide +kernel)
set_option maxRecDepth 20000 in
theorem gX5_init_X2_init_n34 : GoodIn wsX5_init (wsX2_init) := ggX5_init_X2_init
set_option maxRecDepth 20000 in
theorem ggX5_init_X3_init : GoodIn wsX5_init wsX3_init := goodIn_r _ [84, 85, 2, 3, 20, 86, 87, 88, 130, 131, 132] (by decide +kernel) (by decide +kernel)
set_option maxRecDepth 20000 in
theorem gX5_init_X3_init_n48 : GoodIn wsX5_init (wsX3_init) := ggX5_init_X3_init
theorem dX5_init_0 : decode cX5_init 0 = .ok (.aload_n 0, 1) := by decide +kernel
theorem dX5_init_1 : decode cX5_init 1 = .ok (.invokespecial 3, 3) := by decide +kernel
theorem dX5_init_4 : decode cX5_init 4 = .ok (.aload_n 0, 1) := by decide +kernel
theorem dX5_init_5 : decode cX5_init 5 = .ok (.new 9, 3) := by decide +kernel
theorem dX5_init_8 : decode cX5_init 8 = .ok (.dup, 1) := by decide +kernel
theorem dX5_init_9 : decode cX5_init 9 = .ok (.invokespecial 11, 3) := by decide +kernel
theorem dX5_init_12 : decode cX5_init 12 = .ok (.putfield 12, 3) := by decide +kernel
theorem dX5_init_15 : decode cX5_init 15 = .ok (.aload_n 0, 1) := by decide +kernel
theorem dX5_init_16 : decode cX5_init 16 = .ok (.new 16, 3) := by decide +kernel
theorem dX5_init_19 : decode cX5_init 19 = .ok (.dup, 1) := by decide +kernel
theorem dX5_init_20 : decode cX5_init 20 = .ok (.aload_n 0, 1) := by decide +kernel
theorem dX5_init_21 : decode cX5_init 21 = .ok (.getfield 12, 3) := by decide +kernel
theorem dX5_init_24 : decode cX5_init 24 = .ok (.invokespecial 18, 3) := by decide +kernel
theorem dX5_init_27 : decode cX5_init 27 = .ok (.putfield 21, 3) := by decide +kernel
theorem dX5_init_30 : decode cX5_init 30 = .ok (.aload_n 0, 1) := by decide +kernel
theorem dX5_init_31 : decode cX5_init 31 = .ok (.new 25, 3) := by decide +kernel
theorem dX5_init_34 : decode cX5_init 34 = .ok (.dup, 1) := by decide +kernel
theorem dX5_init_35 : decode cX5_init 35 = .ok (.invokespecial 27, 3) := by decide +kernel
theorem dX5_init_38 : decode cX5_init 38 = .ok (.putfield 28, 3) := by decide +kernel
theorem dX5_init_41 : decode cX5_init 41 = .ok (.aload_n 0, 1) := by decide +kernel
theorem dX5_init_42 : decode cX5_init 42 = .ok (.new 32, 3) := by decide +kernel
theorem dX5_init_45 : decode cX5_init 45 = .ok (.dup, 1) := by decide +kernel
theorem dX5_init_46 : decode cX5_init 46 = .ok (.invokespecial 34, 3) := by decide +kernel
theorem dX5_init_49 : decode cX5_init 49 = .ok (.putfield 35, 3) := by decide +kernel
theorem dX5_init_52 : decode cX5_init 52 = .ok (.aload_n 0, 1) := by decide +kernel
theorem dX5_init_53 : decode cX5_init 53 = .ok (.sipush 200, 3) := by decide +kernel
theorem dX5_init_56 : decode cX5_init 56 = .ok (.newarray .int, 2) := by decide +kernel
theorem dX5_init_58 : decode cX5_init 58 = .ok (.putfield 39, 3) := by decide +kernel
theorem dX5_init_61 : decode cX5_init 61 = .ok (.aload_n 0, 1) := by decide +kernel
theorem dX5_init_62 : decode cX5_init 62 = .ok (.sipush 2000, 3) := by decide +kernel
theorem dX5_init_65 : decode cX5_init 65 = .ok (.newarray .int, 2) := by decide +kernel
theorem dX5_init_67 : decode cX5_init 67 = .ok (.putfield 43, 3) := by decide +kernel
theorem dX5_init_70 : decode cX5_init 70 = .ok (.aload_n 0, 1) := by decide +kernel
theorem dX5_init_71 : decode cX5_init 71 = .ok (.new 46, 3) := by decide +kernel
theorem dX5_init_74 : decode cX5_init 74 = .ok (.dup, 1) := by decide +kernel
theorem dX5_init_75 : decode cX5_init 75 = .ok (.invokespecial 48, 3) := by decide +kernel
theorem dX5_init_78 : decode cX5_init 78 = .ok (.putfield 49, 3) := by decide +kernel
theorem dX5_init_81 : decode cX5_init 81 = .ok (.aload_n 0, 1) := by decide +kernel
theorem dX5_init_82 : decode cX5_init 82 = .ok (.new 46, 3) := by decide +kernel
theorem dX5_init_85 : decode cX5_init 85 = .ok (.dup, 1) := by decide +kernel
theorem dX5_init_86 : decode cX5_init 86 = .ok (.invokespecial 48, 3) := by decide +kernel
theorem dX5_init_89 : decode cX5_init 89 = .ok (.putfield 53, 3) := by decide +kernel
theorem dX5_init_92 : decode cX5_init 92 = .ok (.aload_n 0, 1) := by decide +kernel
theorem dX5_init_93 : decode cX5_init 93 = .ok (.iconst 0, 1) := by decide +kernel
theorem dX5_init_94 : decode cX5_init 94 = .ok (.putfield 56, 3) := by decide +kernel
theorem dX5_init_97 : decode cX5_init 97 = .ok (.aload_n 0, 1) := by decide +kernel
theorem dX5_init_98 : decode cX5_init 98 = .ok (.iconst 0, 1) := by decide +kernel
theorem dX5_init_99 : decode cX5_init 99 = .ok (.putfield 60, 3) := by decide +kernel
theorem dX5_init_102 : decode cX5_init 102 = .ok (.aload_n 0, 1) := by decide +kernel
theorem dX5_init_103 : decode cX5_init 103 = .ok (.iconst 0, 1) := by decide +kernel
theorem dX5_init_104 : decode cX5_init 104 = .ok (.putfield 63, 3) := by decide +kernel
theorem dX5_init_107 : decode cX5_init 107 = .ok (.aload_n 0, 1) := by decide +kernel
theorem dX5_init_108 : decode cX5_init 108 = .ok (.iconst (-1), 1) := by decide +kernel
theorem dX5_init_109 : decode cX5_init 109 = .ok (.putfield 67, 3) := by decide +kernel
theorem dX5_init_112 : decode cX5_init 112 = .ok (.aload_n 0, 1) := by decide +kernel
theorem dX5_init_113 : decode cX5_init 113 = .ok (.iconst (-1), 1) := by decide +kernel
theorem dX5_init_114 : decode cX5_init 114 = .ok (.putfield 70, 3) := by decide +kernel
theorem dX5_init_117 : decode cX5_init 117 = .ok (.aload_n 0, 1) := by decide +kernel
theorem dX5_init_118 : decode cX5_init 118 = .ok (.iconst (-1), 1) := by decide +kernel
theorem dX5_init_119 : decode cX5_init 119 = .ok (.putfield 73, 3) := by decide +kernel
theorem dX5_init_122 : decode cX5_init 122 = .ok (.aload_n 0, 1) := by decide +kernel
theorem dX5_init_123 : decode cX5_init 123 = .ok (.iconst (-1), 1) := by decide +kernel
theorem dX5_init_124 : decode cX5_init 124 = .ok (.putfield 76, 3) := by decide +kernel
theorem dX5_init_127 : decode cX5_init 127 = .ok (.aload_n 0, 1) := by decide +kernel
theorem dX5_init_128 : decode cX5_init 128 = .ok (.iconst (-1), 1) := by decide +kernel
theorem dX5_init_129 : decode cX5_init 129 = .ok (.putfield 79, 3) := by decide +kernel
theorem dX5_init_132 : decode cX5_init 132 = .ok (.return_, 1) := by decide +kernel
set_option maxRecDepth 20000 in
theorem ggX5_addKind_X1_withLetter : GoodIn wsX5_addKind wsX1_withLetter := goodIn_r _ [11, 12, 13, 44, 45, 46, 47, 48, 49] (by decide +kernel) (by decide +kernel)
set_option maxRecDepth 20000 in
theorem gX5_addKind_X1_withLetter : GoodIn wsX5_addKind (wsV RX5 82 RX1 yX1_withLetter wsX1_withLetter) := goodIn_app (goodIn_of _ (by decide +kernel)) ggX5_addKind_X1_withLetter
set_option maxRecDepth 20000 in
theorem ggX5_addKind_X1_size : GoodIn wsX5_addKind wsX1_size := goodIn_r _ [17, 12, 44, 45, 46, 47, 48, 49] (by decide +kernel) (by decide +kernel)
set_option maxRecDepth 20000 in
theorem gX5_addKind_X1_size : GoodIn wsX5_addKind (wsV RX5 93 RX1 yX1_size wsX1_size) := goodIn_app (goodIn_of _ (by decide +kernel)) ggX5_addKind_X1_size
set_option maxRecDepth 20000 in
theorem ggX5_addKind_X4_size : GoodIn wsX5_addKind wsX4_size := goodIn_r _ [22, 23, 50, 51, 52, 53, 54, 55, 56, 57, 58] (by decide +kernel) (by decide +kernel)
set_option maxRecDepth 20000 in
theorem gX5_addKind_X4_size : GoodIn wsX5_addKind (wsV RX5 97 RX4 yX4_size wsX4_size) := goodIn_app (goodIn_of _ (by decide +kernel)) ggX5_addKind_X4_size
set_option maxRecDepth 20000 in
theorem ggX5_addKind_X1_include : GoodIn wsX5_addKind wsX1_include := goodIn_r _ [27, 12, 13, 44, 45, 46, 47, 48, 49] (by decide +kernel) (by decide +kernel)
set_option maxRecDepth 20000 in
theorem gX5_addKind_X1_include : GoodIn wsX5_addKind (wsV RX5 103 RX1 yX1_include wsX1_include) := goodIn_app (goodIn_of _ (by decide +kernel)) ggX5_addKind_X1_include
theorem dX5_addKind_0 : decode cX5_addKind 0 = .ok (.iload_n 1, 1) := by decide +kernel
theorem dX5_addKind_1 : decode cX5_addKind 1 = .ok (.bipush 65, 2) := by decide +kernel
theorem dX5_addKind_3 : decode cX5_addKind 3 = .ok (.if_icmp .lt 21, 3) := by decide +kernel
theorem dX5_addKind_6 : decode cX5_addKind 6 = .ok (.iload_n 1, 1) := by decide +kernel
theorem dX5_addKind_7 : decode cX5_addKind 7 = .ok (.bipush 90, 2) := by decide +kernel
theorem dX5_addKind_9 : decode cX5_addKind 9 = .ok (.if_icmp .gt 15, 3) := by decide +kernel
theorem dX5_addKind_12 : decode cX5_addKind 12 = .ok (.aload_n 0, 1) := by decide +kernel
theorem dX5_addKind_13 : decode cX5_addKind 13 = .ok (.getfield 12, 3) := by decide +kernel
theorem dX5_addKind_16 : decode cX5_addKind 16 = .ok (.iload_n 1, 1) := by decide +kernel
theorem dX5_addKind_17 : decode cX5_addKind 17 = .ok (.invokevirtual 82, 3) := by decide +kernel
theorem dX5_addKind_20 : decode cX5_addKind 20 = .ok (.iconst (-1), 1) := by decide +kernel
theorem dX5_addKind_21 : decode cX5_addKind 21 = .ok (.if_icmp .eq 13, 3) := by decide +kernel
theorem dX5_addKind_24 : decode cX5_addKind 24 = .ok (.new 86, 3) := by decide +kernel
theorem dX5_addKind_27 : decode cX5_addKind 27 = .ok (.dup, 1) := by decide +kernel
theorem dX5_addKind_28 : decode cX5_addKind 28 = .ok (.ldc 88, 2) := by decide +kernel
theorem dX5_addKind_30 : decode cX5_addKind 30 = .ok (.invokespecial 90, 3) := by decide +kernel
theorem dX5_addKind_33 : decode cX5_addKind 33 = .ok (.athrow, 1) := by decide +kernel
theorem dX5_addKind_34 : decode cX5_addKind 34 = .ok (.aload_n 0, 1) := by decide +kernel
theorem dX5_addKind_35 : decode cX5_addKind 35 = .ok (.getfield 12, 3) := by decide +kernel
theorem dX5_addKind_38 : decode cX5_addKind 38 = .ok (.invokevirtual 93, 3) := by decide +kernel
theorem dX5_addKind_41 : decode cX5_addKind 41 = .ok (.bipush 6, 2) := by decide +kernel
theorem dX5_addKind_43 : decode cX5_addKind 43 = .ok (.if_icmp .ge 14, 3) := by decide +kernel
theorem dX5_addKind_46 : decode cX5_addKind 46 = .ok (.aload_n 0, 1) := by decide +kernel
theorem dX5_addKind_47 : decode cX5_addKind 47 = .ok (.getfield 28, 3) := by decide +kernel
theorem dX5_addKind_50 : decode cX5_addKind 50 = .ok (.invokevirtual 97, 3) := by decide +kernel
theorem dX5_addKind_53 : decode cX5_addKind 53 = .ok (.iconst 1, 1) := by decide +kernel
theorem dX5_addKind_54 : decode cX5_addKind 54 = .ok (.if_icmp .le 13, 3) := by decide +kernel
theorem dX5_addKind_57 : decode cX5_addKind 57 = .ok (.new 98, 3) := by decide +kernel
theorem dX5_addKind_60 : decode cX5_addKind 60 = .ok (.dup, 1) := by decide +kernel
theorem dX5_addKind_61 : decode cX5_addKind 61 = .ok (.ldc 100, 2) := by decide +kernel
theorem dX5_addKind_63 : decode cX5_addKind 63 = .ok (.invokespecial 102, 3) := by decide +kernel
theorem dX5_addKind_66 : decode cX5_addKind 66 = .ok (.athrow, 1) := by decide +kernel
theorem dX5_addKind_67 : decode cX5_addKind 67 = .ok (.aload_n 0, 1) := by decide +kernel
theorem dX5_addKind_68 : decode cX5_addKind 68 = .ok (.getfield 12, 3) := by decide +kernel
theorem dX5_addKind_71 : decode cX5_addKind 71 = .ok (.iload_n 1, 1) := by decide +kernel
theorem dX5_addKind_72 : decode cX5_addKind 72 = .ok (.invokevirtual 103, 3) := by decide +kernel
theorem dX5_addKind_75 : decode cX5_addKind 75 = .ok (.ireturn, 1) := by decide +kernel
set_option maxRecDepth 20000 in
theorem ggX5_addStep_X1_has : GoodIn wsX5_addStep wsX1_has := goodIn_r _ [13, 14, 54, 55, 56, 57, 58, 59] (by decide +kernel) (by decide +kernel)
set_option maxRecDepth 20000 in
theorem gX5_addStep_X1_has : GoodIn wsX5_addStep (wsV RX5 106 RX1 yX1_has wsX1_has) := goodIn_app (goodIn_of _ (by decide +kernel)) ggX5_addStep_X1_has
set_option maxRecDepth 20000 in
theorem ggX5_addStep_X5_isStep : GoodIn wsX5_addStep wsX5_isStep := goodIn_r _ [18] (by decide +kernel) (by decide +kernel)
set_option maxRecDepth 20000 in
theorem gX5_addStep_X5_isStep : GoodIn wsX5_addStep (va_wsS RX5 115 yX5_isStep wsX5_isStep) := goodIn_app (goodIn_of _ (by decide +kernel)) ggX5_addStep_X5_isStep
set_option maxRecDepth 20000 in
theorem ggX5_addStep_X1_stepCount : GoodIn wsX5_addStep wsX1_stepCount := goodIn_r _ [22, 23, 24, 10, 11, 12, 13, 14, 54, 55, 56, 57, 58, 59] (by decide +kernel) (by decide +kernel)
set_option maxRecDepth 20000 in
theorem gX5_addStep_X1_stepCount : GoodIn wsX5_addStep (wsV RX5 121 RX1 yX1_stepCount wsX1_stepCount) := goodIn_app (goodIn_of _ (by decide +kernel)) ggX5_addStep_X1_stepCount
set_option maxRecDepth 20000 in
theorem ggX5_addStep_X4_size : GoodIn wsX5_addStep wsX4_size := goodIn_r _ [29, 30, 60, 61, 62, 63, 64, 65, 66, 67, 68] (by decide +kernel) (by decide +kernel)
set_option maxRecDepth 20000 in
theorem gX5_addStep_X4_size : GoodIn wsX5_addStep (wsV RX5 97 RX4 yX4_size wsX4_size) := goodIn_app (goodIn_of _ (by decide +kernel)) ggX5_addStep_X4_size
set_option maxRecDepth 20000 in
theorem ggX5_addStep_X1_includeStep : GoodIn wsX5_addStep wsX1_includeStep := goodIn_r _ [34, 23, 35, 36, 37, 24, 10, 11, 12, 13, 14, 54, 55, 56, 57, 58, 59] (by decide +kernel) (by decide +kernel)
set_option maxRecDepth 20000 in
theorem gX5_addStep_X1_includeStep : GoodIn wsX5_addStep (wsV RX5 126 RX1 yX1_includeStep wsX1_includeStep) := goodIn_app (goodIn_of _ (by decide +kernel)) ggX5_addStep_X1_includeStep
theorem dX5_addStep_0 : decode cX5_addStep 0 = .ok (.aload_n 0, 1) := by decide +kernel
theorem dX5_addStep_1 : decode cX5_addStep 1 = .ok (.getfield 12, 3) := by decide +kernel
theorem dX5_addStep_4 : decode cX5_addStep 4 = .ok (.iload_n 1, 1) := by decide +kernel
theorem dX5_addStep_5 : decode cX5_addStep 5 = .ok (.invokevirtual 106, 3) := by decide +kernel
theorem dX5_addStep_8 : decode cX5_addStep 8 = .ok (.ifCond .ne 13, 3) := by decide +kernel
theorem dX5_addStep_11 : decode cX5_addStep 11 = .ok (.new 110, 3) := by decide +kernel
theorem dX5_addStep_14 : decode cX5_addStep 14 = .ok (.dup, 1) := by decide +kernel
theorem dX5_addStep_15 : decode cX5_addStep 15 = .ok (.ldc 112, 2) := by decide +kernel
theorem dX5_addStep_17 : decode cX5_addStep 17 = .ok (.invokespecial 114, 3) := by decide +kernel
theorem dX5_addStep_20 : decode cX5_addStep 20 = .ok (.athrow, 1) := by decide +kernel
theorem dX5_addStep_21 : decode cX5_addStep 21 = .ok (.iload_n 2, 1) := by decide +kernel
theorem dX5_addStep_22 : decode cX5_addStep 22 = .ok (.iload_n 3, 1) := by decide +kernel
theorem dX5_addStep_23 : decode cX5_addStep 23 = .ok (.invokestatic 115, 3) := by decide +kernel
theorem dX5_addStep_26 : decode cX5_addStep 26 = .ok (.ifCond .eq 16, 3) := by decide +kernel
theorem dX5_addStep_29 : decode cX5_addStep 29 = .ok (.iload 4, 2) := by decide +kernel
theorem dX5_addStep_31 : decode cX5_addStep 31 = .ok (.iconst 1, 1) := by decide +kernel
theorem dX5_addStep_32 : decode cX5_addStep 32 = .ok (.if_icmp .lt 10, 3) := by decide +kernel
theorem dX5_addStep_35 : decode cX5_addStep 35 = .ok (.iload 4, 2) := by decide +kernel
theorem dX5_addStep_37 : decode cX5_addStep 37 = .ok (.bipush 7, 2) := by decide +kernel
theorem dX5_addStep_39 : decode cX5_addStep 39 = .ok (.if_icmp .le 13, 3) := by decide +kernel
theorem dX5_addStep_42 : decode cX5_addStep 42 = .ok (.new 86, 3) := by decide +kernel
theorem dX5_addStep_45 : decode cX5_addStep 45 = .ok (.dup, 1) := by decide +kernel
theorem dX5_addStep_46 : decode cX5_addStep 46 = .ok (.ldc 119, 2) := by decide +kernel
theorem dX5_addStep_48 : decode cX5_addStep 48 = .ok (.invokespecial 90, 3) := by decide +kernel
theorem dX5_addStep_51 : decode cX5_addStep 51 = .ok (.athrow, 1) := by decide +kernel
theorem dX5_addStep_52 : decode cX5_addStep 52 = .ok (.aload_n 0, 1) := by decide +kernel
theorem dX5_addStep_53 : decode cX5_addStep 53 = .ok (.getfield 12, 3) := by decide +kernel
theorem dX5_addStep_56 : decode cX5_addStep 56 = .ok (.iload_n 1, 1) := by decide +kernel
theorem dX5_addStep_57 : decode cX5_addStep 57 = .ok (.invokevirtual 121, 3) := by decide +kernel
theorem dX5_addStep_60 : decode cX5_addStep 60 = .ok (.bipush 8, 2) := by decide +kernel
theorem dX5_addStep_62 : decode cX5_addStep 62 = .ok (.if_icmp .ge 14, 3) := by decide +kernel
theorem dX5_addStep_65 : decode cX5_addStep 65 = .ok (.aload_n 0, 1) := by decide +kernel
theorem dX5_addStep_66 : decode cX5_addStep 66 = .ok (.getfield 28, 3) := by decide +kernel
theorem dX5_addStep_69 : decode cX5_addStep 69 = .ok (.invokevirtual 97, 3) := by decide +kernel
theorem dX5_addStep_72 : decode cX5_addStep 72 = .ok (.iconst 1, 1) := by decide +kernel
theorem dX5_addStep_73 : decode cX5_addStep 73 = .ok (.if_icmp .le 13, 3) := by decide +kernel
theorem dX5_addStep_76 : decode cX5_addStep 76 = .ok (.new 98, 3) := by decide +kernel
theorem dX5_addStep_79 : decode cX5_addStep 79 = .ok (.dup, 1) := by decide +kernel
theorem dX5_addStep_80 : decode cX5_addStep 80 = .ok (.ldc 124, 2) := by decide +kernel
theorem dX5_addStep_82 : decode cX5_addStep 82 = .ok (.invokespecial 102, 3) := by decide +kernel
theorem dX5_addStep_85 : decode cX5_addStep 85 = .ok (.athrow, 1) := by decide +kernel
theorem dX5_addStep_86 : decode cX5_addStep 86 = .ok (.aload_n 0, 1) := by decide +kernel
theorem dX5_addStep_87 : decode cX5_addStep 87 = .ok (.getfield 12, 3) := by decide +kernel
theorem dX5_addStep_90 : decode cX5_addStep 90 = .ok (.iload_n 1, 1) := by decide +kernel
theorem dX5_addStep_91 : decode cX5_addStep 91 = .ok (.iload_n 2, 1) := by decide +kernel
theorem dX5_addStep_92 : decode cX5_addStep 92 = .ok (.iload_n 3, 1) := by decide +kernel
theorem dX5_addStep_93 : decode cX5_addStep 93 = .ok (.iload 4, 2) := by decide +kernel
theorem dX5_addStep_95 : decode cX5_addStep 95 = .ok (.invokevirtual 126, 3) := by decide +kernel
theorem dX5_addStep_98 : decode cX5_addStep 98 = .ok (.ireturn, 1) := by decide +kernel
set_option maxRecDepth 20000 in
theorem ggX5_put_X5_isSquare : GoodIn wsX5_put wsX5_isSquare := goodIn_r _ [13] (by decide +kernel) (by decide +kernel)
set_option maxRecDepth 20000 in
theorem gX5_put_X5_isSquare : GoodIn wsX5_put (va_wsS RX5 130 yX5_isSquare wsX5_isSquare) := goodIn_app (goodIn_of _ (by decide +kernel)) ggX5_put_X5_isSquare
set_option maxRecDepth 20000 in
theorem ggX5_put_X1_has : GoodIn wsX5_put wsX1_has := goodIn_r _ [18, 19, 48, 49, 50, 51, 52, 53] (by decide +kernel) (by decide +kernel)
set_option maxRecDepth 20000 in
theorem gX5_put_X1_has : GoodIn wsX5_put (wsV RX5 106 RX1 yX1_has wsX1_has) := goodIn_app (goodIn_of _ (by decide +kernel)) ggX5_put_X1_has
set_option maxRecDepth 20000 in
theorem ggX5_put_X4_size : GoodIn wsX5_put wsX4_size := goodIn_r _ [24, 25, 54, 55, 56, 57, 58, 59, 60, 61, 62] (by decide +kernel) (by decide +kernel)
set_option maxRecDepth 20000 in
theorem gX5_put_X4_size : GoodIn wsX5_put (wsV RX5 97 RX4 yX4_size wsX4_size) := goodIn_app (goodIn_of _ (by decide +kernel)) ggX5_put_X4_size
set_option maxRecDepth 20000 in
theorem ggX5_put_X0_replace : GoodIn wsX5_put wsX0_replace := goodIn_r _ [30, 31, 11, 12, 13, 63, 64] (by decide +kernel) (by decide +kernel)
set_option maxRecDepth 20000 in
theorem gX5_put_X0_replace : GoodIn wsX5_put (wsV RX5 139 RX0 yX0_replace wsX0_replace) := goodIn_app (goodIn_of _ (by decide +kernel)) ggX5_put_X0_replace
theorem dX5_put_0 : decode cX5_put 0 = .ok (.iload_n 1, 1) := by decide +kernel
theorem dX5_put_1 : decode cX5_put 1 = .ok (.invokestatic 130, 3) := by decide +kernel
theorem dX5_put_4 : decode cX5_put 4 = .ok (.ifCond .eq 19, 3) := by decide +kernel
theorem dX5_put_7 : decode cX5_put 7 = .ok (.iload_n 2, 1) := by decide +kernel
theorem dX5_put_8 : decode cX5_put 8 = .ok (.iconst (-1), 1) := by decide +kernel
theorem dX5_put_9 : decode cX5_put 9 = .ok (.if_icmp .eq 24, 3) := by decide +kernel
theorem dX5_put_12 : decode cX5_put 12 = .ok (.aload_n 0, 1) := by decide +kernel
theorem dX5_put_13 : decode cX5_put 13 = .ok (.getfield 12, 3) := by decide +kernel
theorem dX5_put_16 : decode cX5_put 16 = .ok (.iload_n 2, 1) := by decide +kernel
theorem dX5_put_17 : decode cX5_put 17 = .ok (.invokevirtual 106, 3) := by decide +kernel
theorem dX5_put_20 : decode cX5_put 20 = .ok (.ifCond .ne 13, 3) := by decide +kernel
theorem dX5_put_23 : decode cX5_put 23 = .ok (.new 110, 3) := by decide +kernel
theorem dX5_put_26 : decode cX5_put 26 = .ok (.dup, 1) := by decide +kernel
theorem dX5_put_27 : decode cX5_put 27 = .ok (.ldc 133, 2) := by decide +kernel
theorem dX5_put_29 : decode cX5_put 29 = .ok (.invokespecial 114, 3) := by decide +kernel
theorem dX5_put_32 : decode cX5_put 32 = .ok (.athrow, 1) := by decide +kernel
theorem dX5_put_33 : decode cX5_put 33 = .ok (.iload_n 3, 1) := by decide +kernel
theorem dX5_put_34 : decode cX5_put 34 = .ok (.ifCond .eq 18, 3) := by decide +kernel
theorem dX5_put_37 : decode cX5_put 37 = .ok (.iload_n 3, 1) := by decide +kernel
theorem dX5_put_38 : decode cX5_put 38 = .ok (.iconst 1, 1) := by decide +kernel
theorem dX5_put_39 : decode cX5_put 39 = .ok (.if_icmp .eq 13, 3) := by decide +kernel
theorem dX5_put_42 : decode cX5_put 42 = .ok (.new 86, 3) := by decide +kernel
theorem dX5_put_45 : decode cX5_put 45 = .ok (.dup, 1) := by decide +kernel
theorem dX5_put_46 : decode cX5_put 46 = .ok (.ldc 135, 2) := by decide +kernel
theorem dX5_put_48 : decode cX5_put 48 = .ok (.invokespecial 90, 3) := by decide +kernel
theorem dX5_put_51 : decode cX5_put 51 = .ok (.athrow, 1) := by decide +kernel
theorem dX5_put_52 : decode cX5_put 52 = .ok (.aload_n 0, 1) := by decide +kernel
theorem dX5_put_53 : decode cX5_put 53 = .ok (.getfield 28, 3) := by decide +kernel
theorem dX5_put_56 : decode cX5_put 56 = .ok (.invokevirtual 97, 3) := by decide +kernel
theorem dX5_put_59 : decode cX5_put 59 = .ok (.iconst 1, 1) := by decide +kernel
theorem dX5_put_60 : decode cX5_put 60 = .ok (.if_icmp .le 13, 3) := by decide +kernel
theorem dX5_put_63 : decode cX5_put 63 = .ok (.new 98, 3) := by decide +kernel
theorem dX5_put_66 : decode cX5_put 66 = .ok (.dup, 1) := by decide +kernel
theorem dX5_put_67 : decode cX5_put 67 = .ok (.ldc 137, 2) := by decide +kernel
theorem dX5_put_69 : decode cX5_put 69 = .ok (.invokespecial 102, 3) := by decide +kernel
theorem dX5_put_72 : decode cX5_put 72 = .ok (.athrow, 1) := by decide +kernel
theorem dX5_put_73 : decode cX5_put 73 = .ok (.aload_n 0, 1) := by decide +kernel
theorem dX5_put_74 : decode cX5_put 74 = .ok (.getfield 21, 3) := by decide +kernel
theorem dX5_put_77 : decode cX5_put 77 = .ok (.iload_n 1, 1) := by decide +kernel
theorem dX5_put_78 : decode cX5_put 78 = .ok (.iload_n 2, 1) := by decide +kernel
theorem dX5_put_79 : decode cX5_put 79 = .ok (.iconst (-1), 1) := by decide +kernel
theorem dX5_put_80 : decode cX5_put 80 = .ok (.if_icmp .ne 7, 3) := by decide +kernel
theorem dX5_put_83 : decode cX5_put 83 = .ok (.iconst (-1), 1) := by decide +kernel
theorem dX5_put_84 : decode cX5_put 84 = .ok (.goto 8, 3) := by decide +kernel
theorem dX5_put_87 : decode cX5_put 87 = .ok (.iconst 2, 1) := by decide +kernel
theorem dX5_put_88 : decode cX5_put 88 = .ok (.iload_n 2, 1) := by decide +kernel
theorem dX5_put_89 : decode cX5_put 89 = .ok (.imul, 1) := by decide +kernel
theorem dX5_put_90 : decode cX5_put 90 = .ok (.iload_n 3, 1) := by decide +kernel
theorem dX5_put_91 : decode cX5_put 91 = .ok (.iadd, 1) := by decide +kernel
theorem dX5_put_92 : decode cX5_put 92 = .ok (.invokevirtual 139, 3) := by decide +kernel
theorem dX5_put_95 : decode cX5_put 95 = .ok (.ireturn, 1) := by decide +kernel
set_option maxRecDepth 20000 in
theorem ggX5_at_X5_isSquare : GoodIn wsX5_at wsX5_isSquare := goodIn_r _ [7] (by decide +kernel) (by decide +kernel)
set_option maxRecDepth 20000 in
theorem gX5_at_X5_isSquare : GoodIn wsX5_at (va_wsS RX5 130 yX5_isSquare wsX5_isSquare) := goodIn_app (goodIn_of _ (by decide +kernel)) ggX5_at_X5_isSquare
set_option maxRecDepth 20000 in
theorem ggX5_at_X0_pieceOn : GoodIn wsX5_at wsX0_pieceOn := goodIn_r _ [12, 13, 5, 6, 7, 30, 31] (by decide +kernel) (by decide +kernel)
set_option maxRecDepth 20000 in
theorem gX5_at_X0_pieceOn : GoodIn wsX5_at (wsV RX5 145 RX0 yX0_pieceOn wsX0_pieceOn) := goodIn_app (goodIn_of _ (by decide +kernel)) ggX5_at_X0_pieceOn
theorem dX5_at_0 : decode cX5_at 0 = .ok (.iload_n 1, 1) := by decide +kernel
theorem dX5_at_1 : decode cX5_at 1 = .ok (.invokestatic 130, 3) := by decide +kernel
theorem dX5_at_4 : decode cX5_at 4 = .ok (.ifCond .ne 13, 3) := by decide +kernel
theorem dX5_at_7 : decode cX5_at 7 = .ok (.new 110, 3) := by decide +kernel
theorem dX5_at_10 : decode cX5_at 10 = .ok (.dup, 1) := by decide +kernel
theorem dX5_at_11 : decode cX5_at 11 = .ok (.ldc 143, 2) := by decide +kernel
theorem dX5_at_13 : decode cX5_at 13 = .ok (.invokespecial 114, 3) := by decide +kernel
theorem dX5_at_16 : decode cX5_at 16 = .ok (.athrow, 1) := by decide +kernel
theorem dX5_at_17 : decode cX5_at 17 = .ok (.aload_n 0, 1) := by decide +kernel
theorem dX5_at_18 : decode cX5_at 18 = .ok (.getfield 21, 3) := by decide +kernel
theorem dX5_at_21 : decode cX5_at 21 = .ok (.iload_n 1, 1) := by decide +kernel
theorem dX5_at_22 : decode cX5_at 22 = .ok (.invokevirtual 145, 3) := by decide +kernel
theorem dX5_at_25 : decode cX5_at 25 = .ok (.ireturn, 1) := by decide +kernel
set_option maxRecDepth 20000 in
theorem ggX5_state_X5_turn : GoodIn wsX5_state wsX5_turn := goodIn_r _ [12, 5, 4, 13, 14, 15, 16, 17, 18, 19, 20, 21, 22, 23, 78, 79, 80, 81, 82, 83, 84, 85, 86, 87, 88, 89, 90, 91, 92, 93, 94, 95, 96, 97, 98, 99, 100, 101, 102] (by decide +kernel) (by decide +kernel)
set_option maxRecDepth 20000 in
theorem gX5_state_X5_turn : GoodIn wsX5_state (wsV RX5 148 RX5 yX5_turn wsX5_turn) := goodIn_app (goodIn_of _ (by decide +kernel)) ggX5_state_X5_turn
set_option maxRecDepth 20000 in
theorem ggX5_state_X0_inCheck : GoodIn wsX5_state wsX0_inCheck := goodIn_r _ [28, 29, 30, 31, 32, 27, 33, 34, 35, 36, 37, 38, 103, 104, 105, 106, 107, 108, 109, 110] (by decide +kernel) (by decide +kernel)
set_option maxRecDepth 20000 in
theorem gX5_state_X0_inCheck : GoodIn wsX5_state (wsV RX5 151 RX0 yX0_inCheck wsX0_inCheck) := goodIn_app (goodIn_of _ (by decide +kernel)) ggX5_state_X0_inCheck
set_option maxRecDepth 20000 in
theorem ggX5_state_X0_countLegalMoves : GoodIn wsX5_state wsX0_countLegalMoves := goodIn_r _ [42, 29, 34, 35, 36, 27, 37, 38, 43, 44, 45, 46, 47, 48, 49, 50, 51, 11, 52, 53, 54, 55, 56, 57, 25, 26, 28, 30, 31, 32, 33, 58, 59, 60, 61, 103, 104, 105, 106, 107, 108, 109, 110] (by decide +kernel) (by decide +kernel)
set_option maxRecDepth 20000 in
theorem gX5_state_X0_countLegalMoves : GoodIn wsX5_state (wsV RX5 154 RX0 yX0_countLegalMoves wsX0_countLegalMoves) := goodIn_app (goodIn_of _ (by decide +kernel)) ggX5_state_X0_countLegalMoves
set_option maxRecDepth 20000 in
theorem ggX5_state_X4_size : GoodIn wsX5_state wsX4_size := goodIn_r _ [65, 23, 94, 95, 96, 97, 98, 99, 100, 101, 102] (by decide +kernel) (by decide +kernel)
set_option maxRecDepth 20000 in
theorem gX5_state_X4_size : GoodIn wsX5_state (wsV RX5 97 RX4 yX4_size wsX4_size) := goodIn_app (goodIn_of _ (by decide +kernel)) ggX5_state_X4_size
set_option maxRecDepth 20000 in
theorem ggX5_state_X1_size : GoodIn wsX5_state wsX1_size := goodIn_r _ [70, 71, 105, 106, 107, 108, 109, 110] (by decide +kernel) (by decide +kernel)
set_option maxRecDepth 20000 in
theorem gX5_state_X1_size : GoodIn wsX5_state (wsV RX5 93 RX1 yX1_size wsX1_size) := goodIn_app (goodIn_of _ (by decide +kernel)) ggX5_state_X1_size
set_option maxRecDepth 20000 in
theorem ggX5_state_X3_size : GoodIn wsX5_state wsX3_size := goodIn_r _ [76, 77, 111, 112, 113] (by decide +kernel) (by decide +kernel)
set_option maxRecDepth 20000 in
theorem gX5_state_X3_size : GoodIn wsX5_state (wsV RX5 157 RX3 yX3_size wsX3_size) := goodIn_app (goodIn_of _ (by decide +kernel)) ggX5_state_X3_size
theorem dX5_state_0 : decode cX5_state 0 = .ok (.iload_n 1, 1) := by decide +kernel
theorem dX5_state_1 : decode cX5_state 1 = .ok (.tableswitch 112 0 6 #[43, 48, 68, 83, 88, 96, 104], 43) := by decide +kernel
theorem dX5_state_44 : decode cX5_state 44 = .ok (.aload_n 0, 1) := by decide +kernel
theorem dX5_state_45 : decode cX5_state 45 = .ok (.invokevirtual 148, 3) := by decide +kernel
theorem dX5_state_48 : decode cX5_state 48 = .ok (.ireturn, 1) := by decide +kernel
theorem dX5_state_49 : decode cX5_state 49 = .ok (.aload_n 0, 1) := by decide +kernel
theorem dX5_state_50 : decode cX5_state 50 = .ok (.getfield 21, 3) := by decide +kernel
theorem dX5_state_53 : decode cX5_state 53 = .ok (.aload_n 0, 1) := by decide +kernel
theorem dX5_state_54 : decode cX5_state 54 = .ok (.invokevirtual 148, 3) := by decide +kernel
theorem dX5_state_57 : decode cX5_state 57 = .ok (.invokevirtual 151, 3) := by decide +kernel
theorem dX5_state_60 : decode cX5_state 60 = .ok (.ifCond .eq 7, 3) := by decide +kernel
theorem dX5_state_63 : decode cX5_state 63 = .ok (.iconst 1, 1) := by decide +kernel
theorem dX5_state_64 : decode cX5_state 64 = .ok (.goto 4, 3) := by decide +kernel
theorem dX5_state_67 : decode cX5_state 67 = .ok (.iconst 0, 1) := by decide +kernel
theorem dX5_state_68 : decode cX5_state 68 = .ok (.ireturn, 1) := by decide +kernel
theorem dX5_state_69 : decode cX5_state 69 = .ok (.aload_n 0, 1) := by decide +kernel
theorem dX5_state_70 : decode cX5_state 70 = .ok (.getfield 21, 3) := by decide +kernel
theorem dX5_state_73 : decode cX5_state 73 = .ok (.aload_n 0, 1) := by decide +kernel
theorem dX5_state_74 : decode cX5_state 74 = .ok (.invokevirtual 148, 3) := by decide +kernel
theorem dX5_state_77 : decode cX5_state 77 = .ok (.sipush 4096, 3) := by decide +kernel
theorem dX5_state_80 : decode cX5_state 80 = .ok (.invokevirtual 154, 3) := by decide +kernel
theorem dX5_state_83 : decode cX5_state 83 = .ok (.ireturn, 1) := by decide +kernel
theorem dX5_state_84 : decode cX5_state 84 = .ok (.aload_n 0, 1) := by decide +kernel
theorem dX5_state_85 : decode cX5_state 85 = .ok (.getfield 56, 3) := by decide +kernel
theorem dX5_state_88 : decode cX5_state 88 = .ok (.ireturn, 1) := by decide +kernel
theorem dX5_state_89 : decode cX5_state 89 = .ok (.aload_n 0, 1) := by decide +kernel
theorem dX5_state_90 : decode cX5_state 90 = .ok (.getfield 28, 3) := by decide +kernel
theorem dX5_state_93 : decode cX5_state 93 = .ok (.invokevirtual 97, 3) := by decide +kernel
theorem dX5_state_96 : decode cX5_state 96 = .ok (.ireturn, 1) := by decide +kernel
theorem dX5_state_97 : decode cX5_state 97 = .ok (.aload_n 0, 1) := by decide +kernel
theorem dX5_state_98 : decode cX5_state 98 = .ok (.getfield 12, 3) := by decide +kernel
theorem dX5_state_101 : decode cX5_state 101 = .ok (.invokevirtual 93, 3) := by decide +kernel
theorem dX5_state_104 : decode cX5_state 104 = .ok (.ireturn, 1) := by decide +kernel
theorem dX5_state_105 : decode cX5_state 105 = .ok (.aload_n 0, 1) := by decide +kernel
theorem dX5_state_106 : decode cX5_state 106 = .ok (.getfield 49, 3) := by decide +kernel
theorem dX5_state_109 : decode cX5_state 109 = .ok (.invokevirtual 157, 3) := by decide +kernel
theorem dX5_state_112 : decode cX5_state 112 = .ok (.ireturn, 1) := by decide +kernel
theorem dX5_state_113 : decode cX5_state 113 = .ok (.new 110, 3) := by decide +kernel
theorem dX5_state_116 : decode cX5_state 116 = .ok (.dup, 1) := by decide +kernel
theorem dX5_state_117 : decode cX5_state 117 = .ok (.ldc 158, 2) := by decide +kernel
theorem dX5_state_119 : decode cX5_state 119 = .ok (.invokespecial 114, 3) := by decide +kernel
theorem dX5_state_122 : decode cX5_state 122 = .ok (.athrow, 1) := by decide +kernel
set_option maxRecDepth 20000 in
theorem ggX5_reason_X5_isSquare : GoodIn wsX5_reason wsX5_isSquare := goodIn_r _ [6] (by decide +kernel) (by decide +kernel)
set_option maxRecDepth 20000 in
theorem gX5_reason_X5_isSquare : GoodIn wsX5_reason (va_wsS RX5 130 yX5_isSquare wsX5_isSquare) := goodIn_app (goodIn_of _ (by decide +kernel)) ggX5_reason_X5_isSquare
set_option maxRecDepth 20000 in
theorem ggX5_reason_X5_reasonAgainst : GoodIn wsX5_reason wsX5_reasonAgainst := goodIn_r _ [10, 11, 12, 13, 14, 5, 15, 16, 17, 18, 19, 20, 21, 22, 23, 24, 25, 26, 27, 28, 29, 30, 31, 32, 33, 34, 35, 36, 37, 38, 39, 40, 41, 42, 4, 6, 43, 44, 45, 46, 47, 48, 49, 50, 51, 52, 53, 54, 55, 56, 57, 58, 59, 60, 61, 62, 63, 64, 65, 66, 67, 68, 69, 70, 71, 72, 73, 74, 75, 76, 77, 78, 79, 80, 81, 82, 83, 84, 85, 86, 87, 88, 89, 90, 91, 92, 93, 94, 95, 96, 97, 98, 99, 100, 101, 102, 103, 104] (by decide +kernel) (by decide +kernel)
set_option maxRecDepth 20000 in
theorem gX5_reason_X5_reasonAgainst : GoodIn wsX5_reason (wsV RX5 160 RX5 yX5_reasonAgainst wsX5_reasonAgainst) := goodIn_app (goodIn_of _ (by decide +kernel)) ggX5_reason_X5_reasonAgainst
theorem dX5_reason_0 : decode cX5_reason 0 = .ok (.iload_n 1, 1) := by decide +kernel
theorem dX5_reason_1 : decode cX5_reason 1 = .ok (.invokestatic 130, 3) := by decide +kernel
theorem dX5_reason_4 : decode cX5_reason 4 = .ok (.ifCond .eq 10, 3) := by decide +kernel
theorem dX5_reason_7 : decode cX5_reason 7 = .ok (.iload_n 2, 1) := by decide +kernel
theorem dX5_reason_8 : decode cX5_reason 8 = .ok (.invokestatic 130, 3) := by decide +kernel
theorem dX5_reason_11 : decode cX5_reason 11 = .ok (.ifCond .ne 13, 3) := by decide +kernel
theorem dX5_reason_14 : decode cX5_reason 14 = .ok (.new 110, 3) := by decide +kernel
theorem dX5_reason_17 : decode cX5_reason 17 = .ok (.dup, 1) := by decide +kernel
theorem dX5_reason_18 : decode cX5_reason 18 = .ok (.ldc 143, 2) := by decide +kernel
theorem dX5_reason_20 : decode cX5_reason 20 = .ok (.invokespecial 114, 3) := by decide +kernel
theorem dX5_reason_23 : decode cX5_reason 23 = .ok (.athrow, 1) := by decide +kernel
theorem dX5_reason_24 : decode cX5_reason 24 = .ok (.aload_n 0, 1) := by decide +kernel
theorem dX5_reason_25 : decode cX5_reason 25 = .ok (.iload_n 1, 1) := by decide +kernel
theorem dX5_reason_26 : decode cX5_reason 26 = .ok (.iload_n 2, 1) := by decide +kernel
theorem dX5_reason_27 : decode cX5_reason 27 = .ok (.invokevirtual 160, 3) := by decide +kernel
theorem dX5_reason_30 : decode cX5_reason 30 = .ok (.ireturn, 1) := by decide +kernel
set_option maxRecDepth 20000 in
theorem ggX5_play_X5_isSquare : GoodIn wsX5_play wsX5_isSquare := goodIn_r _ [9] (by decide +kernel) (by decide +kernel)
set_option maxRecDepth 20000 in
theorem gX5_play_X5_isSquare : GoodIn wsX5_play (va_wsS RX5 130 yX5_isSquare wsX5_isSquare) := goodIn_app (goodIn_of _ (by decide +kernel)) ggX5_play_X5_isSquare
