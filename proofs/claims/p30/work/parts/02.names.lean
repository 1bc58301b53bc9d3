def RX0 : String := "BribedClerks$History"
def TX0 : u_T := fun k => match k with
  | 0 => ("BribedClerks$History", "states", "[LBribedClerks$State;", true)
  | _ => ("BribedClerks$History", "size", "I", false)
def tyX0 : Nat → FieldType := fun k => match k with
  | 0 => .array (.object "BribedClerks$State")
  | _ => .int
abbrev wsX00 : List Cond := u_ws RX0 TX0 2
theorem nmX0 : ∀ a, a < 2 → ∀ b, b < 2 → a ≠ b → (TX0 a).2.1 ≠ (TX0 b).2.1 := by decide +kernel
theorem tyX0_ok : ∀ k, k < 2 → parseFieldDescriptor (TX0 k).2.2.1 = some (tyX0 k) := by decide +kernel
abbrev cX0_init : ByteArray := prog_2_method_1_code
def yX0_init : MethodName := ⟨RX0, "<init>", "()V"⟩
abbrev cX0_record : ByteArray := prog_2_method_2_code
def yX0_record : MethodName := ⟨RX0, "record", "(LBribedClerks$State;)V"⟩
abbrev cX0_moveOldestToEnd : ByteArray := prog_2_method_3_code
def yX0_moveOldestToEnd : MethodName := ⟨RX0, "moveOldestToEnd", "()V"⟩
abbrev cX0_stateAt : ByteArray := prog_2_method_5_code
def yX0_stateAt : MethodName := ⟨RX0, "stateAt", "(I)LBribedClerks$State;"⟩
def RX1 : String := "BribedClerks$Office"
def TX1 : u_T := fun k => match k with
  | 0 => ("BribedClerks$Office", "scores", "[I", true)
  | 1 => ("BribedClerks$Office", "order", "[I", true)
  | 2 => ("BribedClerks$Office", "sizes", "[I", true)
  | 3 => ("BribedClerks$Office", "weights", "[I", true)
  | 4 => ("BribedClerks$Office", "bribes", "[I", true)
  | 5 => ("BribedClerks$Office", "deleted", "J", false)
  | _ => ("BribedClerks$Office", "most", "I", false)
def tyX1 : Nat → FieldType := fun k => match k with
  | 0 => .array .int
  | 1 => .array .int
  | 2 => .array .int
  | 3 => .array .int
  | 4 => .array .int
  | 5 => .long
  | _ => .int
abbrev wsX10 : List Cond := u_ws RX1 TX1 7
theorem nmX1 : ∀ a, a < 7 → ∀ b, b < 7 → a ≠ b → (TX1 a).2.1 ≠ (TX1 b).2.1 := by decide +kernel
theorem tyX1_ok : ∀ k, k < 7 → parseFieldDescriptor (TX1 k).2.2.1 = some (tyX1 k) := by decide +kernel
abbrev cX1_init : ByteArray := prog_3_method_1_code
def yX1_init : MethodName := ⟨RX1, "<init>", "()V"⟩
abbrev cX1_copyFrom : ByteArray := prog_3_method_2_code
def yX1_copyFrom : MethodName := ⟨RX1, "copyFrom", "(LBribedClerks$Office;)V"⟩
abbrev cX1_sizeOf : ByteArray := prog_3_method_3_code
def yX1_sizeOf : MethodName := ⟨RX1, "sizeOf", "(I)I"⟩
abbrev cX1_weightOf : ByteArray := prog_3_method_4_code
def yX1_weightOf : MethodName := ⟨RX1, "weightOf", "(I)I"⟩
abbrev cX1_isAsked : ByteArray := prog_3_method_5_code
def yX1_isAsked : MethodName := ⟨RX1, "isAsked", "(I)Z"⟩
abbrev cX1_questionSize : ByteArray := prog_3_method_6_code
def yX1_questionSize : MethodName := ⟨RX1, "questionSize", "()I"⟩
abbrev cX1_entries : ByteArray := prog_3_method_7_code
def yX1_entries : MethodName := ⟨RX1, "entries", "()I"⟩
abbrev cX1_scoreOf : ByteArray := prog_3_method_8_code
def yX1_scoreOf : MethodName := ⟨RX1, "scoreOf", "(II)I"⟩
abbrev cX1_documentAt : ByteArray := prog_3_method_9_code
def yX1_documentAt : MethodName := ⟨RX1, "documentAt", "(II)I"⟩
abbrev cX1_scoreAt : ByteArray := prog_3_method_10_code
def yX1_scoreAt : MethodName := ⟨RX1, "scoreAt", "(II)I"⟩
abbrev cX1_putIn : ByteArray := prog_3_method_11_code
def yX1_putIn : MethodName := ⟨RX1, "putIn", "(III)I"⟩
abbrev cX1_standsAhead : ByteArray := prog_3_method_12_code
def yX1_standsAhead : MethodName := ⟨RX1, "standsAhead", "(IIII)Z"⟩
abbrev cX1_takeOut : ByteArray := prog_3_method_13_code
def yX1_takeOut : MethodName := ⟨RX1, "takeOut", "(II)V"⟩
abbrev cX1_isDeleted : ByteArray := prog_3_method_14_code
def yX1_isDeleted : MethodName := ⟨RX1, "isDeleted", "(I)Z"⟩
abbrev cX1_deletedIn : ByteArray := prog_3_method_15_code
def yX1_deletedIn : MethodName := ⟨RX1, "deletedIn", "(I)I"⟩
abbrev cX1_listsWith : ByteArray := prog_3_method_16_code
def yX1_listsWith : MethodName := ⟨RX1, "listsWith", "(I)I"⟩
abbrev cX1_valueOf : ByteArray := prog_3_method_17_code
def yX1_valueOf : MethodName := ⟨RX1, "valueOf", "(I)I"⟩
abbrev cX1_isAnswer : ByteArray := prog_3_method_18_code
def yX1_isAnswer : MethodName := ⟨RX1, "isAnswer", "(I)Z"⟩
abbrev cX1_wantedPlaceOf : ByteArray := prog_3_method_19_code
def yX1_wantedPlaceOf : MethodName := ⟨RX1, "wantedPlaceOf", "(I)I"⟩
abbrev cX1_wantedAt : ByteArray := prog_3_method_20_code
def yX1_wantedAt : MethodName := ⟨RX1, "wantedAt", "(I)I"⟩
abbrev cX1_wantedSize : ByteArray := prog_3_method_21_code
def yX1_wantedSize : MethodName := ⟨RX1, "wantedSize", "()I"⟩
def RX2 : String := "BribedClerks$Reading"
def TX2 : u_T := fun k => match k with
  | 0 => ("BribedClerks$Reading", "on", "Z", false)
  | 1 => ("BribedClerks$Reading", "way", "I", false)
  | 2 => ("BribedClerks$Reading", "looksUp", "Z", false)
  | 3 => ("BribedClerks$Reading", "lastList", "I", false)
  | 4 => ("BribedClerks$Reading", "steps", "I", false)
  | 5 => ("BribedClerks$Reading", "wasted", "I", false)
  | 6 => ("BribedClerks$Reading", "caught", "I", false)
  | 7 => ("BribedClerks$Reading", "read", "[I", true)
  | 8 => ("BribedClerks$Reading", "lookUps", "[I", true)
  | 9 => ("BribedClerks$Reading", "trueBounds", "[I", true)
  | 10 => ("BribedClerks$Reading", "toldBounds", "[I", true)
  | 11 => ("BribedClerks$Reading", "known", "[I", true)
  | 12 => ("BribedClerks$Reading", "lows", "[I", true)
  | 13 => ("BribedClerks$Reading", "firstSteps", "[I", true)
  | 14 => ("BribedClerks$Reading", "front", "[I", true)
  | _ => ("BribedClerks$Reading", "seenSize", "I", false)
def tyX2 : Nat → FieldType := fun k => match k with
  | 0 => .boolean
  | 1 => .int
  | 2 => .boolean
  | 3 => .int
  | 4 => .int
  | 5 => .int
  | 6 => .int
  | 7 => .array .int
  | 8 => .array .int
  | 9 => .array .int
  | 10 => .array .int
  | 11 => .array .int
  | 12 => .array .int
  | 13 => .array .int
  | 14 => .array .int
  | _ => .int
abbrev wsX20 : List Cond := u_ws RX2 TX2 16
theorem nmX2 : ∀ a, a < 16 → ∀ b, b < 16 → a ≠ b → (TX2 a).2.1 ≠ (TX2 b).2.1 := by decide +kernel
theorem tyX2_ok : ∀ k, k < 16 → parseFieldDescriptor (TX2 k).2.2.1 = some (tyX2 k) := by decide +kernel
abbrev cX2_init : ByteArray := prog_4_method_1_code
def yX2_init : MethodName := ⟨RX2, "<init>", "()V"⟩
abbrev cX2_copyFrom : ByteArray := prog_4_method_2_code
def yX2_copyFrom : MethodName := ⟨RX2, "copyFrom", "(LBribedClerks$Reading;)V"⟩
abbrev cX2_start : ByteArray := prog_4_method_3_code
def yX2_start : MethodName := ⟨RX2, "start", "(LBribedClerks$Office;IZ)V"⟩
abbrev cX2_findBounds : ByteArray := prog_4_method_4_code
def yX2_findBounds : MethodName := ⟨RX2, "findBounds", "(LBribedClerks$Office;I)V"⟩
abbrev cX2_goOn : ByteArray := prog_4_method_5_code
def yX2_goOn : MethodName := ⟨RX2, "goOn", "(LBribedClerks$Office;I)I"⟩
abbrev cX2_readEntry : ByteArray := prog_4_method_6_code
def yX2_readEntry : MethodName := ⟨RX2, "readEntry", "(LBribedClerks$Office;I)V"⟩
abbrev cX2_see : ByteArray := prog_4_method_7_code
def yX2_see : MethodName := ⟨RX2, "see", "(LBribedClerks$Office;II)V"⟩
abbrev cX2_learn : ByteArray := prog_4_method_8_code
def yX2_learn : MethodName := ⟨RX2, "learn", "(LBribedClerks$Office;II)V"⟩
abbrev cX2_moveAhead : ByteArray := prog_4_method_9_code
def yX2_moveAhead : MethodName := ⟨RX2, "moveAhead", "(I)V"⟩
abbrev cX2_isAhead : ByteArray := prog_4_method_10_code
def yX2_isAhead : MethodName := ⟨RX2, "isAhead", "(II)Z"⟩
abbrev cX2_nextList : ByteArray := prog_4_method_11_code
def yX2_nextList : MethodName := ⟨RX2, "nextList", "(LBribedClerks$Office;)I"⟩
abbrev cX2_nextInTurn : ByteArray := prog_4_method_12_code
def yX2_nextInTurn : MethodName := ⟨RX2, "nextInTurn", "(LBribedClerks$Office;)I"⟩
abbrev cX2_nextByBounds : ByteArray := prog_4_method_13_code
def yX2_nextByBounds : MethodName := ⟨RX2, "nextByBounds", "(LBribedClerks$Office;)I"⟩
abbrev cX2_nextByRest : ByteArray := prog_4_method_14_code
def yX2_nextByRest : MethodName := ⟨RX2, "nextByRest", "(LBribedClerks$Office;)I"⟩
abbrev cX2_hasRest : ByteArray := prog_4_method_15_code
def yX2_hasRest : MethodName := ⟨RX2, "hasRest", "(LBribedClerks$Office;I)Z"⟩
abbrev cX2_isOver : ByteArray := prog_4_method_16_code
def yX2_isOver : MethodName := ⟨RX2, "isOver", "(LBribedClerks$Office;)Z"⟩
abbrev cX2_highOf : ByteArray := prog_4_method_17_code
def yX2_highOf : MethodName := ⟨RX2, "highOf", "(LBribedClerks$Office;I)I"⟩
abbrev cX2_weighedBounds : ByteArray := prog_4_method_18_code
def yX2_weighedBounds : MethodName := ⟨RX2, "weighedBounds", "(LBribedClerks$Office;)I"⟩
abbrev cX2_isSeen : ByteArray := prog_4_method_19_code
def yX2_isSeen : MethodName := ⟨RX2, "isSeen", "(I)Z"⟩
abbrev cX2_knownListsOf : ByteArray := prog_4_method_20_code
def yX2_knownListsOf : MethodName := ⟨RX2, "knownListsOf", "(LBribedClerks$Office;I)I"⟩
abbrev cX2_frontPlaceOf : ByteArray := prog_4_method_21_code
def yX2_frontPlaceOf : MethodName := ⟨RX2, "frontPlaceOf", "(I)I"⟩
abbrev cX2_toldSize : ByteArray := prog_4_method_22_code
def yX2_toldSize : MethodName := ⟨RX2, "toldSize", "(LBribedClerks$Office;)I"⟩
abbrev cX2_lowOfLastTold : ByteArray := prog_4_method_23_code
def yX2_lowOfLastTold : MethodName := ⟨RX2, "lowOfLastTold", "(LBribedClerks$Office;)I"⟩
abbrev cX2_toldNotWanted : ByteArray := prog_4_method_24_code
def yX2_toldNotWanted : MethodName := ⟨RX2, "toldNotWanted", "(LBribedClerks$Office;)I"⟩
abbrev cX2_isCaught : ByteArray := prog_4_method_25_code
def yX2_isCaught : MethodName := ⟨RX2, "isCaught", "(I)Z"⟩
abbrev cX2_caughtSize : ByteArray := prog_4_method_26_code
def yX2_caughtSize : MethodName := ⟨RX2, "caughtSize", "()I"⟩
abbrev cX2_tellingLess : ByteArray := prog_4_method_27_code
def yX2_tellingLess : MethodName := ⟨RX2, "tellingLess", "(LBribedClerks$Office;)I"⟩
abbrev cX2_allLookUps : ByteArray := prog_4_method_28_code
def yX2_allLookUps : MethodName := ⟨RX2, "allLookUps", "()I"⟩
abbrev cX2_cost : ByteArray := prog_4_method_29_code
def yX2_cost : MethodName := ⟨RX2, "cost", "()I"⟩
def RX3 : String := "BribedClerks$State"
def TX3 : u_T := fun k => match k with
  | 0 => ("BribedClerks$State", "office", "LBribedClerks$Office;", true)
  | 1 => ("BribedClerks$State", "reading", "LBribedClerks$Reading;", true)
  | 2 => ("BribedClerks$State", "begun", "I", false)
  | _ => ("BribedClerks$State", "caughtInAll", "I", false)
def tyX3 : Nat → FieldType := fun k => match k with
  | 0 => .object "BribedClerks$Office"
  | 1 => .object "BribedClerks$Reading"
  | 2 => .int
  | _ => .int
abbrev wsX30 : List Cond := u_ws RX3 TX3 4
theorem nmX3 : ∀ a, a < 4 → ∀ b, b < 4 → a ≠ b → (TX3 a).2.1 ≠ (TX3 b).2.1 := by decide +kernel
theorem tyX3_ok : ∀ k, k < 4 → parseFieldDescriptor (TX3 k).2.2.1 = some (tyX3 k) := by decide +kernel
abbrev cX3_init : ByteArray := prog_5_method_1_code
def yX3_init : MethodName := ⟨RX3, "<init>", "()V"⟩
abbrev cX3_copyFrom : ByteArray := prog_5_method_2_code
def yX3_copyFrom : MethodName := ⟨RX3, "copyFrom", "(LBribedClerks$State;)V"⟩
def RX4 : String := "BribedClerks$Text"
def TX4 : u_T := fun k => match k with
  | 0 => ("BribedClerks$Text", "signs", "[C", true)
  | 1 => ("BribedClerks$Text", "length", "I", false)
  | 2 => ("BribedClerks$Text", "command", "I", false)
  | _ => ("BribedClerks$Text", "numbers", "[I", true)
def tyX4 : Nat → FieldType := fun k => match k with
  | 0 => .array .char
  | 1 => .int
  | 2 => .int
  | _ => .array .int
abbrev wsX40 : List Cond := u_ws RX4 TX4 4
theorem nmX4 : ∀ a, a < 4 → ∀ b, b < 4 → a ≠ b → (TX4 a).2.1 ≠ (TX4 b).2.1 := by decide +kernel
theorem tyX4_ok : ∀ k, k < 4 → parseFieldDescriptor (TX4 k).2.2.1 = some (tyX4 k) := by decide +kernel
abbrev cX4_init : ByteArray := prog_6_method_1_code
def yX4_init : MethodName := ⟨RX4, "<init>", "()V"⟩
def RX5 : String := "BribedClerks"
def TX5 : u_T := fun k => match k with
  | 0 => ("BribedClerks", "now", "LBribedClerks$State;", true)
  | 1 => ("BribedClerks", "history", "LBribedClerks$History;", true)
  | 2 => ("BribedClerks", "snapshot", "LBribedClerks$State;", true)
  | 3 => ("BribedClerks", "hasSnapshot", "Z", false)
  | 4 => ("BribedClerks", "text", "LBribedClerks$Text;", true)
  | _ => ("BribedClerks", "rehearsal", "LBribedClerks$Reading;", true)
def tyX5 : Nat → FieldType := fun k => match k with
  | 0 => .object "BribedClerks$State"
  | 1 => .object "BribedClerks$History"
  | 2 => .object "BribedClerks$State"
  | 3 => .boolean
  | 4 => .object "BribedClerks$Text"
  | _ => .object "BribedClerks$Reading"
abbrev wsX50 : List Cond := u_ws RX5 TX5 6
theorem nmX5 : ∀ a, a < 6 → ∀ b, b < 6 → a ≠ b → (TX5 a).2.1 ≠ (TX5 b).2.1 := by decide +kernel
theorem tyX5_ok : ∀ k, k < 6 → parseFieldDescriptor (TX5 k).2.2.1 = some (tyX5 k) := by decide +kernel
abbrev cX5_init : ByteArray := prog_1_method_1_code
def yX5_init : MethodName := ⟨RX5, "<init>", "()V"⟩
abbrev cX5_add : ByteArray := prog_1_method_2_code
def yX5_add : MethodName := ⟨RX5, "add", "(III)I"⟩
abbrev cX5_drop : ByteArray := prog_1_method_3_code
def yX5_drop : MethodName := ⟨RX5, "drop", "(II)I"⟩
abbrev cX5_delete : ByteArray := prog_1_method_4_code
def yX5_delete : MethodName := ⟨RX5, "delete", "(I)I"⟩
abbrev cX5_setDeleted : ByteArray := prog_1_method_6_code
def yX5_setDeleted : MethodName := ⟨RX5, "setDeleted", "(IZ)I"⟩
abbrev cX5_weight : ByteArray := prog_1_method_7_code
def yX5_weight : MethodName := ⟨RX5, "weight", "(II)I"⟩
abbrev cX5_want : ByteArray := prog_1_method_8_code
def yX5_want : MethodName := ⟨RX5, "want", "(I)I"⟩
abbrev cX5_setOfList : ByteArray := prog_1_method_10_code
def yX5_setOfList : MethodName := ⟨RX5, "setOfList", "([IIII)I"⟩
abbrev cX5_begin : ByteArray := prog_1_method_11_code
def yX5_begin : MethodName := ⟨RX5, "begin", "(IZ)I"⟩
abbrev cX5_step : ByteArray := prog_1_method_12_code
def yX5_step : MethodName := ⟨RX5, "step", "(I)I"⟩
abbrev cX5_end : ByteArray := prog_1_method_13_code
def yX5_end : MethodName := ⟨RX5, "end", "()I"⟩
abbrev cX5_list : ByteArray := prog_1_method_20_code
def yX5_list : MethodName := ⟨RX5, "list", "(II)I"⟩
abbrev cX5_entry : ByteArray := prog_1_method_21_code
def yX5_entry : MethodName := ⟨RX5, "entry", "(III)I"⟩
abbrev cX5_document : ByteArray := prog_1_method_22_code
def yX5_document : MethodName := ⟨RX5, "document", "(II)I"⟩
abbrev cX5_wanted : ByteArray := prog_1_method_23_code
def yX5_wanted : MethodName := ⟨RX5, "wanted", "(I)I"⟩
abbrev cX5_seen : ByteArray := prog_1_method_25_code
def yX5_seen : MethodName := ⟨RX5, "seen", "(II)I"⟩
abbrev cX5_told : ByteArray := prog_1_method_26_code
def yX5_told : MethodName := ⟨RX5, "told", "(I)I"⟩
abbrev cX5_reading : ByteArray := prog_1_method_27_code
def yX5_reading : MethodName := ⟨RX5, "reading", "(I)I"⟩
abbrev cX5_trial : ByteArray := prog_1_method_28_code
def yX5_trial : MethodName := ⟨RX5, "trial", "(IZI)I"⟩
abbrev cX5_cheapest : ByteArray := prog_1_method_29_code
def yX5_cheapest : MethodName := ⟨RX5, "cheapest", "()I"⟩
abbrev cX5_count : ByteArray := prog_1_method_30_code
def yX5_count : MethodName := ⟨RX5, "count", "(I)I"⟩
abbrev cX5_isList : ByteArray := prog_1_method_31_code
def yX5_isList : MethodName := ⟨RX5, "isList", "(I)Z"⟩
abbrev cX5_isDocument : ByteArray := prog_1_method_32_code
def yX5_isDocument : MethodName := ⟨RX5, "isDocument", "(I)Z"⟩
abbrev cX5_isWay : ByteArray := prog_1_method_33_code
def yX5_isWay : MethodName := ⟨RX5, "isWay", "(I)Z"⟩
abbrev cX5_oneIf : ByteArray := prog_1_method_34_code
def yX5_oneIf : MethodName := ⟨RX5, "oneIf", "(Z)I"⟩
abbrev cX5_at : ByteArray := prog_1_method_35_code
def yX5_at : MethodName := ⟨RX5, "at", "([II)I"⟩
abbrev cX5_put : ByteArray := prog_1_method_36_code
def yX5_put : MethodName := ⟨RX5, "put", "([III)V"⟩
abbrev cX5_copyRow : ByteArray := prog_1_method_37_code
def yX5_copyRow : MethodName := ⟨RX5, "copyRow", "([I[I)V"⟩
def RX6 : String := "BribedClerksModel"
def TX6 : u_T := fun k => match k with
  | _ => ("", "", "", false)
def tyX6 : Nat → FieldType := fun k => match k with
  | _ => .int
abbrev wsX60 : List Cond := u_ws RX6 TX6 0
theorem nmX6 : ∀ a, a < 0 → ∀ b, b < 0 → a ≠ b → (TX6 a).2.1 ≠ (TX6 b).2.1 := by decide +kernel
theorem tyX6_ok : ∀ k, k < 0 → parseFieldDescriptor (TX6 k).2.2.1 = some (tyX6 k) := by decide +kernel
def RJ6 : String := "java/lang/Integer"
def TJ6 : u_T := fun k => match k with
  | _ => ("", "", "", false)
def tyJ6 : Nat → FieldType := fun k => match k with
  | _ => .int
abbrev wsJ60 : List Cond := u_ws RJ6 TJ6 0
theorem nmJ6 : ∀ a, a < 0 → ∀ b, b < 0 → a ≠ b → (TJ6 a).2.1 ≠ (TJ6 b).2.1 := by decide +kernel
theorem tyJ6_ok : ∀ k, k < 0 → parseFieldDescriptor (TJ6 k).2.2.1 = some (tyJ6 k) := by decide +kernel
abbrev cJ6_bitCount_0f7a4 : ByteArray := prog_9_method_49_code
def yJ6_bitCount_0f7a4 : MethodName := ⟨RJ6, "bitCount", "(I)I"⟩
def RJ13 : String := "java/lang/Long"
def TJ13 : u_T := fun k => match k with
  | _ => ("", "", "", false)
def tyJ13 : Nat → FieldType := fun k => match k with
  | _ => .int
abbrev wsJ130 : List Cond := u_ws RJ13 TJ13 0
theorem nmJ13 : ∀ a, a < 0 → ∀ b, b < 0 → a ≠ b → (TJ13 a).2.1 ≠ (TJ13 b).2.1 := by decide +kernel
theorem tyJ13_ok : ∀ k, k < 0 → parseFieldDescriptor (TJ13 k).2.2.1 = some (tyJ13 k) := by decide +kernel
abbrev cJ13_bitCount_95d88 : ByteArray := prog_10_method_50_code
def yJ13_bitCount_95d88 : MethodName := ⟨RJ13, "bitCount", "(J)I"⟩
def RJ9 : String := "java/lang/Math"
def TJ9 : u_T := fun k => match k with
  | _ => ("", "", "", false)
def tyJ9 : Nat → FieldType := fun k => match k with
  | _ => .int
abbrev wsJ90 : List Cond := u_ws RJ9 TJ9 0
theorem nmJ9 : ∀ a, a < 0 → ∀ b, b < 0 → a ≠ b → (TJ9 a).2.1 ≠ (TJ9 b).2.1 := by decide +kernel
theorem tyJ9_ok : ∀ k, k < 0 → parseFieldDescriptor (TJ9 k).2.2.1 = some (tyJ9 k) := by decide +kernel
abbrev cJ9_max_7cf53 : ByteArray := prog_11_method_65_code
def yJ9_max_7cf53 : MethodName := ⟨RJ9, "max", "(II)I"⟩
abbrev cJ9_min_7cf53 : ByteArray := prog_11_method_69_code
def yJ9_min_7cf53 : MethodName := ⟨RJ9, "min", "(II)I"⟩
def RJ10 : String := "java/lang/System"
def TJ10 : u_T := fun k => match k with
  | _ => ("", "", "", false)
def tyJ10 : Nat → FieldType := fun k => match k with
  | _ => .int
abbrev wsJ100 : List Cond := u_ws RJ10 TJ10 0
theorem nmJ10 : ∀ a, a < 0 → ∀ b, b < 0 → a ≠ b → (TJ10 a).2.1 ≠ (TJ10 b).2.1 := by decide +kernel
theorem tyJ10_ok : ∀ k, k < 0 → parseFieldDescriptor (TJ10 k).2.2.1 = some (tyJ10 k) := by decide +kernel
def RJ7 : String := "java/util/Arrays"
def TJ7 : u_T := fun k => match k with
  | _ => ("", "", "", false)
def tyJ7 : Nat → FieldType := fun k => match k with
  | _ => .int
abbrev wsJ70 : List Cond := u_ws RJ7 TJ7 0
theorem nmJ7 : ∀ a, a < 0 → ∀ b, b < 0 → a ≠ b → (TJ7 a).2.1 ≠ (TJ7 b).2.1 := by decide +kernel
theorem tyJ7_ok : ∀ k, k < 0 → parseFieldDescriptor (TJ7 k).2.2.1 = some (tyJ7 k) := by decide +kernel
abbrev cJ7_fill_53178 : ByteArray := prog_13_method_103_code
def yJ7_fill_53178 : MethodName := ⟨RJ7, "fill", "([II)V"⟩
def RL : String := "BribedClerksLaw"
abbrev cL_cell : ByteArray := method_2_code
def yL_cell : MethodName := ⟨RL, "cell", "([II)I"⟩
abbrev cL_low : ByteArray := method_3_code
def yL_low : MethodName := ⟨RL, "low", "(II)I"⟩
abbrev cL_bits : ByteArray := method_4_code
def yL_bits : MethodName := ⟨RL, "bits", "(I)I"⟩
abbrev cL_placeOf : ByteArray := method_5_code
def yL_placeOf : MethodName := ⟨RL, "placeOf", "(LBribedClerks;II)I"⟩
abbrev cL_isInOrder : ByteArray := method_6_code
def yL_isInOrder : MethodName := ⟨RL, "isInOrder", "(LBribedClerks;I)Z"⟩
abbrev cL_fill : ByteArray := method_7_code
def yL_fill : MethodName := ⟨RL, "fill", "(LBribedClerks;[III)Z"⟩
abbrev cL_reckon : ByteArray := method_8_code
def yL_reckon : MethodName := ⟨RL, "reckon", "(LBribedClerks;[I)Z"⟩
abbrev cL_areWanted : ByteArray := method_9_code
def yL_areWanted : MethodName := ⟨RL, "areWanted", "(LBribedClerks;[I)Z"⟩
abbrev cL_read : ByteArray := method_10_code
def yL_read : MethodName := ⟨RL, "read", "(LBribedClerks;IZI)I"⟩
abbrev cL_law : ByteArray := code
def yL_law : MethodName := ⟨RL, "law", "([I)Z"⟩
abbrev vwCl : List vw_C := [(RX0, TX0, 2), (RX1, TX1, 7), (RX2, TX2, 16), (RX3, TX3, 4), (RX4, TX4, 4), (RX5, TX5, 6)]
