/-! ===== names, fields, codes; words of the tables by their places ===== -/
def RX0 : String := "RingDomino$1"
def TX0 : u_T := fun k => match k with
  | _ => ("", "", "", false)
def tyX0 : Nat → FieldType := fun k => match k with
  | _ => .int
abbrev wsX00 : List Cond := u_ws RX0 TX0 0
theorem nmX0 : ∀ a, a < 0 → ∀ b, b < 0 → a ≠ b → (TX0 a).2.1 ≠ (TX0 b).2.1 := by decide +kernel
theorem tyX0_ok : ∀ k, k < 0 → parseFieldDescriptor (TX0 k).2.2.1 = some (tyX0 k) := by decide +kernel
def RX1 : String := "RingDomino$Board"
def TX1 : u_T := fun k => match k with
  | 0 => ("RingDomino$Board", "columns", "I", false)
  | 1 => ("RingDomino$Board", "rows", "I", false)
  | 2 => ("RingDomino$Board", "cellCount", "I", false)
  | 3 => ("RingDomino$Board", "tileCount", "I", false)
  | 4 => ("RingDomino$Board", "placed", "I", false)
  | 5 => ("RingDomino$Board", "tileOn", "[I", true)
  | 6 => ("RingDomino$Board", "cellUnder", "[I", true)
  | 7 => ("RingDomino$Board", "turnOn", "[I", true)
  | 8 => ("RingDomino$Board", "tileNumbers", "[I", true)
  | 9 => ("RingDomino$Board", "turnsWith", "[I", true)
  | 10 => ("RingDomino$Board", "beside", "[I", true)
  | 11 => ("RingDomino$Board", "facing", "[I", true)
  | 12 => ("RingDomino$Board", "tilesBeside", "[I", true)
  | 13 => ("RingDomino$Board", "keptCells", "[I", true)
  | 14 => ("RingDomino$Board", "keptTurns", "[I", true)
  | 15 => ("RingDomino$Board", "queue", "[I", true)
  | _ => ("RingDomino$Board", "groupOf", "[I", true)
def tyX1 : Nat → FieldType := fun k => match k with
  | 0 => .int
  | 1 => .int
  | 2 => .int
  | 3 => .int
  | 4 => .int
  | 5 => .array .int
  | 6 => .array .int
  | 7 => .array .int
  | 8 => .array .int
  | 9 => .array .int
  | 10 => .array .int
  | 11 => .array .int
  | 12 => .array .int
  | 13 => .array .int
  | 14 => .array .int
  | 15 => .array .int
  | _ => .array .int
abbrev wsX10 : List Cond := u_ws RX1 TX1 17
theorem nmX1 : ∀ a, a < 17 → ∀ b, b < 17 → a ≠ b → (TX1 a).2.1 ≠ (TX1 b).2.1 := by decide +kernel
theorem tyX1_ok : ∀ k, k < 17 → parseFieldDescriptor (TX1 k).2.2.1 = some (tyX1 k) := by decide +kernel
abbrev cX1_init : ByteArray := prog_3_method_1_code
def yX1_init : MethodName := ⟨RX1, "<init>", "()V"⟩
abbrev cX1_begin : ByteArray := prog_3_method_2_code
def yX1_begin : MethodName := ⟨RX1, "begin", "(LRingDomino$Program;)V"⟩
abbrev cX1_findCellsBeside : ByteArray := prog_3_method_3_code
def yX1_findCellsBeside : MethodName := ⟨RX1, "findCellsBeside", "(I)V"⟩
abbrev cX1_learnTile : ByteArray := prog_3_method_4_code
def yX1_learnTile : MethodName := ⟨RX1, "learnTile", "(ILRingDomino$Program;)V"⟩
abbrev cX1_knows : ByteArray := prog_3_method_5_code
def yX1_knows : MethodName := ⟨RX1, "knows", "(I)Z"⟩
abbrev cX1_lies : ByteArray := prog_3_method_6_code
def yX1_lies : MethodName := ⟨RX1, "lies", "(I)Z"⟩
abbrev cX1_numberOf : ByteArray := prog_3_method_7_code
def yX1_numberOf : MethodName := ⟨RX1, "numberOf", "(III)I"⟩
abbrev cX1_turnsFitting : ByteArray := prog_3_method_8_code
def yX1_turnsFitting : MethodName := ⟨RX1, "turnsFitting", "(II)I"⟩
abbrev cX1_fitsSo : ByteArray := prog_3_method_9_code
def yX1_fitsSo : MethodName := ⟨RX1, "fitsSo", "(III)Z"⟩
abbrev cX1_countWays : ByteArray := prog_3_method_10_code
def yX1_countWays : MethodName := ⟨RX1, "countWays", "(I)I"⟩
abbrev cX1_firstCell : ByteArray := prog_3_method_11_code
def yX1_firstCell : MethodName := ⟨RX1, "firstCell", "(I)I"⟩
abbrev cX1_firstTurn : ByteArray := prog_3_method_12_code
def yX1_firstTurn : MethodName := ⟨RX1, "firstTurn", "(II)I"⟩
abbrev cX1_firstClash : ByteArray := prog_3_method_13_code
def yX1_firstClash : MethodName := ⟨RX1, "firstClash", "(III)I"⟩
abbrev cX1_countOpenCells : ByteArray := prog_3_method_14_code
def yX1_countOpenCells : MethodName := ⟨RX1, "countOpenCells", "()I"⟩
abbrev cX1_differentTurns : ByteArray := prog_3_method_15_code
def yX1_differentTurns : MethodName := ⟨RX1, "differentTurns", "(I)I"⟩
abbrev cX1_put : ByteArray := prog_3_method_16_code
def yX1_put : MethodName := ⟨RX1, "put", "(III)V"⟩
abbrev cX1_lift : ByteArray := prog_3_method_17_code
def yX1_lift : MethodName := ⟨RX1, "lift", "(I)V"⟩
abbrev cX1_pointsFor : ByteArray := prog_3_method_18_code
def yX1_pointsFor : MethodName := ⟨RX1, "pointsFor", "(I)I"⟩
abbrev cX1_richestCell : ByteArray := prog_3_method_19_code
def yX1_richestCell : MethodName := ⟨RX1, "richestCell", "(I)I"⟩
abbrev cX1_richestTile : ByteArray := prog_3_method_20_code
def yX1_richestTile : MethodName := ⟨RX1, "richestTile", "()I"⟩
abbrev cX1_matchesOn : ByteArray := prog_3_method_21_code
def yX1_matchesOn : MethodName := ⟨RX1, "matchesOn", "(I)I"⟩
abbrev cX1_isEncircled : ByteArray := prog_3_method_22_code
def yX1_isEncircled : MethodName := ⟨RX1, "isEncircled", "(I)Z"⟩
abbrev cX1_countMatches : ByteArray := prog_3_method_23_code
def yX1_countMatches : MethodName := ⟨RX1, "countMatches", "()I"⟩
abbrev cX1_sumOfMatches : ByteArray := prog_3_method_24_code
def yX1_sumOfMatches : MethodName := ⟨RX1, "sumOfMatches", "()I"⟩
abbrev cX1_countRings : ByteArray := prog_3_method_25_code
def yX1_countRings : MethodName := ⟨RX1, "countRings", "()I"⟩
abbrev cX1_countPoints : ByteArray := prog_3_method_26_code
def yX1_countPoints : MethodName := ⟨RX1, "countPoints", "()I"⟩
abbrev cX1_countGroups : ByteArray := prog_3_method_27_code
def yX1_countGroups : MethodName := ⟨RX1, "countGroups", "()I"⟩
abbrev cX1_markGroup : ByteArray := prog_3_method_28_code
def yX1_markGroup : MethodName := ⟨RX1, "markGroup", "(II)V"⟩
abbrev cX1_keep : ByteArray := prog_3_method_29_code
def yX1_keep : MethodName := ⟨RX1, "keep", "()V"⟩
abbrev cX1_bringBack : ByteArray := prog_3_method_30_code
def yX1_bringBack : MethodName := ⟨RX1, "bringBack", "()V"⟩
def RX2 : String := "RingDomino$Game"
def TX2 : u_T := fun k => match k with
  | 0 => ("RingDomino$Game", "board", "LRingDomino$Board;", true)
  | 1 => ("RingDomino$Game", "program", "LRingDomino$Program;", true)
  | 2 => ("RingDomino$Game", "stack", "[I", true)
  | 3 => ("RingDomino$Game", "height", "I", false)
  | 4 => ("RingDomino$Game", "keptRounds", "I", false)
  | _ => ("RingDomino$Game", "roundsGone", "I", false)
def tyX2 : Nat → FieldType := fun k => match k with
  | 0 => .object "RingDomino$Board"
  | 1 => .object "RingDomino$Program"
  | 2 => .array .int
  | 3 => .int
  | 4 => .int
  | _ => .int
abbrev wsX20 : List Cond := u_ws RX2 TX2 6
theorem nmX2 : ∀ a, a < 6 → ∀ b, b < 6 → a ≠ b → (TX2 a).2.1 ≠ (TX2 b).2.1 := by decide +kernel
theorem tyX2_ok : ∀ k, k < 6 → parseFieldDescriptor (TX2 k).2.2.1 = some (tyX2 k) := by decide +kernel
abbrev cX2_init : ByteArray := prog_4_method_1_code
def yX2_init : MethodName := ⟨RX2, "<init>", "(LRingDomino$Board;)V"⟩
abbrev cX2_begin : ByteArray := prog_4_method_2_code
def yX2_begin : MethodName := ⟨RX2, "begin", "(LRingDomino$Program;)V"⟩
abbrev cX2_playRound : ByteArray := prog_4_method_3_code
def yX2_playRound : MethodName := ⟨RX2, "playRound", "()I"⟩
abbrev cX2_keep : ByteArray := prog_4_method_4_code
def yX2_keep : MethodName := ⟨RX2, "keep", "()V"⟩
abbrev cX2_bringBack : ByteArray := prog_4_method_5_code
def yX2_bringBack : MethodName := ⟨RX2, "bringBack", "()V"⟩
abbrev cX2_carriesOut : ByteArray := prog_4_method_6_code
def yX2_carriesOut : MethodName := ⟨RX2, "carriesOut", "(LRingDomino$Order;)Z"⟩
abbrev cX2_puts : ByteArray := prog_4_method_7_code
def yX2_puts : MethodName := ⟨RX2, "puts", "(LRingDomino$Order;)Z"⟩
abbrev cX2_takes : ByteArray := prog_4_method_8_code
def yX2_takes : MethodName := ⟨RX2, "takes", "(I)Z"⟩
abbrev cX2_fitsIn : ByteArray := prog_4_method_9_code
def yX2_fitsIn : MethodName := ⟨RX2, "fitsIn", "(I)Z"⟩
abbrev cX2_reckon : ByteArray := prog_4_method_10_code
def yX2_reckon : MethodName := ⟨RX2, "reckon", "(II)V"⟩
abbrev cX2_combined : ByteArray := prog_4_method_11_code
def yX2_combined : MethodName := ⟨RX2, "combined", "(LRingDomino$Kind;II)I"⟩
abbrev cX2_holdsBetween : ByteArray := prog_4_method_12_code
def yX2_holdsBetween : MethodName := ⟨RX2, "holdsBetween", "(LRingDomino$Kind;II)Z"⟩
abbrev cX2_remainder : ByteArray := prog_4_method_13_code
def yX2_remainder : MethodName := ⟨RX2, "remainder", "(II)I"⟩
abbrev cX2_push : ByteArray := prog_4_method_14_code
def yX2_push : MethodName := ⟨RX2, "push", "(I)V"⟩
abbrev cX2_pop : ByteArray := prog_4_method_15_code
def yX2_pop : MethodName := ⟨RX2, "pop", "()I"⟩
def RX3 : String := "RingDomino$Grammar"
def TX3 : u_T := fun k => match k with
  | 0 => ("RingDomino$Grammar", "tokens", "LRingDomino$Tokens;", true)
  | 1 => ("RingDomino$Grammar", "draft", "LRingDomino$Program;", true)
  | 2 => ("RingDomino$Grammar", "kind", "LRingDomino$Kind;", false)
  | _ => ("RingDomino$Grammar", "next", "I", false)
def tyX3 : Nat → FieldType := fun k => match k with
  | 0 => .object "RingDomino$Tokens"
  | 1 => .object "RingDomino$Program"
  | 2 => .object "RingDomino$Kind"
  | _ => .int
abbrev wsX30 : List Cond := u_ws RX3 TX3 4
theorem nmX3 : ∀ a, a < 4 → ∀ b, b < 4 → a ≠ b → (TX3 a).2.1 ≠ (TX3 b).2.1 := by decide +kernel
theorem tyX3_ok : ∀ k, k < 4 → parseFieldDescriptor (TX3 k).2.2.1 = some (tyX3 k) := by decide +kernel
abbrev cX3_init : ByteArray := prog_5_method_1_code
def yX3_init : MethodName := ⟨RX3, "<init>", "(LRingDomino$Tokens;LRingDomino$Program;)V"⟩
abbrev cX3_readsGame : ByteArray := prog_5_method_2_code
def yX3_readsGame : MethodName := ⟨RX3, "readsGame", "()Z"⟩
abbrev cX3_readsTile : ByteArray := prog_5_method_3_code
def yX3_readsTile : MethodName := ⟨RX3, "readsTile", "()Z"⟩
abbrev cX3_readsOrder : ByteArray := prog_5_method_4_code
def yX3_readsOrder : MethodName := ⟨RX3, "readsOrder", "()Z"⟩
abbrev cX3_readsTest : ByteArray := prog_5_method_5_code
def yX3_readsTest : MethodName := ⟨RX3, "readsTest", "(I)Z"⟩
abbrev cX3_readsBoth : ByteArray := prog_5_method_6_code
def yX3_readsBoth : MethodName := ⟨RX3, "readsBoth", "(I)Z"⟩
abbrev cX3_readsSingle : ByteArray := prog_5_method_7_code
def yX3_readsSingle : MethodName := ⟨RX3, "readsSingle", "(I)Z"⟩
abbrev cX3_readsSum : ByteArray := prog_5_method_8_code
def yX3_readsSum : MethodName := ⟨RX3, "readsSum", "(I)Z"⟩
abbrev cX3_readsProduct : ByteArray := prog_5_method_9_code
def yX3_readsProduct : MethodName := ⟨RX3, "readsProduct", "(I)Z"⟩
abbrev cX3_readsValue : ByteArray := prog_5_method_10_code
def yX3_readsValue : MethodName := ⟨RX3, "readsValue", "(I)Z"⟩
abbrev cX3_accept : ByteArray := prog_5_method_11_code
def yX3_accept : MethodName := ⟨RX3, "accept", "(LRingDomino$Kind;)Z"⟩
def RX4 : String := "RingDomino$Kind"
def TX4 : u_T := fun k => match k with
  | _ => ("", "", "", false)
def tyX4 : Nat → FieldType := fun k => match k with
  | _ => .int
abbrev wsX40 : List Cond := u_ws RX4 TX4 0
theorem nmX4 : ∀ a, a < 0 → ∀ b, b < 0 → a ≠ b → (TX4 a).2.1 ≠ (TX4 b).2.1 := by decide +kernel
theorem tyX4_ok : ∀ k, k < 0 → parseFieldDescriptor (TX4 k).2.2.1 = some (tyX4 k) := by decide +kernel
def RX5 : String := "RingDomino$Meaning"
def TX5 : u_T := fun k => match k with
  | 0 => ("RingDomino$Meaning", "tokens", "LRingDomino$Tokens;", true)
  | 1 => ("RingDomino$Meaning", "draft", "LRingDomino$Program;", true)
  | 2 => ("RingDomino$Meaning", "names", "[I", true)
  | 3 => ("RingDomino$Meaning", "nameCount", "I", false)
  | 4 => ("RingDomino$Meaning", "orderCount", "I", false)
  | 5 => ("RingDomino$Meaning", "line", "LRingDomino$Kind;", false)
  | _ => ("RingDomino$Meaning", "token", "I", false)
def tyX5 : Nat → FieldType := fun k => match k with
  | 0 => .object "RingDomino$Tokens"
  | 1 => .object "RingDomino$Program"
  | 2 => .array .int
  | 3 => .int
  | 4 => .int
  | 5 => .object "RingDomino$Kind"
  | _ => .int
abbrev wsX50 : List Cond := u_ws RX5 TX5 7
theorem nmX5 : ∀ a, a < 7 → ∀ b, b < 7 → a ≠ b → (TX5 a).2.1 ≠ (TX5 b).2.1 := by decide +kernel
theorem tyX5_ok : ∀ k, k < 7 → parseFieldDescriptor (TX5 k).2.2.1 = some (tyX5 k) := by decide +kernel
abbrev cX5_init : ByteArray := prog_7_method_1_code
def yX5_init : MethodName := ⟨RX5, "<init>", "(LRingDomino$Tokens;LRingDomino$Program;)V"⟩
abbrev cX5_firstError : ByteArray := prog_7_method_2_code
def yX5_firstError : MethodName := ⟨RX5, "firstError", "()I"⟩
abbrev cX5_errorAtToken : ByteArray := prog_7_method_3_code
def yX5_errorAtToken : MethodName := ⟨RX5, "errorAtToken", "()I"⟩
abbrev cX5_errorOfName : ByteArray := prog_7_method_4_code
def yX5_errorOfName : MethodName := ⟨RX5, "errorOfName", "(I)I"⟩
abbrev cX5_tileNamed : ByteArray := prog_7_method_5_code
def yX5_tileNamed : MethodName := ⟨RX5, "tileNamed", "()I"⟩
abbrev cX5_errorOfNumber : ByteArray := prog_7_method_6_code
def yX5_errorOfNumber : MethodName := ⟨RX5, "errorOfNumber", "(I)I"⟩
def RX6 : String := "RingDomino$Order"
def TX6 : u_T := fun k => match k with
  | 0 => ("RingDomino$Order", "kind", "LRingDomino$Kind;", false)
  | 1 => ("RingDomino$Order", "tile", "I", false)
  | 2 => ("RingDomino$Order", "sums", "I", false)
  | 3 => ("RingDomino$Order", "test", "I", false)
  | _ => ("RingDomino$Order", "end", "I", false)
def tyX6 : Nat → FieldType := fun k => match k with
  | 0 => .object "RingDomino$Kind"
  | 1 => .int
  | 2 => .int
  | 3 => .int
  | _ => .int
abbrev wsX60 : List Cond := u_ws RX6 TX6 5
theorem nmX6 : ∀ a, a < 5 → ∀ b, b < 5 → a ≠ b → (TX6 a).2.1 ≠ (TX6 b).2.1 := by decide +kernel
theorem tyX6_ok : ∀ k, k < 5 → parseFieldDescriptor (TX6 k).2.2.1 = some (tyX6 k) := by decide +kernel
abbrev cX6_init : ByteArray := prog_8_method_1_code
def yX6_init : MethodName := ⟨RX6, "<init>", "()V"⟩
abbrev cX6_copy : ByteArray := prog_8_method_2_code
def yX6_copy : MethodName := ⟨RX6, "copy", "(LRingDomino$Order;)V"⟩
def RX7 : String := "RingDomino$Program"
def TX7 : u_T := fun k => match k with
  | 0 => ("RingDomino$Program", "columns", "I", false)
  | 1 => ("RingDomino$Program", "rows", "I", false)
  | 2 => ("RingDomino$Program", "sides", "I", false)
  | 3 => ("RingDomino$Program", "tileNumbers", "[I", true)
  | 4 => ("RingDomino$Program", "tileNumberCount", "I", false)
  | 5 => ("RingDomino$Program", "orders", "[LRingDomino$Order;", true)
  | 6 => ("RingDomino$Program", "orderCount", "I", false)
  | 7 => ("RingDomino$Program", "steps", "[LRingDomino$Kind;", true)
  | 8 => ("RingDomino$Program", "operands", "[I", true)
  | _ => ("RingDomino$Program", "stepCount", "I", false)
def tyX7 : Nat → FieldType := fun k => match k with
  | 0 => .int
  | 1 => .int
  | 2 => .int
  | 3 => .array .int
  | 4 => .int
  | 5 => .array (.object "RingDomino$Order")
  | 6 => .int
  | 7 => .array (.object "RingDomino$Kind")
  | 8 => .array .int
  | _ => .int
abbrev wsX70 : List Cond := u_ws RX7 TX7 10
theorem nmX7 : ∀ a, a < 10 → ∀ b, b < 10 → a ≠ b → (TX7 a).2.1 ≠ (TX7 b).2.1 := by decide +kernel
theorem tyX7_ok : ∀ k, k < 10 → parseFieldDescriptor (TX7 k).2.2.1 = some (tyX7 k) := by decide +kernel
abbrev cX7_init : ByteArray := prog_9_method_1_code
def yX7_init : MethodName := ⟨RX7, "<init>", "()V"⟩
abbrev cX7_clear : ByteArray := prog_9_method_2_code
def yX7_clear : MethodName := ⟨RX7, "clear", "()V"⟩
abbrev cX7_addSide : ByteArray := prog_9_method_3_code
def yX7_addSide : MethodName := ⟨RX7, "addSide", "(I)V"⟩
abbrev cX7_addTileNumber : ByteArray := prog_9_method_4_code
def yX7_addTileNumber : MethodName := ⟨RX7, "addTileNumber", "(I)V"⟩
abbrev cX7_tileCount : ByteArray := prog_9_method_5_code
def yX7_tileCount : MethodName := ⟨RX7, "tileCount", "()I"⟩
abbrev cX7_tileNumber : ByteArray := prog_9_method_6_code
def yX7_tileNumber : MethodName := ⟨RX7, "tileNumber", "(I)I"⟩
abbrev cX7_beginOrder : ByteArray := prog_9_method_7_code
def yX7_beginOrder : MethodName := ⟨RX7, "beginOrder", "(LRingDomino$Kind;I)V"⟩
abbrev cX7_beginTest : ByteArray := prog_9_method_8_code
def yX7_beginTest : MethodName := ⟨RX7, "beginTest", "()V"⟩
abbrev cX7_endOrder : ByteArray := prog_9_method_9_code
def yX7_endOrder : MethodName := ⟨RX7, "endOrder", "()V"⟩
abbrev cX7_add : ByteArray := prog_9_method_10_code
def yX7_add : MethodName := ⟨RX7, "add", "(LRingDomino$Kind;I)Z"⟩
abbrev cX7_resolve : ByteArray := prog_9_method_11_code
def yX7_resolve : MethodName := ⟨RX7, "resolve", "(LRingDomino$Tokens;)V"⟩
abbrev cX7_step : ByteArray := prog_9_method_12_code
def yX7_step : MethodName := ⟨RX7, "step", "(I)LRingDomino$Kind;"⟩
abbrev cX7_operand : ByteArray := prog_9_method_13_code
def yX7_operand : MethodName := ⟨RX7, "operand", "(I)I"⟩
abbrev cX7_copy : ByteArray := prog_9_method_14_code
def yX7_copy : MethodName := ⟨RX7, "copy", "(LRingDomino$Program;)V"⟩
def RX8 : String := "RingDomino$Tape"
def TX8 : u_T := fun k => match k with
  | 0 => ("RingDomino$Tape", "bytes", "[B", true)
  | _ => ("RingDomino$Tape", "size", "I", false)
def tyX8 : Nat → FieldType := fun k => match k with
  | 0 => .array .byte
  | _ => .int
abbrev wsX80 : List Cond := u_ws RX8 TX8 2
theorem nmX8 : ∀ a, a < 2 → ∀ b, b < 2 → a ≠ b → (TX8 a).2.1 ≠ (TX8 b).2.1 := by decide +kernel
theorem tyX8_ok : ∀ k, k < 2 → parseFieldDescriptor (TX8 k).2.2.1 = some (tyX8 k) := by decide +kernel
abbrev cX8_init : ByteArray := prog_10_method_1_code
def yX8_init : MethodName := ⟨RX8, "<init>", "()V"⟩
abbrev cX8_hasRoomFor : ByteArray := prog_10_method_2_code
def yX8_hasRoomFor : MethodName := ⟨RX8, "hasRoomFor", "(I)Z"⟩
abbrev cX8_append : ByteArray := prog_10_method_3_code
def yX8_append : MethodName := ⟨RX8, "append", "(I)V"⟩
abbrev cX8_byteAt : ByteArray := prog_10_method_4_code
def yX8_byteAt : MethodName := ⟨RX8, "byteAt", "(I)I"⟩
abbrev cX8_isLetter : ByteArray := prog_10_method_5_code
def yX8_isLetter : MethodName := ⟨RX8, "isLetter", "(I)Z"⟩
abbrev cX8_isDigit : ByteArray := prog_10_method_6_code
def yX8_isDigit : MethodName := ⟨RX8, "isDigit", "(I)Z"⟩
abbrev cX8_behindBlanks : ByteArray := prog_10_method_7_code
def yX8_behindBlanks : MethodName := ⟨RX8, "behindBlanks", "(I)I"⟩
abbrev cX8_behindWord : ByteArray := prog_10_method_8_code
def yX8_behindWord : MethodName := ⟨RX8, "behindWord", "(I)I"⟩
abbrev cX8_behindDigits : ByteArray := prog_10_method_9_code
def yX8_behindDigits : MethodName := ⟨RX8, "behindDigits", "(I)I"⟩
abbrev cX8_says : ByteArray := prog_10_method_10_code
def yX8_says : MethodName := ⟨RX8, "says", "(Ljava/lang/String;II)Z"⟩
abbrev cX8_saysSame : ByteArray := prog_10_method_11_code
def yX8_saysSame : MethodName := ⟨RX8, "saysSame", "(III)Z"⟩
def RX9 : String := "RingDomino$Tokens"
def TX9 : u_T := fun k => match k with
  | 0 => ("RingDomino$Tokens", "tape", "LRingDomino$Tape;", true)
  | 1 => ("RingDomino$Tokens", "kinds", "[LRingDomino$Kind;", true)
  | 2 => ("RingDomino$Tokens", "starts", "[I", true)
  | 3 => ("RingDomino$Tokens", "ends", "[I", true)
  | 4 => ("RingDomino$Tokens", "values", "[I", true)
  | _ => ("RingDomino$Tokens", "count", "I", false)
def tyX9 : Nat → FieldType := fun k => match k with
  | 0 => .object "RingDomino$Tape"
  | 1 => .array (.object "RingDomino$Kind")
  | 2 => .array .int
  | 3 => .array .int
  | 4 => .array .int
  | _ => .int
abbrev wsX90 : List Cond := u_ws RX9 TX9 6
theorem nmX9 : ∀ a, a < 6 → ∀ b, b < 6 → a ≠ b → (TX9 a).2.1 ≠ (TX9 b).2.1 := by decide +kernel
theorem tyX9_ok : ∀ k, k < 6 → parseFieldDescriptor (TX9 k).2.2.1 = some (tyX9 k) := by decide +kernel
abbrev cX9_init : ByteArray := prog_11_method_1_code
def yX9_init : MethodName := ⟨RX9, "<init>", "(LRingDomino$Tape;)V"⟩
abbrev cX9_cutTape : ByteArray := prog_11_method_2_code
def yX9_cutTape : MethodName := ⟨RX9, "cutTape", "()V"⟩
abbrev cX9_add : ByteArray := prog_11_method_3_code
def yX9_add : MethodName := ⟨RX9, "add", "(LRingDomino$Kind;II)V"⟩
abbrev cX9_endOfToken : ByteArray := prog_11_method_4_code
def yX9_endOfToken : MethodName := ⟨RX9, "endOfToken", "(I)I"⟩
abbrev cX9_kindBetween : ByteArray := prog_11_method_5_code
def yX9_kindBetween : MethodName := ⟨RX9, "kindBetween", "(II)LRingDomino$Kind;"⟩
abbrev cX9_kindWritten : ByteArray := prog_11_method_6_code
def yX9_kindWritten : MethodName := ⟨RX9, "kindWritten", "(IILRingDomino$Kind;)LRingDomino$Kind;"⟩
abbrev cX9_numberBetween : ByteArray := prog_11_method_7_code
def yX9_numberBetween : MethodName := ⟨RX9, "numberBetween", "(II)I"⟩
abbrev cX9_kindOf : ByteArray := prog_11_method_8_code
def yX9_kindOf : MethodName := ⟨RX9, "kindOf", "(I)LRingDomino$Kind;"⟩
abbrev cX9_startOf : ByteArray := prog_11_method_9_code
def yX9_startOf : MethodName := ⟨RX9, "startOf", "(I)I"⟩
abbrev cX9_valueOf : ByteArray := prog_11_method_10_code
def yX9_valueOf : MethodName := ⟨RX9, "valueOf", "(I)I"⟩
abbrev cX9_setValue : ByteArray := prog_11_method_11_code
def yX9_setValue : MethodName := ⟨RX9, "setValue", "(II)V"⟩
abbrev cX9_areSameWords : ByteArray := prog_11_method_12_code
def yX9_areSameWords : MethodName := ⟨RX9, "areSameWords", "(II)Z"⟩
def RX10 : String := "RingDomino"
def TX10 : u_T := fun k => match k with
  | 0 => ("RingDomino", "tape", "LRingDomino$Tape;", true)
  | 1 => ("RingDomino", "tokens", "LRingDomino$Tokens;", true)
  | 2 => ("RingDomino", "draft", "LRingDomino$Program;", true)
  | 3 => ("RingDomino", "grammar", "LRingDomino$Grammar;", true)
  | 4 => ("RingDomino", "meaning", "LRingDomino$Meaning;", true)
  | 5 => ("RingDomino", "board", "LRingDomino$Board;", true)
  | 6 => ("RingDomino", "game", "LRingDomino$Game;", true)
  | _ => ("RingDomino", "errorPosition", "I", false)
def tyX10 : Nat → FieldType := fun k => match k with
  | 0 => .object "RingDomino$Tape"
  | 1 => .object "RingDomino$Tokens"
  | 2 => .object "RingDomino$Program"
  | 3 => .object "RingDomino$Grammar"
  | 4 => .object "RingDomino$Meaning"
  | 5 => .object "RingDomino$Board"
  | 6 => .object "RingDomino$Game"
  | _ => .int
abbrev wsX100 : List Cond := u_ws RX10 TX10 8
theorem nmX10 : ∀ a, a < 8 → ∀ b, b < 8 → a ≠ b → (TX10 a).2.1 ≠ (TX10 b).2.1 := by decide +kernel
theorem tyX10_ok : ∀ k, k < 8 → parseFieldDescriptor (TX10 k).2.2.1 = some (tyX10 k) := by decide +kernel
abbrev cX10_init : ByteArray := prog_1_method_1_code
def yX10_init : MethodName := ⟨RX10, "<init>", "()V"⟩
abbrev cX10_feed : ByteArray := prog_1_method_2_code
def yX10_feed : MethodName := ⟨RX10, "feed", "(IIIII)I"⟩
abbrev cX10_trim : ByteArray := prog_1_method_3_code
def yX10_trim : MethodName := ⟨RX10, "trim", "(I)I"⟩
abbrev cX10_teach : ByteArray := prog_1_method_4_code
def yX10_teach : MethodName := ⟨RX10, "teach", "()I"⟩
abbrev cX10_errorAt : ByteArray := prog_1_method_5_code
def yX10_errorAt : MethodName := ⟨RX10, "errorAt", "()I"⟩
abbrev cX10_columns : ByteArray := prog_1_method_6_code
def yX10_columns : MethodName := ⟨RX10, "columns", "()I"⟩
abbrev cX10_rows : ByteArray := prog_1_method_7_code
def yX10_rows : MethodName := ⟨RX10, "rows", "()I"⟩
abbrev cX10_tiles : ByteArray := prog_1_method_8_code
def yX10_tiles : MethodName := ⟨RX10, "tiles", "()I"⟩
abbrev cX10_rounds : ByteArray := prog_1_method_9_code
def yX10_rounds : MethodName := ⟨RX10, "rounds", "()I"⟩
abbrev cX10_placedTiles : ByteArray := prog_1_method_10_code
def yX10_placedTiles : MethodName := ⟨RX10, "placedTiles", "()I"⟩
abbrev cX10_matches : ByteArray := prog_1_method_11_code
def yX10_matches : MethodName := ⟨RX10, "matches", "()I"⟩
abbrev cX10_points : ByteArray := prog_1_method_12_code
def yX10_points : MethodName := ⟨RX10, "points", "()I"⟩
abbrev cX10_rings : ByteArray := prog_1_method_13_code
def yX10_rings : MethodName := ⟨RX10, "rings", "()I"⟩
abbrev cX10_groups : ByteArray := prog_1_method_14_code
def yX10_groups : MethodName := ⟨RX10, "groups", "()I"⟩
abbrev cX10_hasTile : ByteArray := prog_1_method_15_code
def yX10_hasTile : MethodName := ⟨RX10, "hasTile", "(I)Z"⟩
abbrev cX10_tileAt : ByteArray := prog_1_method_16_code
def yX10_tileAt : MethodName := ⟨RX10, "tileAt", "(I)I"⟩
abbrev cX10_numberAt : ByteArray := prog_1_method_17_code
def yX10_numberAt : MethodName := ⟨RX10, "numberAt", "(II)I"⟩
abbrev cX10_matchesOf : ByteArray := prog_1_method_18_code
def yX10_matchesOf : MethodName := ⟨RX10, "matchesOf", "(I)I"⟩
abbrev cX10_isRing : ByteArray := prog_1_method_19_code
def yX10_isRing : MethodName := ⟨RX10, "isRing", "(I)Z"⟩
abbrev cX10_isPlaced : ByteArray := prog_1_method_20_code
def yX10_isPlaced : MethodName := ⟨RX10, "isPlaced", "(I)Z"⟩
abbrev cX10_cellOf : ByteArray := prog_1_method_21_code
def yX10_cellOf : MethodName := ⟨RX10, "cellOf", "(I)I"⟩
abbrev cX10_turnOf : ByteArray := prog_1_method_22_code
def yX10_turnOf : MethodName := ⟨RX10, "turnOf", "(I)I"⟩
abbrev cX10_fits : ByteArray := prog_1_method_23_code
def yX10_fits : MethodName := ⟨RX10, "fits", "(III)Z"⟩
abbrev cX10_edgeAgainst : ByteArray := prog_1_method_24_code
def yX10_edgeAgainst : MethodName := ⟨RX10, "edgeAgainst", "(III)I"⟩
abbrev cX10_waysOf : ByteArray := prog_1_method_25_code
def yX10_waysOf : MethodName := ⟨RX10, "waysOf", "(I)I"⟩
abbrev cX10_isLeftover : ByteArray := prog_1_method_26_code
def yX10_isLeftover : MethodName := ⟨RX10, "isLeftover", "(I)Z"⟩
abbrev cX10_looksToProve : ByteArray := prog_1_method_27_code
def yX10_looksToProve : MethodName := ⟨RX10, "looksToProve", "(I)I"⟩
abbrev cX10_putTile : ByteArray := prog_1_method_28_code
def yX10_putTile : MethodName := ⟨RX10, "putTile", "(III)I"⟩
abbrev cX10_takeTile : ByteArray := prog_1_method_29_code
def yX10_takeTile : MethodName := ⟨RX10, "takeTile", "(I)I"⟩
abbrev cX10_fitTile : ByteArray := prog_1_method_30_code
def yX10_fitTile : MethodName := ⟨RX10, "fitTile", "(I)I"⟩
abbrev cX10_playRounds : ByteArray := prog_1_method_31_code
def yX10_playRounds : MethodName := ⟨RX10, "playRounds", "(I)I"⟩
abbrev cX10_pointsAfter : ByteArray := prog_1_method_32_code
def yX10_pointsAfter : MethodName := ⟨RX10, "pointsAfter", "(I)I"⟩
abbrev cX10_roundsUntilRing : ByteArray := prog_1_method_33_code
def yX10_roundsUntilRing : MethodName := ⟨RX10, "roundsUntilRing", "()I"⟩
abbrev cX10_bestCell : ByteArray := prog_1_method_34_code
def yX10_bestCell : MethodName := ⟨RX10, "bestCell", "(I)I"⟩
abbrev cX10_bestTurn : ByteArray := prog_1_method_35_code
def yX10_bestTurn : MethodName := ⟨RX10, "bestTurn", "(I)I"⟩
abbrev cX10_bestTile : ByteArray := prog_1_method_36_code
def yX10_bestTile : MethodName := ⟨RX10, "bestTile", "()I"⟩
abbrev cX10_meanMatch : ByteArray := prog_1_method_37_code
def yX10_meanMatch : MethodName := ⟨RX10, "meanMatch", "()D"⟩
abbrev cX10_digest : ByteArray := prog_1_method_38_code
def yX10_digest : MethodName := ⟨RX10, "digest", "()J"⟩
abbrev cX10_requireCell : ByteArray := prog_1_method_39_code
def yX10_requireCell : MethodName := ⟨RX10, "requireCell", "(I)V"⟩
abbrev cX10_requireTile : ByteArray := prog_1_method_40_code
def yX10_requireTile : MethodName := ⟨RX10, "requireTile", "(I)V"⟩
abbrev cX10_requireEdge : ByteArray := prog_1_method_41_code
def yX10_requireEdge : MethodName := ⟨RX10, "requireEdge", "(I)V"⟩
abbrev cX10_requireWay : ByteArray := prog_1_method_42_code
def yX10_requireWay : MethodName := ⟨RX10, "requireWay", "(III)V"⟩
abbrev cX10_requireTileOn : ByteArray := prog_1_method_43_code
def yX10_requireTileOn : MethodName := ⟨RX10, "requireTileOn", "(I)V"⟩
abbrev cX10_requireLying : ByteArray := prog_1_method_44_code
def yX10_requireLying : MethodName := ⟨RX10, "requireLying", "(I)V"⟩
abbrev cX10_requireSome : ByteArray := prog_1_method_45_code
def yX10_requireSome : MethodName := ⟨RX10, "requireSome", "(I)V"⟩
abbrev cX10_requireRounds : ByteArray := prog_1_method_46_code
def yX10_requireRounds : MethodName := ⟨RX10, "requireRounds", "(I)V"⟩
def RX11 : String := "RingDominoModel$State"
def TX11 : u_T := fun k => match k with
  | 0 => ("RingDominoModel$State", "at", "[I", true)
  | 1 => ("RingDominoModel$State", "cell", "[I", true)
  | 2 => ("RingDominoModel$State", "turn", "[I", true)
  | 3 => ("RingDominoModel$State", "placed", "I", false)
  | _ => ("RingDominoModel$State", "rounds", "I", false)
def tyX11 : Nat → FieldType := fun k => match k with
  | 0 => .array .int
  | 1 => .array .int
  | 2 => .array .int
  | 3 => .int
  | _ => .int
abbrev wsX110 : List Cond := u_ws RX11 TX11 5
theorem nmX11 : ∀ a, a < 5 → ∀ b, b < 5 → a ≠ b → (TX11 a).2.1 ≠ (TX11 b).2.1 := by decide +kernel
theorem tyX11_ok : ∀ k, k < 5 → parseFieldDescriptor (TX11 k).2.2.1 = some (tyX11 k) := by decide +kernel
abbrev cX11_init : ByteArray := prog_14_method_1_code
def yX11_init : MethodName := ⟨RX11, "<init>", "()V"⟩
abbrev cX11_begin : ByteArray := prog_14_method_2_code
def yX11_begin : MethodName := ⟨RX11, "begin", "()V"⟩
abbrev cX11_become : ByteArray := prog_14_method_3_code
def yX11_become : MethodName := ⟨RX11, "become", "(LRingDominoModel$State;)V"⟩
abbrev cX11_put : ByteArray := prog_14_method_4_code
def yX11_put : MethodName := ⟨RX11, "put", "(III)V"⟩
abbrev cX11_take : ByteArray := prog_14_method_5_code
def yX11_take : MethodName := ⟨RX11, "take", "(I)V"⟩
def RX12 : String := "RingDominoModel$Told"
def TX12 : u_T := fun k => match k with
  | 0 => ("RingDominoModel$Told", "columns", "I", false)
  | 1 => ("RingDominoModel$Told", "rows", "I", false)
  | 2 => ("RingDominoModel$Told", "tiles", "I", false)
  | 3 => ("RingDominoModel$Told", "numbers", "[I", true)
  | 4 => ("RingDominoModel$Told", "orders", "I", false)
  | 5 => ("RingDominoModel$Told", "does", "[I", true)
  | 6 => ("RingDominoModel$Told", "tile", "[I", true)
  | 7 => ("RingDominoModel$Told", "from", "[I", true)
  | 8 => ("RingDominoModel$Told", "to", "[I", true)
  | 9 => ("RingDominoModel$Told", "sums", "[I", true)
  | 10 => ("RingDominoModel$Told", "test", "[I", true)
  | 11 => ("RingDominoModel$Told", "nodes", "I", false)
  | 12 => ("RingDominoModel$Told", "sort", "[I", true)
  | 13 => ("RingDominoModel$Told", "left", "[I", true)
  | _ => ("RingDominoModel$Told", "right", "[I", true)
def tyX12 : Nat → FieldType := fun k => match k with
  | 0 => .int
  | 1 => .int
  | 2 => .int
  | 3 => .array .int
  | 4 => .int
  | 5 => .array .int
  | 6 => .array .int
  | 7 => .array .int
  | 8 => .array .int
  | 9 => .array .int
  | 10 => .array .int
  | 11 => .int
  | 12 => .array .int
  | 13 => .array .int
  | _ => .array .int
abbrev wsX120 : List Cond := u_ws RX12 TX12 15
theorem nmX12 : ∀ a, a < 15 → ∀ b, b < 15 → a ≠ b → (TX12 a).2.1 ≠ (TX12 b).2.1 := by decide +kernel
theorem tyX12_ok : ∀ k, k < 15 → parseFieldDescriptor (TX12 k).2.2.1 = some (tyX12 k) := by decide +kernel
abbrev cX12_init : ByteArray := prog_15_method_1_code
def yX12_init : MethodName := ⟨RX12, "<init>", "()V"⟩
abbrev cX12_begin : ByteArray := prog_15_method_2_code
def yX12_begin : MethodName := ⟨RX12, "begin", "()V"⟩
abbrev cX12_copy : ByteArray := prog_15_method_3_code
def yX12_copy : MethodName := ⟨RX12, "copy", "([I[I)V"⟩
abbrev cX12_become : ByteArray := prog_15_method_4_code
def yX12_become : MethodName := ⟨RX12, "become", "(LRingDominoModel$Told;)V"⟩
def RX13 : String := "RingDominoModel"
def TX13 : u_T := fun k => match k with
  | 0 => ("RingDominoModel", "thrown", "I", false)
  | 1 => ("RingDominoModel", "tape", "[I", true)
  | 2 => ("RingDominoModel", "bytes", "I", false)
  | 3 => ("RingDominoModel", "errorAt", "I", false)
  | 4 => ("RingDominoModel", "kind", "[I", true)
  | 5 => ("RingDominoModel", "number", "[I", true)
  | 6 => ("RingDominoModel", "position", "[I", true)
  | 7 => ("RingDominoModel", "length", "[I", true)
  | 8 => ("RingDominoModel", "token", "I", false)
  | 9 => ("RingDominoModel", "isWrong", "Z", false)
  | 10 => ("RingDominoModel", "error", "I", false)
  | 11 => ("RingDominoModel", "errorToken", "I", false)
  | 12 => ("RingDominoModel", "deep", "I", false)
  | 13 => ("RingDominoModel", "named", "[I", true)
  | 14 => ("RingDominoModel", "told", "LRingDominoModel$Told;", true)
  | 15 => ("RingDominoModel", "fresh", "LRingDominoModel$Told;", true)
  | 16 => ("RingDominoModel", "value", "[I", true)
  | 17 => ("RingDominoModel", "now", "LRingDominoModel$State;", true)
  | 18 => ("RingDominoModel", "ahead", "LRingDominoModel$State;", true)
  | 19 => ("RingDominoModel", "queue", "[I", true)
  | 20 => ("RingDominoModel", "isSeen", "[Z", true)
  | 21 => ("RingDominoModel", "mostGain", "I", false)
  | 22 => ("RingDominoModel", "mostCell", "I", false)
  | _ => ("RingDominoModel", "mostTurn", "I", false)
def tyX13 : Nat → FieldType := fun k => match k with
  | 0 => .int
  | 1 => .array .int
  | 2 => .int
  | 3 => .int
  | 4 => .array .int
  | 5 => .array .int
  | 6 => .array .int
  | 7 => .array .int
  | 8 => .int
  | 9 => .boolean
  | 10 => .int
  | 11 => .int
  | 12 => .int
  | 13 => .array .int
  | 14 => .object "RingDominoModel$Told"
  | 15 => .object "RingDominoModel$Told"
  | 16 => .array .int
  | 17 => .object "RingDominoModel$State"
  | 18 => .object "RingDominoModel$State"
  | 19 => .array .int
  | 20 => .array .boolean
  | 21 => .int
  | 22 => .int
  | _ => .int
abbrev wsX130 : List Cond := u_ws RX13 TX13 24
theorem nmX13 : ∀ a, a < 24 → ∀ b, b < 24 → a ≠ b → (TX13 a).2.1 ≠ (TX13 b).2.1 := by decide +kernel
theorem tyX13_ok : ∀ k, k < 24 → parseFieldDescriptor (TX13 k).2.2.1 = some (tyX13 k) := by decide +kernel
abbrev cX13_init : ByteArray := prog_13_method_1_code
def yX13_init : MethodName := ⟨RX13, "<init>", "()V"⟩
abbrev cX13_thrown : ByteArray := prog_13_method_2_code
def yX13_thrown : MethodName := ⟨RX13, "thrown", "()I"⟩
abbrev cX13_no : ByteArray := prog_13_method_3_code
def yX13_no : MethodName := ⟨RX13, "no", "(I)I"⟩
abbrev cX13_isNot : ByteArray := prog_13_method_4_code
def yX13_isNot : MethodName := ⟨RX13, "isNot", "(I)Z"⟩
abbrev cX13_ok : ByteArray := prog_13_method_5_code
def yX13_ok : MethodName := ⟨RX13, "ok", "(I)I"⟩
abbrev cX13_isIn : ByteArray := prog_13_method_6_code
def yX13_isIn : MethodName := ⟨RX13, "isIn", "(III)Z"⟩
abbrev cX13_isLetter : ByteArray := prog_13_method_7_code
def yX13_isLetter : MethodName := ⟨RX13, "isLetter", "(I)Z"⟩
abbrev cX13_isDigit : ByteArray := prog_13_method_8_code
def yX13_isDigit : MethodName := ⟨RX13, "isDigit", "(I)Z"⟩
abbrev cX13_byteAt : ByteArray := prog_13_method_9_code
def yX13_byteAt : MethodName := ⟨RX13, "byteAt", "(I)I"⟩
abbrev cX13_isWord : ByteArray := prog_13_method_10_code
def yX13_isWord : MethodName := ⟨RX13, "isWord", "(IILjava/lang/String;)Z"⟩
abbrev cX13_keyword : ByteArray := prog_13_method_11_code
def yX13_keyword : MethodName := ⟨RX13, "keyword", "(II)I"⟩
abbrev cX13_symbol : ByteArray := prog_13_method_12_code
def yX13_symbol : MethodName := ⟨RX13, "symbol", "(I)I"⟩
abbrev cX13_read : ByteArray := prog_13_method_13_code
def yX13_read : MethodName := ⟨RX13, "read", "(II)I"⟩
abbrev cX13_skip : ByteArray := prog_13_method_14_code
def yX13_skip : MethodName := ⟨RX13, "skip", "(I)I"⟩
abbrev cX13_readAll : ByteArray := prog_13_method_15_code
def yX13_readAll : MethodName := ⟨RX13, "readAll", "()V"⟩
abbrev cX13_is : ByteArray := prog_13_method_16_code
def yX13_is : MethodName := ⟨RX13, "is", "(I)Z"⟩
abbrev cX13_wrong : ByteArray := prog_13_method_17_code
def yX13_wrong : MethodName := ⟨RX13, "wrong", "()V"⟩
abbrev cX13_take : ByteArray := prog_13_method_18_code
def yX13_take : MethodName := ⟨RX13, "take", "(I)V"⟩
abbrev cX13_takes : ByteArray := prog_13_method_19_code
def yX13_takes : MethodName := ⟨RX13, "takes", "(I)Z"⟩
abbrev cX13_deeper : ByteArray := prog_13_method_20_code
def yX13_deeper : MethodName := ⟨RX13, "deeper", "()V"⟩
abbrev cX13_mark : ByteArray := prog_13_method_21_code
def yX13_mark : MethodName := ⟨RX13, "mark", "(I)V"⟩
abbrev cX13_node : ByteArray := prog_13_method_22_code
def yX13_node : MethodName := ⟨RX13, "node", "(III)I"⟩
abbrev cX13_isSameName : ByteArray := prog_13_method_23_code
def yX13_isSameName : MethodName := ⟨RX13, "isSameName", "(II)Z"⟩
abbrev cX13_known : ByteArray := prog_13_method_24_code
def yX13_known : MethodName := ⟨RX13, "known", "()I"⟩
abbrev cX13_name : ByteArray := prog_13_method_25_code
def yX13_name : MethodName := ⟨RX13, "name", "()I"⟩
abbrev cX13_inBrackets : ByteArray := prog_13_method_26_code
def yX13_inBrackets : MethodName := ⟨RX13, "inBrackets", "()I"⟩
abbrev cX13_ofTwo : ByteArray := prog_13_method_27_code
def yX13_ofTwo : MethodName := ⟨RX13, "ofTwo", "(I)I"⟩
abbrev cX13_value : ByteArray := prog_13_method_28_code
def yX13_value : MethodName := ⟨RX13, "value", "()I"⟩
abbrev cX13_product : ByteArray := prog_13_method_29_code
def yX13_product : MethodName := ⟨RX13, "product", "()I"⟩
abbrev cX13_sum : ByteArray := prog_13_method_30_code
def yX13_sum : MethodName := ⟨RX13, "sum", "()I"⟩
abbrev cX13_comparison : ByteArray := prog_13_method_31_code
def yX13_comparison : MethodName := ⟨RX13, "comparison", "()I"⟩
abbrev cX13_single : ByteArray := prog_13_method_32_code
def yX13_single : MethodName := ⟨RX13, "single", "()I"⟩
abbrev cX13_both : ByteArray := prog_13_method_33_code
def yX13_both : MethodName := ⟨RX13, "both", "()I"⟩
abbrev cX13_test : ByteArray := prog_13_method_34_code
def yX13_test : MethodName := ⟨RX13, "test", "()I"⟩
abbrev cX13_numberIn : ByteArray := prog_13_method_35_code
def yX13_numberIn : MethodName := ⟨RX13, "numberIn", "(II)I"⟩
abbrev cX13_tile : ByteArray := prog_13_method_36_code
def yX13_tile : MethodName := ⟨RX13, "tile", "()V"⟩
abbrev cX13_order : ByteArray := prog_13_method_37_code
def yX13_order : MethodName := ⟨RX13, "order", "(I)V"⟩
abbrev cX13_line : ByteArray := prog_13_method_38_code
def yX13_line : MethodName := ⟨RX13, "line", "()V"⟩
abbrev cX13_game : ByteArray := prog_13_method_39_code
def yX13_game : MethodName := ⟨RX13, "game", "()V"⟩
abbrev cX13_feed : ByteArray := prog_13_method_40_code
def yX13_feed : MethodName := ⟨RX13, "feed", "(IIIII)I"⟩
abbrev cX13_trim : ByteArray := prog_13_method_41_code
def yX13_trim : MethodName := ⟨RX13, "trim", "(I)I"⟩
abbrev cX13_teach : ByteArray := prog_13_method_42_code
def yX13_teach : MethodName := ⟨RX13, "teach", "()I"⟩
abbrev cX13_errorAt : ByteArray := prog_13_method_43_code
def yX13_errorAt : MethodName := ⟨RX13, "errorAt", "()I"⟩
abbrev cX13_cells : ByteArray := prog_13_method_44_code
def yX13_cells : MethodName := ⟨RX13, "cells", "()I"⟩
abbrev cX13_beside : ByteArray := prog_13_method_45_code
def yX13_beside : MethodName := ⟨RX13, "beside", "(II)I"⟩
abbrev cX13_tileBeside : ByteArray := prog_13_method_46_code
def yX13_tileBeside : MethodName := ⟨RX13, "tileBeside", "(LRingDominoModel$State;II)I"⟩
abbrev cX13_numberOf : ByteArray := prog_13_method_47_code
def yX13_numberOf : MethodName := ⟨RX13, "numberOf", "(III)I"⟩
abbrev cX13_numberAt : ByteArray := prog_13_method_48_code
def yX13_numberAt : MethodName := ⟨RX13, "numberAt", "(LRingDominoModel$State;II)I"⟩
abbrev cX13_against : ByteArray := prog_13_method_49_code
def yX13_against : MethodName := ⟨RX13, "against", "(LRingDominoModel$State;III)I"⟩
abbrev cX13_tilesBeside : ByteArray := prog_13_method_50_code
def yX13_tilesBeside : MethodName := ⟨RX13, "tilesBeside", "(LRingDominoModel$State;I)I"⟩
abbrev cX13_fits : ByteArray := prog_13_method_51_code
def yX13_fits : MethodName := ⟨RX13, "fits", "(LRingDominoModel$State;III)Z"⟩
abbrev cX13_ways : ByteArray := prog_13_method_52_code
def yX13_ways : MethodName := ⟨RX13, "ways", "(LRingDominoModel$State;I)I"⟩
abbrev cX13_firstWay : ByteArray := prog_13_method_53_code
def yX13_firstWay : MethodName := ⟨RX13, "firstWay", "(LRingDominoModel$State;I)I"⟩
abbrev cX13_ring : ByteArray := prog_13_method_54_code
def yX13_ring : MethodName := ⟨RX13, "ring", "(LRingDominoModel$State;I)Z"⟩
abbrev cX13_rings : ByteArray := prog_13_method_55_code
def yX13_rings : MethodName := ⟨RX13, "rings", "(LRingDominoModel$State;)I"⟩
abbrev cX13_matches : ByteArray := prog_13_method_56_code
def yX13_matches : MethodName := ⟨RX13, "matches", "(LRingDominoModel$State;)I"⟩
abbrev cX13_matched : ByteArray := prog_13_method_57_code
def yX13_matched : MethodName := ⟨RX13, "matched", "(LRingDominoModel$State;)I"⟩
abbrev cX13_points : ByteArray := prog_13_method_58_code
def yX13_points : MethodName := ⟨RX13, "points", "(LRingDominoModel$State;)I"⟩
abbrev cX13_gain : ByteArray := prog_13_method_59_code
def yX13_gain : MethodName := ⟨RX13, "gain", "(LRingDominoModel$State;III)I"⟩
abbrev cX13_isInside : ByteArray := prog_13_method_60_code
def yX13_isInside : MethodName := ⟨RX13, "isInside", "(I)Z"⟩
abbrev cX13_hasBest : ByteArray := prog_13_method_61_code
def yX13_hasBest : MethodName := ⟨RX13, "hasBest", "(LRingDominoModel$State;I)Z"⟩
abbrev cX13_reckon : ByteArray := prog_13_method_62_code
def yX13_reckon : MethodName := ⟨RX13, "reckon", "(LRingDominoModel$State;III)I"⟩
abbrev cX13_joined : ByteArray := prog_13_method_63_code
def yX13_joined : MethodName := ⟨RX13, "joined", "(III)I"⟩
abbrev cX13_isPut : ByteArray := prog_13_method_64_code
def yX13_isPut : MethodName := ⟨RX13, "isPut", "(LRingDominoModel$State;IIII)Z"⟩
abbrev cX13_isFitted : ByteArray := prog_13_method_65_code
def yX13_isFitted : MethodName := ⟨RX13, "isFitted", "(LRingDominoModel$State;I)Z"⟩
abbrev cX13_carryOut : ByteArray := prog_13_method_66_code
def yX13_carryOut : MethodName := ⟨RX13, "carryOut", "(LRingDominoModel$State;I)Z"⟩
abbrev cX13_play : ByteArray := prog_13_method_67_code
def yX13_play : MethodName := ⟨RX13, "play", "(LRingDominoModel$State;)I"⟩
abbrev cX13_columns : ByteArray := prog_13_method_68_code
def yX13_columns : MethodName := ⟨RX13, "columns", "()I"⟩
abbrev cX13_rows : ByteArray := prog_13_method_69_code
def yX13_rows : MethodName := ⟨RX13, "rows", "()I"⟩
abbrev cX13_tiles : ByteArray := prog_13_method_70_code
def yX13_tiles : MethodName := ⟨RX13, "tiles", "()I"⟩
abbrev cX13_rounds : ByteArray := prog_13_method_71_code
def yX13_rounds : MethodName := ⟨RX13, "rounds", "()I"⟩
abbrev cX13_placedTiles : ByteArray := prog_13_method_72_code
def yX13_placedTiles : MethodName := ⟨RX13, "placedTiles", "()I"⟩
abbrev cX13_matches_ : ByteArray := prog_13_method_73_code
def yX13_matches_ : MethodName := ⟨RX13, "matches", "()I"⟩
abbrev cX13_points_ : ByteArray := prog_13_method_74_code
def yX13_points_ : MethodName := ⟨RX13, "points", "()I"⟩
abbrev cX13_rings_ : ByteArray := prog_13_method_75_code
def yX13_rings_ : MethodName := ⟨RX13, "rings", "()I"⟩
abbrev cX13_reach : ByteArray := prog_13_method_76_code
def yX13_reach : MethodName := ⟨RX13, "reach", "(I)V"⟩
abbrev cX13_groupsOf : ByteArray := prog_13_method_77_code
def yX13_groupsOf : MethodName := ⟨RX13, "groupsOf", "()I"⟩
abbrev cX13_groups : ByteArray := prog_13_method_78_code
def yX13_groups : MethodName := ⟨RX13, "groups", "()I"⟩
abbrev cX13_isCell : ByteArray := prog_13_method_79_code
def yX13_isCell : MethodName := ⟨RX13, "isCell", "(I)Z"⟩
abbrev cX13_isTile : ByteArray := prog_13_method_80_code
def yX13_isTile : MethodName := ⟨RX13, "isTile", "(I)Z"⟩
abbrev cX13_isEdge : ByteArray := prog_13_method_81_code
def yX13_isEdge : MethodName := ⟨RX13, "isEdge", "(I)Z"⟩
abbrev cX13_hasTile : ByteArray := prog_13_method_82_code
def yX13_hasTile : MethodName := ⟨RX13, "hasTile", "(I)Z"⟩
abbrev cX13_tileAt : ByteArray := prog_13_method_83_code
def yX13_tileAt : MethodName := ⟨RX13, "tileAt", "(I)I"⟩
abbrev cX13_numberAt_ : ByteArray := prog_13_method_84_code
def yX13_numberAt_ : MethodName := ⟨RX13, "numberAt", "(II)I"⟩
abbrev cX13_matchesAt : ByteArray := prog_13_method_85_code
def yX13_matchesAt : MethodName := ⟨RX13, "matchesAt", "(I)I"⟩
abbrev cX13_matchesOf : ByteArray := prog_13_method_86_code
def yX13_matchesOf : MethodName := ⟨RX13, "matchesOf", "(I)I"⟩
abbrev cX13_isRing : ByteArray := prog_13_method_87_code
def yX13_isRing : MethodName := ⟨RX13, "isRing", "(I)Z"⟩
abbrev cX13_isPlaced : ByteArray := prog_13_method_88_code
def yX13_isPlaced : MethodName := ⟨RX13, "isPlaced", "(I)Z"⟩
abbrev cX13_lies : ByteArray := prog_13_method_89_code
def yX13_lies : MethodName := ⟨RX13, "lies", "(I)Z"⟩
abbrev cX13_cellOf : ByteArray := prog_13_method_90_code
def yX13_cellOf : MethodName := ⟨RX13, "cellOf", "(I)I"⟩
abbrev cX13_turnOf : ByteArray := prog_13_method_91_code
def yX13_turnOf : MethodName := ⟨RX13, "turnOf", "(I)I"⟩
abbrev cX13_isAsked : ByteArray := prog_13_method_92_code
def yX13_isAsked : MethodName := ⟨RX13, "isAsked", "(III)Z"⟩
abbrev cX13_fits_ : ByteArray := prog_13_method_93_code
def yX13_fits_ : MethodName := ⟨RX13, "fits", "(III)Z"⟩
abbrev cX13_edgeAgainst : ByteArray := prog_13_method_94_code
def yX13_edgeAgainst : MethodName := ⟨RX13, "edgeAgainst", "(III)I"⟩
abbrev cX13_waysOf : ByteArray := prog_13_method_95_code
def yX13_waysOf : MethodName := ⟨RX13, "waysOf", "(I)I"⟩
abbrev cX13_leftover : ByteArray := prog_13_method_96_code
def yX13_leftover : MethodName := ⟨RX13, "leftover", "(I)Z"⟩
abbrev cX13_isLeftover : ByteArray := prog_13_method_97_code
def yX13_isLeftover : MethodName := ⟨RX13, "isLeftover", "(I)Z"⟩
abbrev cX13_looksToProve : ByteArray := prog_13_method_98_code
def yX13_looksToProve : MethodName := ⟨RX13, "looksToProve", "(I)I"⟩
abbrev cX13_putTile : ByteArray := prog_13_method_99_code
def yX13_putTile : MethodName := ⟨RX13, "putTile", "(III)I"⟩
abbrev cX13_takeTile : ByteArray := prog_13_method_100_code
def yX13_takeTile : MethodName := ⟨RX13, "takeTile", "(I)I"⟩
abbrev cX13_fitTile : ByteArray := prog_13_method_101_code
def yX13_fitTile : MethodName := ⟨RX13, "fitTile", "(I)I"⟩
abbrev cX13_playRounds : ByteArray := prog_13_method_102_code
def yX13_playRounds : MethodName := ⟨RX13, "playRounds", "(I)I"⟩
abbrev cX13_pointsAfter : ByteArray := prog_13_method_103_code
def yX13_pointsAfter : MethodName := ⟨RX13, "pointsAfter", "(I)I"⟩
abbrev cX13_roundsUntilRing : ByteArray := prog_13_method_104_code
def yX13_roundsUntilRing : MethodName := ⟨RX13, "roundsUntilRing", "()I"⟩
abbrev cX13_bestCell : ByteArray := prog_13_method_105_code
def yX13_bestCell : MethodName := ⟨RX13, "bestCell", "(I)I"⟩
abbrev cX13_bestTurn : ByteArray := prog_13_method_106_code
def yX13_bestTurn : MethodName := ⟨RX13, "bestTurn", "(I)I"⟩
abbrev cX13_best : ByteArray := prog_13_method_107_code
def yX13_best : MethodName := ⟨RX13, "best", "()I"⟩
abbrev cX13_bestTile : ByteArray := prog_13_method_108_code
def yX13_bestTile : MethodName := ⟨RX13, "bestTile", "()I"⟩
abbrev cX13_meanMatch : ByteArray := prog_13_method_109_code
def yX13_meanMatch : MethodName := ⟨RX13, "meanMatch", "()D"⟩
abbrev cX13_digest : ByteArray := prog_13_method_110_code
def yX13_digest : MethodName := ⟨RX13, "digest", "()J"⟩
def RJx145de : String := "java/io/Serializable"
def RJx9f9b0 : String := "java/lang/CharSequence"
def RJxb160c : String := "java/lang/Comparable"
def RJx29ce0 : String := "java/lang/Enum"
abbrev cJx29ce0_ordinal_8abf5 : ByteArray := prog_16_method_2_code
def yJx29ce0_ordinal_8abf5 : MethodName := ⟨RJx29ce0, "ordinal", "()I"⟩
def RJ6 : String := "java/lang/Integer"
abbrev cJ6_bitCount_0f7a4 : ByteArray := prog_21_method_49_code
def yJ6_bitCount_0f7a4 : MethodName := ⟨RJ6, "bitCount", "(I)I"⟩
def RJ9 : String := "java/lang/Math"
abbrev cJ9_floorMod_7cf53 : ByteArray := prog_22_method_50_code
def yJ9_floorMod_7cf53 : MethodName := ⟨RJ9, "floorMod", "(II)I"⟩
abbrev cJ9_max_7cf53 : ByteArray := prog_22_method_65_code
def yJ9_max_7cf53 : MethodName := ⟨RJ9, "max", "(II)I"⟩
abbrev cJ9_min_7cf53 : ByteArray := prog_22_method_69_code
def yJ9_min_7cf53 : MethodName := ⟨RJ9, "min", "(II)I"⟩
def RJ0 : String := "java/lang/String"
abbrev cJ0_length_8abf5 : ByteArray := prog_24_method_54_code
def yJ0_length_8abf5 : MethodName := ⟨RJ0, "length", "()I"⟩
abbrev cJ0_charAt_5068e : ByteArray := prog_24_method_56_code
def yJ0_charAt_5068e : MethodName := ⟨RJ0, "charAt", "(I)C"⟩
abbrev cJ0_coder_7d493 : ByteArray := prog_24_method_152_code
def yJ0_coder_7d493 : MethodName := ⟨RJ0, "coder", "()B"⟩
abbrev cJ0_isLatin1_aae02 : ByteArray := prog_24_method_154_code
def yJ0_isLatin1_aae02 : MethodName := ⟨RJ0, "isLatin1", "()Z"⟩
abbrev cJ0_checkIndex_df160 : ByteArray := prog_24_method_155_code
def yJ0_checkIndex_df160 : MethodName := ⟨RJ0, "checkIndex", "(II)V"⟩
def RJ1 : String := "java/lang/StringLatin1"
abbrev cJ1_charAt_3b067 : ByteArray := prog_25_method_2_code
def yJ1_charAt_3b067 : MethodName := ⟨RJ1, "charAt", "([BI)C"⟩
def RJ2 : String := "java/lang/StringUTF16"
abbrev cJ2_getChar_3b067 : ByteArray := prog_26_method_5_code
def yJ2_getChar_3b067 : MethodName := ⟨RJ2, "getChar", "([BI)C"⟩
abbrev cJ2_length_9d52b : ByteArray := prog_26_method_6_code
def yJ2_length_9d52b : MethodName := ⟨RJ2, "length", "([B)I"⟩
abbrev cJ2_charAt_3b067 : ByteArray := prog_26_method_83_code
def yJ2_charAt_3b067 : MethodName := ⟨RJ2, "charAt", "([BI)C"⟩
abbrev cJ2_checkIndex_2214a : ByteArray := prog_26_method_91_code
def yJ2_checkIndex_2214a : MethodName := ⟨RJ2, "checkIndex", "(I[B)V"⟩
def RJ10 : String := "java/lang/System"
def RJxfd54e : String := "java/lang/constant/Constable"
def RJx3cf43 : String := "java/lang/constant/ConstantDesc"
def RJ7 : String := "java/util/Arrays"
abbrev cJ7_fill_53178 : ByteArray := prog_29_method_103_code
def yJ7_fill_53178 : MethodName := ⟨RJ7, "fill", "([II)V"⟩
def RJ3 : String := "jdk/internal/util/Preconditions"
abbrev cJ3_checkIndex_8e157 : ByteArray := prog_30_method_11_code
def yJ3_checkIndex_8e157 : MethodName := ⟨RJ3, "checkIndex", "(IILjava/util/function/BiFunction;)I"⟩
def RL : String := "RingDominoLaw"
abbrev cL_feed : ByteArray := method_3_code
def yL_feed : MethodName := ⟨RL, "feed", "(LRingDomino;IIIII[J)I"⟩
abbrev cL_trim : ByteArray := method_4_code
def yL_trim : MethodName := ⟨RL, "trim", "(LRingDomino;I[J)I"⟩
abbrev cL_hasTile : ByteArray := method_5_code
def yL_hasTile : MethodName := ⟨RL, "hasTile", "(LRingDomino;I[J)I"⟩
abbrev cL_tileAt : ByteArray := method_6_code
def yL_tileAt : MethodName := ⟨RL, "tileAt", "(LRingDomino;I[J)I"⟩
abbrev cL_numberAt : ByteArray := method_7_code
def yL_numberAt : MethodName := ⟨RL, "numberAt", "(LRingDomino;II[J)I"⟩
abbrev cL_matchesOf : ByteArray := method_8_code
def yL_matchesOf : MethodName := ⟨RL, "matchesOf", "(LRingDomino;I[J)I"⟩
abbrev cL_isRing : ByteArray := method_9_code
def yL_isRing : MethodName := ⟨RL, "isRing", "(LRingDomino;I[J)I"⟩
abbrev cL_isPlaced : ByteArray := method_10_code
def yL_isPlaced : MethodName := ⟨RL, "isPlaced", "(LRingDomino;I[J)I"⟩
abbrev cL_cellOf : ByteArray := method_11_code
def yL_cellOf : MethodName := ⟨RL, "cellOf", "(LRingDomino;I[J)I"⟩
abbrev cL_turnOf : ByteArray := method_12_code
def yL_turnOf : MethodName := ⟨RL, "turnOf", "(LRingDomino;I[J)I"⟩
abbrev cL_fits : ByteArray := method_13_code
def yL_fits : MethodName := ⟨RL, "fits", "(LRingDomino;III[J)I"⟩
abbrev cL_edgeAgainst : ByteArray := method_14_code
def yL_edgeAgainst : MethodName := ⟨RL, "edgeAgainst", "(LRingDomino;III[J)I"⟩
abbrev cL_waysOf : ByteArray := method_15_code
def yL_waysOf : MethodName := ⟨RL, "waysOf", "(LRingDomino;I[J)I"⟩
abbrev cL_isLeftover : ByteArray := method_16_code
def yL_isLeftover : MethodName := ⟨RL, "isLeftover", "(LRingDomino;I[J)I"⟩
abbrev cL_looksToProve : ByteArray := method_17_code
def yL_looksToProve : MethodName := ⟨RL, "looksToProve", "(LRingDomino;I[J)I"⟩
abbrev cL_putTile : ByteArray := method_18_code
def yL_putTile : MethodName := ⟨RL, "putTile", "(LRingDomino;III[J)I"⟩
abbrev cL_takeTile : ByteArray := method_19_code
def yL_takeTile : MethodName := ⟨RL, "takeTile", "(LRingDomino;I[J)I"⟩
abbrev cL_fitTile : ByteArray := method_20_code
def yL_fitTile : MethodName := ⟨RL, "fitTile", "(LRingDomino;I[J)I"⟩
abbrev cL_playRounds : ByteArray := method_21_code
def yL_playRounds : MethodName := ⟨RL, "playRounds", "(LRingDomino;I[J)I"⟩
abbrev cL_pointsAfter : ByteArray := method_22_code
def yL_pointsAfter : MethodName := ⟨RL, "pointsAfter", "(LRingDomino;I[J)I"⟩
abbrev cL_bestCell : ByteArray := method_23_code
def yL_bestCell : MethodName := ⟨RL, "bestCell", "(LRingDomino;I[J)I"⟩
abbrev cL_bestTurn : ByteArray := method_24_code
def yL_bestTurn : MethodName := ⟨RL, "bestTurn", "(LRingDomino;I[J)I"⟩
abbrev cL_law : ByteArray := code
def yL_law : MethodName := ⟨RL, "law", "([I)Z"⟩
abbrev vwCl : List vw_C := [(RX1, TX1, 17), (RX2, TX2, 6), (RX3, TX3, 4), (RX5, TX5, 7), (RX6, TX6, 5), (RX7, TX7, 10), (RX8, TX8, 2), (RX9, TX9, 6), (RX10, TX10, 8), (RX11, TX11, 5), (RX12, TX12, 15), (RX13, TX13, 24)]
theorem tb1 : ∀ w ∈ tables_1_1, w ∈ lw_tbl := fun w h => List.mem_append_right _ (show w ∈ tables_1 from List.mem_append_left _ h)
theorem tb2 : ∀ w ∈ tables_1_2, w ∈ lw_tbl := fun w h => List.mem_append_right _ (show w ∈ tables_1 from List.mem_append_right _ (List.mem_append_left _ h))
theorem tb3 : ∀ w ∈ tables_1_3, w ∈ lw_tbl := fun w h => List.mem_append_right _ (show w ∈ tables_1 from List.mem_append_right _ (List.mem_append_right _ (List.mem_append_left _ h)))
theorem tb4 : ∀ w ∈ tables_1_4, w ∈ lw_tbl := fun w h => List.mem_append_right _ (show w ∈ tables_1 from List.mem_append_right _ (List.mem_append_right _ (List.mem_append_right _ (List.mem_append_left _ h))))
theorem tb5 : ∀ w ∈ tables_1_5, w ∈ lw_tbl := fun w h => List.mem_append_right _ (show w ∈ tables_1 from List.mem_append_right _ (List.mem_append_right _ (List.mem_append_right _ (List.mem_append_right _ (List.mem_append_left _ h)))))
theorem tb6 : ∀ w ∈ tables_1_6, w ∈ lw_tbl := fun w h => List.mem_append_right _ (show w ∈ tables_1 from List.mem_append_right _ (List.mem_append_right _ (List.mem_append_right _ (List.mem_append_right _ (List.mem_append_right _ (List.mem_append_left _ h))))))
theorem tb7 : ∀ w ∈ tables_1_7, w ∈ lw_tbl := fun w h => List.mem_append_right _ (show w ∈ tables_1 from List.mem_append_right _ (List.mem_append_right _ (List.mem_append_right _ (List.mem_append_right _ (List.mem_append_right _ (List.mem_append_right _ (List.mem_append_left _ h)))))))
theorem tb8 : ∀ w ∈ tables_1_8, w ∈ lw_tbl := fun w h => List.mem_append_right _ (show w ∈ tables_1 from List.mem_append_right _ (List.mem_append_right _ (List.mem_append_right _ (List.mem_append_right _ (List.mem_append_right _ (List.mem_append_right _ (List.mem_append_right _ (List.mem_append_left _ h))))))))
theorem tb9 : ∀ w ∈ tables_1_9, w ∈ lw_tbl := fun w h => List.mem_append_right _ (show w ∈ tables_1 from List.mem_append_right _ (List.mem_append_right _ (List.mem_append_right _ (List.mem_append_right _ (List.mem_append_right _ (List.mem_append_right _ (List.mem_append_right _ (List.mem_append_right _ (h)))))))))
set_option maxRecDepth 100000 in
theorem inX1 : ∀ w ∈ u_ws RX1 TX1 17, w ∈ lw_tbl := by
  intro w h
  have h2 : u_ws RX1 TX1 17 = ([349, 351, 353, 355, 357, 359, 361, 363, 365, 367, 369, 371, 373, 375, 377, 379, 381] : List Nat).filterMap (fun i => lw_tbl[i]?) := by decide +kernel
  rw [h2] at h
  obtain ⟨i, -, hi⟩ := List.mem_filterMap.mp h
  exact List.mem_of_getElem? hi
set_option maxRecDepth 100000 in
theorem inX2 : ∀ w ∈ u_ws RX2 TX2 6, w ∈ lw_tbl := by
  intro w h
  have h2 : u_ws RX2 TX2 6 = ([433, 435, 437, 439, 441, 443] : List Nat).filterMap (fun i => lw_tbl[i]?) := by decide +kernel
  rw [h2] at h
  obtain ⟨i, -, hi⟩ := List.mem_filterMap.mp h
  exact List.mem_of_getElem? hi
set_option maxRecDepth 100000 in
theorem inX3 : ∀ w ∈ u_ws RX3 TX3 4, w ∈ lw_tbl := by
  intro w h
  have h2 : u_ws RX3 TX3 4 = ([275, 277, 279, 281] : List Nat).filterMap (fun i => lw_tbl[i]?) := by decide +kernel
  rw [h2] at h
  obtain ⟨i, -, hi⟩ := List.mem_filterMap.mp h
  exact List.mem_of_getElem? hi
set_option maxRecDepth 100000 in
theorem inX5 : ∀ w ∈ u_ws RX5 TX5 7, w ∈ lw_tbl := by
  intro w h
  have h2 : u_ws RX5 TX5 7 = ([299, 301, 303, 305, 307, 309, 311] : List Nat).filterMap (fun i => lw_tbl[i]?) := by decide +kernel
  rw [h2] at h
  obtain ⟨i, -, hi⟩ := List.mem_filterMap.mp h
  exact List.mem_of_getElem? hi
set_option maxRecDepth 100000 in
theorem inX6 : ∀ w ∈ u_ws RX6 TX6 5, w ∈ lw_tbl := by
  intro w h
  have h2 : u_ws RX6 TX6 5 = ([217, 219, 221, 223, 225] : List Nat).filterMap (fun i => lw_tbl[i]?) := by decide +kernel
  rw [h2] at h
  obtain ⟨i, -, hi⟩ := List.mem_filterMap.mp h
  exact List.mem_of_getElem? hi
set_option maxRecDepth 100000 in
theorem inX7 : ∀ w ∈ u_ws RX7 TX7 10, w ∈ lw_tbl := by
  intro w h
  have h2 : u_ws RX7 TX7 10 = ([242, 244, 246, 248, 250, 252, 254, 256, 258, 260] : List Nat).filterMap (fun i => lw_tbl[i]?) := by decide +kernel
  rw [h2] at h
  obtain ⟨i, -, hi⟩ := List.mem_filterMap.mp h
  exact List.mem_of_getElem? hi
set_option maxRecDepth 100000 in
theorem inX8 : ∀ w ∈ u_ws RX8 TX8 2, w ∈ lw_tbl := by
  intro w h
  have h2 : u_ws RX8 TX8 2 = ([151, 153] : List Nat).filterMap (fun i => lw_tbl[i]?) := by decide +kernel
  rw [h2] at h
  obtain ⟨i, -, hi⟩ := List.mem_filterMap.mp h
  exact List.mem_of_getElem? hi
set_option maxRecDepth 100000 in
theorem inX9 : ∀ w ∈ u_ws RX9 TX9 6, w ∈ lw_tbl := by
  intro w h
  have h2 : u_ws RX9 TX9 6 = ([172, 174, 176, 178, 180, 182] : List Nat).filterMap (fun i => lw_tbl[i]?) := by decide +kernel
  rw [h2] at h
  obtain ⟨i, -, hi⟩ := List.mem_filterMap.mp h
  exact List.mem_of_getElem? hi
set_option maxRecDepth 100000 in
theorem inX10 : ∀ w ∈ u_ws RX10 TX10 8, w ∈ lw_tbl := by
  intro w h
  have h2 : u_ws RX10 TX10 8 = ([454, 456, 458, 460, 462, 464, 466, 468] : List Nat).filterMap (fun i => lw_tbl[i]?) := by decide +kernel
  rw [h2] at h
  obtain ⟨i, -, hi⟩ := List.mem_filterMap.mp h
  exact List.mem_of_getElem? hi
set_option maxRecDepth 100000 in
theorem inX11 : ∀ w ∈ u_ws RX11 TX11 5, w ∈ lw_tbl := by
  intro w h
  have h2 : u_ws RX11 TX11 5 = ([1451, 1453, 1455, 1457, 1459] : List Nat).filterMap (fun i => lw_tbl[i]?) := by decide +kernel
  rw [h2] at h
  obtain ⟨i, -, hi⟩ := List.mem_filterMap.mp h
  exact List.mem_of_getElem? hi
set_option maxRecDepth 100000 in
theorem inX12 : ∀ w ∈ u_ws RX12 TX12 15, w ∈ lw_tbl := by
  intro w h
  have h2 : u_ws RX12 TX12 15 = ([1404, 1406, 1408, 1410, 1412, 1414, 1416, 1418, 1420, 1422, 1424, 1426, 1428, 1430, 1432] : List Nat).filterMap (fun i => lw_tbl[i]?) := by decide +kernel
  rw [h2] at h
  obtain ⟨i, -, hi⟩ := List.mem_filterMap.mp h
  exact List.mem_of_getElem? hi
set_option maxRecDepth 100000 in
theorem inX13 : ∀ w ∈ u_ws RX13 TX13 24, w ∈ lw_tbl := by
  intro w h
  have h2 : u_ws RX13 TX13 24 = ([1490, 1492, 1494, 1496, 1498, 1500, 1502, 1504, 1506, 1508, 1510, 1512, 1514, 1516, 1518, 1520, 1522, 1524, 1526, 1528, 1530, 1532, 1534, 1536] : List Nat).filterMap (fun i => lw_tbl[i]?) := by decide +kernel
  rw [h2] at h
  obtain ⟨i, -, hi⟩ := List.mem_filterMap.mp h
  exact List.mem_of_getElem? hi
