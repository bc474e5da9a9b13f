/-! ===== names, fields, codes; words of the tables by their places ===== -/
def RX0 : String := "RingDomino$1"
def TX0 : u_T := fun k => match k with
  | _ => ("", "", "", false)
def tyX0 : Nat → FieldType := fun k => match k with
  | _ => .int
abbrev wsX00 : List Cond := u_ws RX0 TX0 0
theorem nmX0 : ∀ a, a < 0 → ∀ b, b < 0 → a ≠ b → (TX0 a).2.1 ≠ (TX0 b).2.1 := by decide +kernel
theorem tyX0_ok : ∀ k, k < 0 → parseFieldDescriptor (TX0 k).2.2.1 = some (tyX0 k) := by decide +kernel
def RX1 : String := "RingDomino$Board"
def TX1 : u_T := fun k => match k with
  | 0 => ("RingDomino$Board", "columns", "I", false)
  | 1 => ("RingDomino$Board", "rows", "I", false)
  | 2 => ("RingDomino$Board", "cellCount", "I", false)
  | 3 => ("RingDomino$Board", "tileCount", "I", false)
  | 4 => ("RingDomino$Board", "placed", "I", false)
  | 5 => ("RingDomino$Board", "tileOn", "[I", true)
  | 6 => ("RingDomino$Board", "cellUnder", "[I", true)
  | 7 => ("RingDomino$Board", "turnOn", "[I", true)
  | 8 => ("RingDomino$Board", "tileNumbers", "[I", true)
  | 9 => ("RingDomino$Board", "turnsWith", "[I", true)
  | 10 => ("RingDomino$Board", "beside", "[I", true)
  | 11 => ("RingDomino$Board", "facing", "[I", true)
  | 12 => ("RingDomino$Board", "tilesBeside", "[I", true)
  | 13 => ("RingDomino$Board", "keptCells", "[I", true)
  | 14 => ("RingDomino$Board", "keptTurns", "[I", true)
  | 15 => ("RingDomino$Board", "queue", "[I", true)
  | _ => ("RingDomino$Board", "groupOf", "[I", true)
def tyX1 : Nat → FieldType := fun k => match k with
  | 0 => .int
  | 1 => .int
  | 2 => .int
  | 3 => .int
  | 4 => .int
  | 5 => .array .int
  | 6 => .array .int
  | 7 => .array .int
  | 8 => .array .int
  | 9 => .array .int
  | 10 => .array .int
  | 11 => .array .int
  | 12 => .array .int
  | 13 => .array .int
  | 14 => .array .int
  | 15 => .array .int
  | _ => .array .int
abbrev wsX10 : List Cond := u_ws RX1 TX1 17
theorem nmX1 : ∀ a, a < 17 → ∀ b, b < 17 → a ≠ b → (TX1 a).2.1 ≠ (TX1 b).2.1 := by decide +kernel
theorem tyX1_ok : ∀ k, k < 17 → parseFieldDescriptor (TX1 k).2.2.1 = some (tyX1 k) := by decide +kernel
abbrev cX1_init : ByteArray := prog_3_method_1_code
def yX1_init : MethodName := ⟨RX1, "<init>", "()V"⟩
abbrev cX1_begin : ByteArray := prog_3_method_2_code
def yX1_begin : MethodName := ⟨RX1, "begin", "(LRingDomino$Program;)V"⟩
abbrev cX1_findCellsBeside : ByteArray := prog_3_method_3_code
def yX1_findCellsBeside : MethodName := ⟨RX1, "findCellsBeside", "(I)V"⟩
abbrev cX1_learnTile : ByteArray := prog_3_method_4_code
def yX1_learnTile : MethodName := ⟨RX1, "learnTile", "(ILRingDomino$Program;)V"⟩
abbrev cX1_knows : ByteArray := prog_3_method_5_code
def yX1_knows : MethodName := ⟨RX1, "knows", "(I)Z"⟩
abbrev cX1_lies : ByteArray := prog_3_method_6_code
def yX1_lies : MethodName := ⟨RX1, "lies", "(I)Z"⟩
abbrev cX1_numberOf : ByteArray := prog_3_method_7_code
def yX1_numberOf : MethodName := ⟨RX1, "numberOf", "(III)I"⟩
abbrev cX1_turnsFitting : ByteArray := prog_3_method_8_code
def yX1_turnsFitting : MethodName := ⟨RX1, "turnsFitting", "(II)I"⟩
abbrev cX1_fitsSo : ByteArray := prog_3_method_9_code
def yX1_fitsSo : MethodName := ⟨RX1, "fitsSo", "(III)Z"⟩
abbrev cX1_countWays : ByteArray := prog_3_method_10_code
def yX1_countWays : MethodName := ⟨RX1, "countWays", "(I)I"⟩
abbrev cX1_firstCell : ByteArray := prog_3_method_11_code
def yX1_firstCell : MethodName := ⟨RX1, "firstCell", "(I)I"⟩
abbrev cX1_firstTurn : ByteArray := prog_3_method_12_code
def yX1_firstTurn : MethodName := ⟨RX1, "firstTurn", "(II)I"⟩
abbrev cX1_firstClash : ByteArray := prog_3_method_13_code
def yX1_firstClash : MethodName := ⟨RX1, "firstClash", "(III)I"⟩
abbrev cX1_put : ByteArray := prog_3_method_16_code
def yX1_put : MethodName := ⟨RX1, "put", "(III)V"⟩
abbrev cX1_lift : ByteArray := prog_3_method_17_code
def yX1_lift : MethodName := ⟨RX1, "lift", "(I)V"⟩
abbrev cX1_pointsFor : ByteArray := prog_3_method_18_code
def yX1_pointsFor : MethodName := ⟨RX1, "pointsFor", "(I)I"⟩
abbrev cX1_richestCell : ByteArray := prog_3_method_19_code
def yX1_richestCell : MethodName := ⟨RX1, "richestCell", "(I)I"⟩
abbrev cX1_richestTile : ByteArray := prog_3_method_20_code
def yX1_richestTile : MethodName := ⟨RX1, "richestTile", "()I"⟩
abbrev cX1_matchesOn : ByteArray := prog_3_method_21_code
def yX1_matchesOn : MethodName := ⟨RX1, "matchesOn", "(I)I"⟩
abbrev cX1_isEncircled : ByteArray := prog_3_method_22_code
def yX1_isEncircled : MethodName := ⟨RX1, "isEncircled", "(I)Z"⟩
abbrev cX1_countMatches : ByteArray := prog_3_method_23_code
def yX1_countMatches : MethodName := ⟨RX1, "countMatches", "()I"⟩
abbrev cX1_sumOfMatches : ByteArray := prog_3_method_24_code
def yX1_sumOfMatches : MethodName := ⟨RX1, "sumOfMatches", "()I"⟩
abbrev cX1_countRings : ByteArray := prog_3_method_25_code
def yX1_countRings : MethodName := ⟨RX1, "countRings", "()I"⟩
abbrev cX1_countPoints : ByteArray := prog_3_method_26_code
def yX1_countPoints : MethodName := ⟨RX1, "countPoints", "()I"⟩
abbrev cX1_countGroups : ByteArray := prog_3_method_27_code
def yX1_countGroups : MethodName := ⟨RX1, "countGroups", "()I"⟩
abbrev cX1_markGroup : ByteArray := prog_3_method_28_code
def yX1_markGroup : MethodName := ⟨RX1, "markGroup", "(II)V"⟩
abbrev cX1_keep : ByteArray := prog_3_method_29_code
def yX1_keep : MethodName := ⟨RX1, "keep", "()V"⟩
abbrev cX1_bringBack : ByteArray := prog_3_method_30_code
def yX1_bringBack : MethodName := ⟨RX1, "bringBack", "()V"⟩
def RX2 : String := "RingDomino$Game"
def TX2 : u_T := fun k => match k with
  | 0 => ("RingDomino$Game", "board", "LRingDomino$Board;", true)
  | 1 => ("RingDomino$Game", "program", "LRingDomino$Program;", true)
  | 2 => ("RingDomino$Game", "stack", "[I", true)
  | 3 => ("RingDomino$Game", "height", "I", false)
  | 4 => ("RingDomino$Game", "keptRounds", "I", false)
  | _ => ("RingDomino$Game", "roundsGone", "I", false)
def tyX2 : Nat → FieldType := fun k => match k with
  | 0 => .object "RingDomino$Board"
  | 1 => .object "RingDomino$Program"
  | 2 => .array .int
  | 3 => .int
  | 4 => .int
  | _ => .int
abbrev wsX20 : List Cond := u_ws RX2 TX2 6
theorem nmX2 : ∀ a, a < 6 → ∀ b, b < 6 → a ≠ b → (TX2 a).2.1 ≠ (TX2 b).2.1 := by decide +kernel
theorem tyX2_ok : ∀ k, k < 6 → parseFieldDescriptor (TX2 k).2.2.1 = some (tyX2 k) := by decide +kernel
abbrev cX2_init : ByteArray := prog_4_method_1_code
def yX2_init : MethodName := ⟨RX2, "<init>", "(LRingDomino$Board;)V"⟩
abbrev cX2_begin : ByteArray := prog_4_method_2_code
def yX2_begin : MethodName := ⟨RX2, "begin", "(LRingDomino$Program;)V"⟩
abbrev cX2_playRound : ByteArray := prog_4_method_3_code
def yX2_playRound : MethodName := ⟨RX2, "playRound", "()I"⟩
abbrev cX2_keep : ByteArray := prog_4_method_4_code
def yX2_keep : MethodName := ⟨RX2, "keep", "()V"⟩
abbrev cX2_bringBack : ByteArray := prog_4_method_5_code
def yX2_bringBack : MethodName := ⟨RX2, "bringBack", "()V"⟩
abbrev cX2_carriesOut : ByteArray := prog_4_method_6_code
def yX2_carriesOut : MethodName := ⟨RX2, "carriesOut", "(LRingDomino$Order;)Z"⟩
abbrev cX2_puts : ByteArray := prog_4_method_7_code
def yX2_puts : MethodName := ⟨RX2, "puts", "(LRingDomino$Order;)Z"⟩
abbrev cX2_takes : ByteArray := prog_4_method_8_code
def yX2_takes : MethodName := ⟨RX2, "takes", "(I)Z"⟩
abbrev cX2_fitsIn : ByteArray := prog_4_method_9_code
def yX2_fitsIn : MethodName := ⟨RX2, "fitsIn", "(I)Z"⟩
abbrev cX2_reckon : ByteArray := prog_4_method_10_code
def yX2_reckon : MethodName := ⟨RX2, "reckon", "(II)V"⟩
abbrev cX2_combined : ByteArray := prog_4_method_11_code
def yX2_combined : MethodName := ⟨RX2, "combined", "(LRingDomino$Kind;II)I"⟩
abbrev cX2_holdsBetween : ByteArray := prog_4_method_12_code
def yX2_holdsBetween : MethodName := ⟨RX2, "holdsBetween", "(LRingDomino$Kind;II)Z"⟩
abbrev cX2_remainder : ByteArray := prog_4_method_13_code
def yX2_remainder : MethodName := ⟨RX2, "remainder", "(II)I"⟩
abbrev cX2_push : ByteArray := prog_4_method_14_code
def yX2_push : MethodName := ⟨RX2, "push", "(I)V"⟩
abbrev cX2_pop : ByteArray := prog_4_method_15_code
def yX2_pop : MethodName := ⟨RX2, "pop", "()I"⟩
def RX3 : String := "RingDomino$Grammar"
def TX3 : u_T := fun k => match k with
  | 0 => ("RingDomino$Grammar", "tokens", "LRingDomino$Tokens;", true)
  | 1 => ("RingDomino$Grammar", "draft", "LRingDomino$Program;", true)
  | 2 => ("RingDomino$Grammar", "kind", "LRingDomino$Kind;", false)
  | _ => ("RingDomino$Grammar", "next", "I", false)
def tyX3 : Nat → FieldType := fun k => match k with
  | 0 => .object "RingDomino$Tokens"
  | 1 => .object "RingDomino$Program"
  | 2 => .object "RingDomino$Kind"
  | _ => .int
abbrev wsX30 : List Cond := u_ws RX3 TX3 4
theorem nmX3 : ∀ a, a < 4 → ∀ b, b < 4 → a ≠ b → (TX3 a).2.1 ≠ (TX3 b).2.1 := by decide +kernel
theorem tyX3_ok : ∀ k, k < 4 → parseFieldDescriptor (TX3 k).2.2.1 = some (tyX3 k) := by decide +kernel
abbrev cX3_init : ByteArray := prog_5_method_1_code
def yX3_init : MethodName := ⟨RX3, "<init>", "(LRingDomino$Tokens;LRingDomino$Program;)V"⟩
abbrev cX3_readsGame : ByteArray := prog_5_method_2_code
def yX3_readsGame : MethodName := ⟨RX3, "readsGame", "()Z"⟩
abbrev cX3_readsTile : ByteArray := prog_5_method_3_code
def yX3_readsTile : MethodName := ⟨RX3, "readsTile", "()Z"⟩
abbrev cX3_readsOrder : ByteArray := prog_5_method_4_code
def yX3_readsOrder : MethodName := ⟨RX3, "readsOrder", "()Z"⟩
abbrev cX3_readsTest : ByteArray := prog_5_method_5_code
def yX3_readsTest : MethodName := ⟨RX3, "readsTest", "(I)Z"⟩
abbrev cX3_readsBoth : ByteArray := prog_5_method_6_code
def yX3_readsBoth : MethodName := ⟨RX3, "readsBoth", "(I)Z"⟩
abbrev cX3_readsSingle : ByteArray := prog_5_method_7_code
def yX3_readsSingle : MethodName := ⟨RX3, "readsSingle", "(I)Z"⟩
abbrev cX3_readsSum : ByteArray := prog_5_method_8_code
def yX3_readsSum : MethodName := ⟨RX3, "readsSum", "(I)Z"⟩
abbrev cX3_readsProduct : ByteArray := prog_5_method_9_code
def yX3_readsProduct : MethodName := ⟨RX3, "readsProduct", "(I)Z"⟩
abbrev cX3_readsValue : ByteArray := prog_5_method_10_code
def yX3_readsValue : MethodName := ⟨RX3, "readsValue", "(I)Z"⟩
abbrev cX3_accept : ByteArray := prog_5_method_11_code
def yX3_accept : MethodName := ⟨RX3, "accept", "(LRingDomino$Kind;)Z"⟩
def RX4 : String := "RingDomino$Kind"
def TX4 : u_T := fun k => match k with
  | _ => ("", "", "", false)
def tyX4 : Nat → FieldType := fun k => match k with
  | _ => .int
abbrev wsX40 : List Cond := u_ws RX4 TX4 0
theorem nmX4 : ∀ a, a < 0 → ∀ b, b < 0 → a ≠ b → (TX4 a).2.1 ≠ (TX4 b).2.1 := by decide +kernel
theorem tyX4_ok : ∀ k, k < 0 → parseFieldDescriptor (TX4 k).2.2.1 = some (tyX4 k) := by decide +kernel
def RX5 : String := "RingDomino$Meaning"
def TX5 : u_T := fun k => match k with
  | 0 => ("RingDomino$Meaning", "tokens", "LRingDomino$Tokens;", true)
  | 1 => ("RingDomino$Meaning", "draft", "LRingDomino$Program;", true)
  | 2 => ("RingDomino$Meaning", "names", "[I", true)
  | 3 => ("RingDomino$Meaning", "nameCount", "I", false)
  | 4 => ("RingDomino$Meaning", "orderCount", "I", false)
  | 5 => ("RingDomino$Meaning", "line", "LRingDomino$Kind;", false)
  | _ => ("RingDomino$Meaning", "token", "I", false)
def tyX5 : Nat → FieldType := fun k => match k with
  | 0 => .object "RingDomino$Tokens"
  | 1 => .object "RingDomino$Program"
  | 2 => .array .int
  | 3 => .int
  | 4 => .int
  | 5 => .object "RingDomino$Kind"
  | _ => .int
abbrev wsX50 : List Cond := u_ws RX5 TX5 7
theorem nmX5 : ∀ a, a < 7 → ∀ b, b < 7 → a ≠ b → (TX5 a).2.1 ≠ (TX5 b).2.1 := by decide +kernel
theorem tyX5_ok : ∀ k, k < 7 → parseFieldDescriptor (TX5 k).2.2.1 = some (tyX5 k) := by decide +kernel
abbrev cX5_init : ByteArray := prog_7_method_1_code
def yX5_init : MethodName := ⟨RX5, "<init>", "(LRingDomino$Tokens;LRingDomino$Program;)V"⟩
abbrev cX5_firstError : ByteArray := prog_7_method_2_code
def yX5_firstError : MethodName := ⟨RX5, "firstError", "()I"⟩
abbrev cX5_errorAtToken : ByteArray := prog_7_method_3_code
def yX5_errorAtToken : MethodName := ⟨RX5, "errorAtToken", "()I"⟩
abbrev cX5_errorOfName : ByteArray := prog_7_method_4_code
def yX5_errorOfName : MethodName := ⟨RX5, "errorOfName", "(I)I"⟩
abbrev cX5_tileNamed : ByteArray := prog_7_method_5_code
def yX5_tileNamed : MethodName := ⟨RX5, "tileNamed", "()I"⟩
abbrev cX5_errorOfNumber : ByteArray := prog_7_method_6_code
def yX5_errorOfNumber : MethodName := ⟨RX5, "errorOfNumber", "(I)I"⟩
def RX6 : String := "RingDomino$Order"
def TX6 : u_T := fun k => match k with
  | 0 => ("RingDomino$Order", "kind", "LRingDomino$Kind;", false)
  | 1 => ("RingDomino$Order", "tile", "I", false)
  | 2 => ("RingDomino$Order", "sums", "I", false)
  | 3 => ("RingDomino$Order", "test", "I", false)
  | _ => ("RingDomino$Order", "end", "I", false)
def tyX6 : Nat → FieldType := fun k => match k with
  | 0 => .object "RingDomino$Kind"
  | 1 => .int
  | 2 => .int
  | 3 => .int
  | _ => .int
abbrev wsX60 : List Cond := u_ws RX6 TX6 5
theorem nmX6 : ∀ a, a < 5 → ∀ b, b < 5 → a ≠ b → (TX6 a).2.1 ≠ (TX6 b).2.1 := by decide +kernel
theorem tyX6_ok : ∀ k, k < 5 → parseFieldDescriptor (TX6 k).2.2.1 = some (tyX6 k) := by decide +kernel
abbrev cX6_init : ByteArray := prog_8_method_1_code
def yX6_init : MethodName := ⟨RX6, "<init>", "()V"⟩
abbrev cX6_copy : ByteArray := prog_8_method_2_code
def yX6_copy : MethodName := ⟨RX6, "copy", "(LRingDomino$Order;)V"⟩
def RX7 : String := "RingDomino$Program"
def TX7 : u_T := fun k => match k with
  | 0 => ("RingDomino$Program", "columns", "I", false)
  | 1 => ("RingDomino$Program", "rows", "I", false)
  | 2 => ("RingDomino$Program", "sides", "I", false)
  | 3 => ("RingDomino$Program", "tileNumbers", "[I", true)
  | 4 => ("RingDomino$Program", "tileNumberCount", "I", false)
  | 5 => ("RingDomino$Program", "orders", "[LRingDomino$Order;", true)
  | 6 => ("RingDomino$Program", "orderCount", "I", false)
  | 7 => ("RingDomino$Program", "steps", "[LRingDomino$Kind;", true)
  | 8 => ("RingDomino$Program", "operands", "[I", true)
  | _ => ("RingDomino$Program", "stepCount", "I", false)
def tyX7 : Nat → FieldType := fun k => match k with
  | 0 => .int
  | 1 => .int
  | 2 => .int
  | 3 => .array .int
  | 4 => .int
  | 5 => .array (.object "RingDomino$Order")
  | 6 => .int
  | 7 => .array (.object "RingDomino$Kind")
  | 8 => .array .int
  | _ => .int
abbrev wsX70 : List Cond := u_ws RX7 TX7 10
theorem nmX7 : ∀ a, a < 10 → ∀ b, b < 10 → a ≠ b → (TX7 a).2.1 ≠ (TX7 b).2.1 := by decide +kernel
theorem tyX7_ok : ∀ k, k < 10 → parseFieldDescriptor (TX7 k).2.2.1 = some (tyX7 k) := by decide +kernel
abbrev cX7_init : ByteArray := prog_9_method_1_code
def yX7_init : MethodName := ⟨RX7, "<init>", "()V"⟩
abbrev cX7_clear : ByteArray := prog_9_method_2_code
def yX7_clear : MethodName := ⟨RX7, "clear", "()V"⟩
abbrev cX7_addSide : ByteArray := prog_9_method_3_code
def yX7_addSide : MethodName := ⟨RX7, "addSide", "(I)V"⟩
abbrev cX7_addTileNumber : ByteArray := prog_9_method_4_code
def yX7_addTileNumber : MethodName := ⟨RX7, "addTileNumber", "(I)V"⟩
abbrev cX7_tileCount : ByteArray := prog_9_method_5_code
def yX7_tileCount : MethodName := ⟨RX7, "tileCount", "()I"⟩
abbrev cX7_tileNumber : ByteArray := prog_9_method_6_code
def yX7_tileNumber : MethodName := ⟨RX7, "tileNumber", "(I)I"⟩
abbrev cX7_beginOrder : ByteArray := prog_9_method_7_code
def yX7_beginOrder : MethodName := ⟨RX7, "beginOrder", "(LRingDomino$Kind;I)V"⟩
abbrev cX7_beginTest : ByteArray := prog_9_method_8_code
def yX7_beginTest : MethodName := ⟨RX7, "beginTest", "()V"⟩
abbrev cX7_endOrder : ByteArray := prog_9_method_9_code
def yX7_endOrder : MethodName := ⟨RX7, "endOrder", "()V"⟩
abbrev cX7_add : ByteArray := prog_9_method_10_code
def yX7_add : MethodName := ⟨RX7, "add", "(LRingDomino$Kind;I)Z"⟩
abbrev cX7_resolve : ByteArray := prog_9_method_11_code
def yX7_resolve : MethodName := ⟨RX7, "resolve", "(LRingDomino$Tokens;)V"⟩
abbrev cX7_step : ByteArray := prog_9_method_12_code
def yX7_step : MethodName := ⟨RX7, "step", "(I)LRingDomino$Kind;"⟩
abbrev cX7_operand : ByteArray := prog_9_method_13_code
def yX7_operand : MethodName := ⟨RX7, "operand", "(I)I"⟩
abbrev cX7_copy : ByteArray := prog_9_method_14_code
def yX7_copy : MethodName := ⟨RX7, "copy", "(LRingDomino$Program;)V"⟩
def RX8 : String := "RingDomino$Tape"
def TX8 : u_T := fun k => match k with
  | 0 => ("RingDomino$Tape", "bytes", "[B", true)
  | _ => ("RingDomino$Tape", "size", "I", false)
def tyX8 : Nat → FieldType := fun k => match k with
  | 0 => .array .byte
  | _ => .int
abbrev wsX80 : List Cond := u_ws RX8 TX8 2
theorem nmX8 : ∀ a, a < 2 → ∀ b, b < 2 → a ≠ b → (TX8 a).2.1 ≠ (TX8 b).2.1 := by decide +kernel
theorem tyX8_ok : ∀ k, k < 2 → parseFieldDescriptor (TX8 k).2.2.1 = some (tyX8 k) := by decide +kernel
abbrev cX8_init : ByteArray := prog_10_method_1_code
def yX8_init : MethodName := ⟨RX8, "<init>", "()V"⟩
abbrev cX8_hasRoomFor : ByteArray := prog_10_method_2_code
def yX8_hasRoomFor : MethodName := ⟨RX8, "hasRoomFor", "(I)Z"⟩
abbrev cX8_append : ByteArray := prog_10_method_3_code
def yX8_append : MethodName := ⟨RX8, "append", "(I)V"⟩
abbrev cX8_byteAt : ByteArray := prog_10_method_4_code
def yX8_byteAt : MethodName := ⟨RX8, "byteAt", "(I)I"⟩
abbrev cX8_isLetter : ByteArray := prog_10_method_5_code
def yX8_isLetter : MethodName := ⟨RX8, "isLetter", "(I)Z"⟩
abbrev cX8_isDigit : ByteArray := prog_10_method_6_code
def yX8_isDigit : MethodName := ⟨RX8, "isDigit", "(I)Z"⟩
abbrev cX8_behindBlanks : ByteArray := prog_10_method_7_code
def yX8_behindBlanks : MethodName := ⟨RX8, "behindBlanks", "(I)I"⟩
abbrev cX8_behindWord : ByteArray := prog_10_method_8_code
def yX8_behindWord : MethodName := ⟨RX8, "behindWord", "(I)I"⟩
abbrev cX8_behindDigits : ByteArray := prog_10_method_9_code
def yX8_behindDigits : MethodName := ⟨RX8, "behindDigits", "(I)I"⟩
abbrev cX8_says : ByteArray := prog_10_method_10_code
def yX8_says : MethodName := ⟨RX8, "says", "(Ljava/lang/String;II)Z"⟩
abbrev cX8_saysSame : ByteArray := prog_10_method_11_code
def yX8_saysSame : MethodName := ⟨RX8, "saysSame", "(III)Z"⟩
def RX9 : String := "RingDomino$Tokens"
def TX9 : u_T := fun k => match k with
  | 0 => ("RingDomino$Tokens", "tape", "LRingDomino$Tape;", true)
  | 1 => ("RingDomino$Tokens", "kinds", "[LRingDomino$Kind;", true)
  | 2 => ("RingDomino$Tokens", "starts", "[I", true)
  | 3 => ("RingDomino$Tokens", "ends", "[I", true)
  | 4 => ("RingDomino$Tokens", "values", "[I", true)
  | _ => ("RingDomino$Tokens", "count", "I", false)
def tyX9 : Nat → FieldType := fun k => match k with
  | 0 => .object "RingDomino$Tape"
  | 1 => .array (.object "RingDomino$Kind")
  | 2 => .array .int
  | 3 => .array .int
  | 4 => .array .int
  | _ => .int
abbrev wsX90 : List Cond := u_ws RX9 TX9 6
theorem nmX9 : ∀ a, a < 6 → ∀ b, b < 6 → a ≠ b → (TX9 a).2.1 ≠ (TX9 b).2.1 := by decide +kernel
theorem tyX9_ok : ∀ k, k < 6 → parseFieldDescriptor (TX9 k).2.2.1 = some (tyX9 k) := by decide +kernel
abbrev cX9_init : ByteArray := prog_11_method_1_code
def yX9_init : MethodName := ⟨RX9, "<init>", "(LRingDomino$Tape;)V"⟩
abbrev cX9_cutTape : ByteArray := prog_11_method_2_code
def yX9_cutTape : MethodName := ⟨RX9, "cutTape", "()V"⟩
abbrev cX9_add : ByteArray := prog_11_method_3_code
def yX9_add : MethodName := ⟨RX9, "add", "(LRingDomino$Kind;II)V"⟩
abbrev cX9_endOfToken : ByteArray := prog_11_method_4_code
def yX9_endOfToken : MethodName := ⟨RX9, "endOfToken", "(I)I"⟩
abbrev cX9_kindBetween : ByteArray := prog_11_method_5_code
def yX9_kindBetween : MethodName := ⟨RX9, "kindBetween", "(II)LRingDomino$Kind;"⟩
abbrev cX9_kindWritten : ByteArray := prog_11_method_6_code
def yX9_kindWritten : MethodName := ⟨RX9, "kindWritten", "(IILRingDomino$Kind;)LRingDomino$Kind;"⟩
abbrev cX9_numberBetween : ByteArray := prog_11_method_7_code
def yX9_numberBetween : MethodName := ⟨RX9, "numberBetween", "(II)I"⟩
abbrev cX9_kindOf : ByteArray := prog_11_method_8_code
def yX9_kindOf : MethodName := ⟨RX9, "kindOf", "(I)LRingDomino$Kind;"⟩
abbrev cX9_startOf : ByteArray := prog_11_method_9_code
def yX9_startOf : MethodName := ⟨RX9, "startOf", "(I)I"⟩
abbrev cX9_valueOf : ByteArray := prog_11_method_10_code
def yX9_valueOf : MethodName := ⟨RX9, "valueOf", "(I)I"⟩
abbrev cX9_setValue : ByteArray := prog_11_method_11_code
def yX9_setValue : MethodName := ⟨RX9, "setValue", "(II)V"⟩
abbrev cX9_areSameWords : ByteArray := prog_11_method_12_code
def yX9_areSameWords : MethodName := ⟨RX9, "areSameWords", "(II)Z"⟩
def RX10 : String := "RingDomino"
def TX10 : u_T := fun k => match k with
  | 0 => ("RingDomino", "tape", "LRingDomino$Tape;", true)
  | 1 => ("RingDomino", "tokens", "LRingDomino$Tokens;", true)
  | 2 => ("RingDomino", "draft", "LRingDomino$Program;", true)
  | 3 => ("RingDomino", "grammar", "LRingDomino$Grammar;", true)
  | 4 => ("RingDomino", "meaning", "LRingDomino$Meaning;", true)
  | 5 => ("RingDomino", "board", "LRingDomino$Board;", true)
  | 6 => ("RingDomino", "game", "LRingDomino$Game;", true)
  | _ => ("RingDomino", "errorPosition", "I", false)
def tyX10 : Nat → FieldType := fun k => match k with
  | 0 => .object "RingDomino$Tape"
  | 1 => .object "RingDomino$Tokens"
  | 2 => .object "RingDomino$Program"
  | 3 => .object "RingDomino$Grammar"
  | 4 => .object "RingDomino$Meaning"
  | 5 => .object "RingDomino$Board"
  | 6 => .object "RingDomino$Game"
  | _ => .int
abbrev wsX100 : List Cond := u_ws RX10 TX10 8
theorem nmX10 : ∀ a, a < 8 → ∀ b, b < 8 → a ≠ b → (TX10 a).2.1 ≠ (TX10 b).2.1 := by decide +kernel
theorem tyX10_ok : ∀ k, k < 8 → parseFieldDescriptor (TX10 k).2.2.1 = some (tyX10 k) := by decide +kernel
abbrev cX10_init : ByteArray := prog_1_method_1_code
def yX10_init : MethodName := ⟨RX10, "<init>", "()V"⟩
abbrev cX10_feed : ByteArray := prog_1_method_2_code
def yX10_feed : MethodName := ⟨RX10, "feed", "(IIIII)I"⟩
abbrev cX10_trim : ByteArray := prog_1_method_3_code
def yX10_trim : MethodName := ⟨RX10, "trim", "(I)I"⟩
abbrev cX10_teach : ByteArray := prog_1_method_4_code
def yX10_teach : MethodName := ⟨RX10, "teach", "()I"⟩
abbrev cX10_columns : ByteArray := prog_1_method_6_code
def yX10_columns : MethodName := ⟨RX10, "columns", "()I"⟩
abbrev cX10_rows : ByteArray := prog_1_method_7_code
def yX10_rows : MethodName := ⟨RX10, "rows", "()I"⟩
abbrev cX10_tiles : ByteArray := prog_1_method_8_code
def yX10_tiles : MethodName := ⟨RX10, "tiles", "()I"⟩
abbrev cX10_rounds : ByteArray := prog_1_method_9_code
def yX10_rounds : MethodName := ⟨RX10, "rounds", "()I"⟩
abbrev cX10_placedTiles : ByteArray := prog_1_method_10_code
def yX10_placedTiles : MethodName := ⟨RX10, "placedTiles", "()I"⟩
abbrev cX10_matches : ByteArray := prog_1_method_11_code
def yX10_matches : MethodName := ⟨RX10, "matches", "()I"⟩
abbrev cX10_points : ByteArray := prog_1_method_12_code
def yX10_points : MethodName := ⟨RX10, "points", "()I"⟩
abbrev cX10_rings : ByteArray := prog_1_method_13_code
def yX10_rings : MethodName := ⟨RX10, "rings", "()I"⟩
abbrev cX10_groups : ByteArray := prog_1_method_14_code
def yX10_groups : MethodName := ⟨RX10, "groups", "()I"⟩
abbrev cX10_hasTile : ByteArray := prog_1_method_15_code
def yX10_hasTile : MethodName := ⟨RX10, "hasTile", "(I)Z"⟩
abbrev cX10_tileAt : ByteArray := prog_1_method_16_code
def yX10_tileAt : MethodName := ⟨RX10, "tileAt", "(I)I"⟩
abbrev cX10_numberAt : ByteArray := prog_1_method_17_code
def yX10_numberAt : MethodName := ⟨RX10, "numberAt", "(II)I"⟩
abbrev cX10_matchesOf : ByteArray := prog_1_method_18_code
def yX10_matchesOf : MethodName := ⟨RX10, "matchesOf", "(I)I"⟩
abbrev cX10_isRing : ByteArray := prog_1_method_19_code
def yX10_isRing : MethodName := ⟨RX10, "isRing", "(I)Z"⟩
abbrev cX10_isPlaced : ByteArray := prog_1_method_20_code
def yX10_isPlaced : MethodName := ⟨RX10, "isPlaced", "(I)Z"⟩
abbrev cX10_cellOf : ByteArray := prog_1_method_21_code
def yX10_cellOf : MethodName := ⟨RX10, "cellOf", "(I)I"⟩
abbrev cX10_turnOf : ByteArray := prog_1_method_22_code
def yX10_turnOf : MethodName := ⟨RX10, "turnOf", "(I)I"⟩
abbrev cX10_fits : ByteArray := prog_1_method_23_code
def yX10_fits : MethodName := ⟨RX10, "fits", "(III)Z"⟩
abbrev cX10_edgeAgainst : ByteArray := prog_1_method_24_code
def yX10_edgeAgainst : MethodName := ⟨RX10, "edgeAgainst", "(III)I"⟩
abbrev cX10_waysOf : ByteArray := prog_1_method_25_code
def yX10_waysOf : MethodName := ⟨RX10, "waysOf", "(I)I"⟩
abbrev cX10_isLeftover : ByteArray := prog_1_method_26_code
def yX10_isLeftover : MethodName := ⟨RX10, "isLeftover", "(I)Z"⟩
abbrev cX10_putTile : ByteArray := prog_1_method_28_code
def yX10_putTile : MethodName := ⟨RX10, "putTile", "(III)I"⟩
abbrev cX10_takeTile : ByteArray := prog_1_method_29_code
def yX10_takeTile : MethodName := ⟨RX10, "takeTile", "(I)I"⟩
abbrev cX10_fitTile : ByteArray := prog_1_method_30_code
def yX10_fitTile : MethodName := ⟨RX10, "fitTile", "(I)I"⟩
abbrev cX10_playRounds : ByteArray := prog_1_method_31_code
def yX10_playRounds : MethodName := ⟨RX10, "playRounds", "(I)I"⟩
abbrev cX10_pointsAfter : ByteArray := prog_1_method_32_code
def yX10_pointsAfter : MethodName := ⟨RX10, "pointsAfter", "(I)I"⟩
abbrev cX10_roundsUntilRing : ByteArray := prog_1_method_33_code
def yX10_roundsUntilRing : MethodName := ⟨RX10, "roundsUntilRing", "()I"⟩
abbrev cX10_bestCell : ByteArray := prog_1_method_34_code
def yX10_bestCell : MethodName := ⟨RX10, "bestCell", "(I)I"⟩
abbrev cX10_bestTurn : ByteArray := prog_1_method_35_code
def yX10_bestTurn : MethodName := ⟨RX10, "bestTurn", "(I)I"⟩
abbrev cX10_bestTile : ByteArray := prog_1_method_36_code
def yX10_bestTile : MethodName := ⟨RX10, "bestTile", "()I"⟩
abbrev cX10_meanMatch : ByteArray := prog_1_method_37_code
def yX10_meanMatch : MethodName := ⟨RX10, "meanMatch", "()D"⟩
abbrev cX10_digest : ByteArray := prog_1_method_38_code
def yX10_digest : MethodName := ⟨RX10, "digest", "()J"⟩
abbrev cX10_requireCell : ByteArray := prog_1_method_39_code
def yX10_requireCell : MethodName := ⟨RX10, "requireCell", "(I)V"⟩
abbrev cX10_requireTile : ByteArray := prog_1_method_40_code
def yX10_requireTile : MethodName := ⟨RX10, "requireTile", "(I)V"⟩
abbrev cX10_requireEdge : ByteArray := prog_1_method_41_code
def yX10_requireEdge : MethodName := ⟨RX10, "requireEdge", "(I)V"⟩
abbrev cX10_requireWay : ByteArray := prog_1_method_42_code
def yX10_requireWay : MethodName := ⟨RX10, "requireWay", "(III)V"⟩
abbrev cX10_requireTileOn : ByteArray := prog_1_method_43_code
def yX10_requireTileOn : MethodName := ⟨RX10, "requireTileOn", "(I)V"⟩
abbrev cX10_requireLying : ByteArray := prog_1_method_44_code
def yX10_requireLying : MethodName := ⟨RX10, "requireLying", "(I)V"⟩
abbrev cX10_requireSome : ByteArray := prog_1_method_45_code
def yX10_requireSome : MethodName := ⟨RX10, "requireSome", "(I)V"⟩
abbrev cX10_requireRounds : ByteArray := prog_1_method_46_code
def yX10_requireRounds : MethodName := ⟨RX10, "requireRounds", "(I)V"⟩
def RX11 : String := "RingDominoLaw$Dice"
def TX11 : u_T := fun k => match k with
  | _ => ("RingDominoLaw$Dice", "state", "I", false)
def tyX11 : Nat → FieldType := fun k => match k with
  | _ => .int
abbrev wsX110 : List Cond := u_ws RX11 TX11 1
theorem nmX11 : ∀ a, a < 1 → ∀ b, b < 1 → a ≠ b → (TX11 a).2.1 ≠ (TX11 b).2.1 := by decide +kernel
theorem tyX11_ok : ∀ k, k < 1 → parseFieldDescriptor (TX11 k).2.2.1 = some (tyX11 k) := by decide +kernel
abbrev cX11_init : ByteArray := prog_13_method_1_code
def yX11_init : MethodName := ⟨RX11, "<init>", "(I)V"⟩
abbrev cX11_next : ByteArray := prog_13_method_2_code
def yX11_next : MethodName := ⟨RX11, "next", "(I)I"⟩
def RX12 : String := "RingDominoLaw$Game"
def TX12 : u_T := fun k => match k with
  | 0 => ("RingDominoLaw$Game", "columns", "I", false)
  | 1 => ("RingDominoLaw$Game", "rows", "I", false)
  | 2 => ("RingDominoLaw$Game", "tiles", "[[I", false)
  | 3 => ("RingDominoLaw$Game", "rounds", "I", false)
  | _ => ("RingDominoLaw$Game", "orders", "[LRingDominoLaw$Order;", false)
def tyX12 : Nat → FieldType := fun k => match k with
  | 0 => .int
  | 1 => .int
  | 2 => .array (.array .int)
  | 3 => .int
  | _ => .array (.object "RingDominoLaw$Order")
abbrev wsX120 : List Cond := u_ws RX12 TX12 5
theorem nmX12 : ∀ a, a < 5 → ∀ b, b < 5 → a ≠ b → (TX12 a).2.1 ≠ (TX12 b).2.1 := by decide +kernel
theorem tyX12_ok : ∀ k, k < 5 → parseFieldDescriptor (TX12 k).2.2.1 = some (tyX12 k) := by decide +kernel
abbrev cX12_init : ByteArray := prog_14_method_1_code
def yX12_init : MethodName := ⟨RX12, "<init>", "()V"⟩
abbrev cX12_board : ByteArray := prog_14_method_3_code
def yX12_board : MethodName := ⟨RX12, "board", "()[I"⟩
abbrev cX12_beside : ByteArray := prog_14_method_4_code
def yX12_beside : MethodName := ⟨RX12, "beside", "(II)I"⟩
abbrev cX12_number : ByteArray := prog_14_method_5_code
def yX12_number : MethodName := ⟨RX12, "number", "([III)I"⟩
abbrev cX12_against : ByteArray := prog_14_method_6_code
def yX12_against : MethodName := ⟨RX12, "against", "([IIII)I"⟩
abbrev cX12_many : ByteArray := prog_14_method_7_code
def yX12_many : MethodName := ⟨RX12, "many", "([II)I"⟩
abbrev cX12_fits : ByteArray := prog_14_method_8_code
def yX12_fits : MethodName := ⟨RX12, "fits", "([IIII)Z"⟩
abbrev cX12_ways : ByteArray := prog_14_method_9_code
def yX12_ways : MethodName := ⟨RX12, "ways", "([II)I"⟩
abbrev cX12_fit : ByteArray := prog_14_method_10_code
def yX12_fit : MethodName := ⟨RX12, "fit", "(I)Z"⟩
abbrev cX12_counts : ByteArray := prog_14_method_11_code
def yX12_counts : MethodName := ⟨RX12, "counts", "()[I"⟩
abbrev cX12_groups : ByteArray := prog_14_method_12_code
def yX12_groups : MethodName := ⟨RX12, "groups", "()I"⟩
abbrev cX12_play : ByteArray := prog_14_method_13_code
def yX12_play : MethodName := ⟨RX12, "play", "()I"⟩
abbrev cX12_play_ : ByteArray := prog_14_method_14_code
def yX12_play_ : MethodName := ⟨RX12, "play", "(I)I"⟩
abbrev cX12_isSame : ByteArray := prog_14_method_15_code
def yX12_isSame : MethodName := ⟨RX12, "isSame", "(LRingDomino;)Z"⟩
def RX13 : String := "RingDominoLaw$Node"
def TX13 : u_T := fun k => match k with
  | 0 => ("RingDominoLaw$Node", "sort", "I", true)
  | 1 => ("RingDominoLaw$Node", "n", "I", true)
  | 2 => ("RingDominoLaw$Node", "a", "LRingDominoLaw$Node;", true)
  | _ => ("RingDominoLaw$Node", "b", "LRingDominoLaw$Node;", true)
def tyX13 : Nat → FieldType := fun k => match k with
  | 0 => .int
  | 1 => .int
  | 2 => .object "RingDominoLaw$Node"
  | _ => .object "RingDominoLaw$Node"
abbrev wsX130 : List Cond := u_ws RX13 TX13 4
theorem nmX13 : ∀ a, a < 4 → ∀ b, b < 4 → a ≠ b → (TX13 a).2.1 ≠ (TX13 b).2.1 := by decide +kernel
theorem tyX13_ok : ∀ k, k < 4 → parseFieldDescriptor (TX13 k).2.2.1 = some (tyX13 k) := by decide +kernel
abbrev cX13_init : ByteArray := prog_15_method_1_code
def yX13_init : MethodName := ⟨RX13, "<init>", "(IILRingDominoLaw$Node;LRingDominoLaw$Node;)V"⟩
abbrev cX13_sum : ByteArray := prog_15_method_2_code
def yX13_sum : MethodName := ⟨RX13, "sum", "(LRingDominoLaw$Dice;II)LRingDominoLaw$Node;"⟩
abbrev cX13_test : ByteArray := prog_15_method_3_code
def yX13_test : MethodName := ⟨RX13, "test", "(LRingDominoLaw$Dice;II)LRingDominoLaw$Node;"⟩
abbrev cX13_text : ByteArray := prog_15_method_4_code
def yX13_text : MethodName := ⟨RX13, "text", "()Ljava/lang/String;"⟩
abbrev cX13_value : ByteArray := prog_15_method_5_code
def yX13_value : MethodName := ⟨RX13, "value", "(LRingDominoLaw$Game;)I"⟩
abbrev cX13_both : ByteArray := prog_15_method_6_code
def yX13_both : MethodName := ⟨RX13, "both", "(III)I"⟩
def RX14 : String := "RingDominoLaw$Order"
def TX14 : u_T := fun k => match k with
  | 0 => ("RingDominoLaw$Order", "does", "I", true)
  | 1 => ("RingDominoLaw$Order", "tile", "I", true)
  | 2 => ("RingDominoLaw$Order", "sums", "[LRingDominoLaw$Node;", true)
  | _ => ("RingDominoLaw$Order", "test", "LRingDominoLaw$Node;", true)
def tyX14 : Nat → FieldType := fun k => match k with
  | 0 => .int
  | 1 => .int
  | 2 => .array (.object "RingDominoLaw$Node")
  | _ => .object "RingDominoLaw$Node"
abbrev wsX140 : List Cond := u_ws RX14 TX14 4
theorem nmX14 : ∀ a, a < 4 → ∀ b, b < 4 → a ≠ b → (TX14 a).2.1 ≠ (TX14 b).2.1 := by decide +kernel
theorem tyX14_ok : ∀ k, k < 4 → parseFieldDescriptor (TX14 k).2.2.1 = some (tyX14 k) := by decide +kernel
abbrev cX14_init : ByteArray := prog_16_method_1_code
def yX14_init : MethodName := ⟨RX14, "<init>", "(LRingDominoLaw$Dice;I)V"⟩
abbrev cX14_text : ByteArray := prog_16_method_2_code
def yX14_text : MethodName := ⟨RX14, "text", "()Ljava/lang/String;"⟩
abbrev cX14_rest : ByteArray := prog_16_method_3_code
def yX14_rest : MethodName := ⟨RX14, "rest", "(II)I"⟩
abbrev cX14_isDone : ByteArray := prog_16_method_4_code
def yX14_isDone : MethodName := ⟨RX14, "isDone", "(LRingDominoLaw$Game;)Z"⟩
def RX15 : String := "RingDominoModel$State"
def TX15 : u_T := fun k => match k with
  | _ => ("", "", "", false)
def tyX15 : Nat → FieldType := fun k => match k with
  | _ => .int
abbrev wsX150 : List Cond := u_ws RX15 TX15 0
theorem nmX15 : ∀ a, a < 0 → ∀ b, b < 0 → a ≠ b → (TX15 a).2.1 ≠ (TX15 b).2.1 := by decide +kernel
theorem tyX15_ok : ∀ k, k < 0 → parseFieldDescriptor (TX15 k).2.2.1 = some (tyX15 k) := by decide +kernel
def RX16 : String := "RingDominoModel$Told"
def TX16 : u_T := fun k => match k with
  | _ => ("", "", "", false)
def tyX16 : Nat → FieldType := fun k => match k with
  | _ => .int
abbrev wsX160 : List Cond := u_ws RX16 TX16 0
theorem nmX16 : ∀ a, a < 0 → ∀ b, b < 0 → a ≠ b → (TX16 a).2.1 ≠ (TX16 b).2.1 := by decide +kernel
theorem tyX16_ok : ∀ k, k < 0 → parseFieldDescriptor (TX16 k).2.2.1 = some (tyX16 k) := by decide +kernel
def RX17 : String := "RingDominoModel"
def TX17 : u_T := fun k => match k with
  | _ => ("", "", "", false)
def tyX17 : Nat → FieldType := fun k => match k with
  | _ => .int
abbrev wsX170 : List Cond := u_ws RX17 TX17 0
theorem nmX17 : ∀ a, a < 0 → ∀ b, b < 0 → a ≠ b → (TX17 a).2.1 ≠ (TX17 b).2.1 := by decide +kernel
theorem tyX17_ok : ∀ k, k < 0 → parseFieldDescriptor (TX17 k).2.2.1 = some (tyX17 k) := by decide +kernel
def RJx145de : String := "java/io/Serializable"
def RJ5 : String := "java/lang/AbstractStringBuilder"
abbrev cJ5_init_d00df : ByteArray := prog_20_method_2_code
def yJ5_init_d00df : MethodName := ⟨RJ5, "<init>", "(I)V"⟩
abbrev cJ5_length_8abf5 : ByteArray := prog_20_method_6_code
def yJ5_length_8abf5 : MethodName := ⟨RJ5, "length", "()I"⟩
abbrev cJ5_ensureCapacityInternal_d00df : ByteArray := prog_20_method_9_code
def yJ5_ensureCapacityInternal_d00df : MethodName := ⟨RJ5, "ensureCapacityInternal", "(I)V"⟩
abbrev cJ5_newCapacity_0f7a4 : ByteArray := prog_20_method_10_code
def yJ5_newCapacity_0f7a4 : MethodName := ⟨RJ5, "newCapacity", "(I)I"⟩
abbrev cJ5_inflate_da8c8 : ByteArray := prog_20_method_11_code
def yJ5_inflate_da8c8 : MethodName := ⟨RJ5, "inflate", "()V"⟩
abbrev cJ5_append_cf1ce : ByteArray := prog_20_method_22_code
def yJ5_append_cf1ce : MethodName := ⟨RJ5, "append", "(Ljava/lang/String;)Ljava/lang/AbstractStringBuilder;"⟩
abbrev cJ5_appendNull_278bc : ByteArray := prog_20_method_26_code
def yJ5_appendNull_278bc : MethodName := ⟨RJ5, "appendNull", "()Ljava/lang/AbstractStringBuilder;"⟩
abbrev cJ5_append_c97b9 : ByteArray := prog_20_method_32_code
def yJ5_append_c97b9 : MethodName := ⟨RJ5, "append", "(I)Ljava/lang/AbstractStringBuilder;"⟩
abbrev cJ5_getValue_6d5f1 : ByteArray := prog_20_method_64_code
def yJ5_getValue_6d5f1 : MethodName := ⟨RJ5, "getValue", "()[B"⟩
abbrev cJ5_isLatin1_aae02 : ByteArray := prog_20_method_68_code
def yJ5_isLatin1_aae02 : MethodName := ⟨RJ5, "isLatin1", "()Z"⟩
abbrev cJ5_inflateIfNeededFor_a7421 : ByteArray := prog_20_method_71_code
def yJ5_inflateIfNeededFor_a7421 : MethodName := ⟨RJ5, "inflateIfNeededFor", "(Ljava/lang/String;)V"⟩
abbrev cJ5_putStringAt_47b60 : ByteArray := prog_20_method_73_code
def yJ5_putStringAt_47b60 : MethodName := ⟨RJ5, "putStringAt", "(ILjava/lang/String;)V"⟩
def RJx2cfe8 : String := "java/lang/Appendable"
def RJx9f9b0 : String := "java/lang/CharSequence"
def RJx8e188 : String := "java/lang/Cloneable"
def RJxb160c : String := "java/lang/Comparable"
def RJx29ce0 : String := "java/lang/Enum"
abbrev cJx29ce0_ordinal_8abf5 : ByteArray := prog_22_method_2_code
def yJx29ce0_ordinal_8abf5 : MethodName := ⟨RJx29ce0, "ordinal", "()I"⟩
def RJ6 : String := "java/lang/Integer"
abbrev cJ6_getChars_ba4f3 : ByteArray := prog_27_method_12_code
def yJ6_getChars_ba4f3 : MethodName := ⟨RJ6, "getChars", "(II[B)I"⟩
abbrev cJ6_stringSize_0f7a4 : ByteArray := prog_27_method_13_code
def yJ6_stringSize_0f7a4 : MethodName := ⟨RJ6, "stringSize", "(I)I"⟩
abbrev cJ6_bitCount_0f7a4 : ByteArray := prog_27_method_49_code
def yJ6_bitCount_0f7a4 : MethodName := ⟨RJ6, "bitCount", "(I)I"⟩
def RJ9 : String := "java/lang/Math"
abbrev cJ9_floorMod_7cf53 : ByteArray := prog_28_method_50_code
def yJ9_floorMod_7cf53 : MethodName := ⟨RJ9, "floorMod", "(II)I"⟩
abbrev cJ9_max_7cf53 : ByteArray := prog_28_method_65_code
def yJ9_max_7cf53 : MethodName := ⟨RJ9, "max", "(II)I"⟩
abbrev cJ9_min_7cf53 : ByteArray := prog_28_method_69_code
def yJ9_min_7cf53 : MethodName := ⟨RJ9, "min", "(II)I"⟩
def RJxd2413 : String := "java/lang/Number"
def RJ0 : String := "java/lang/String"
def TJ0 : u_T := fun k => match k with
  | 0 => ("java/lang/String", "value", "[B", true)
  | 1 => ("java/lang/String", "coder", "B", true)
  | 2 => ("java/lang/String", "hash", "I", false)
  | _ => ("java/lang/String", "hashIsZero", "Z", false)
def tyJ0 : Nat → FieldType := fun k => match k with
  | 0 => .array .byte
  | 1 => .byte
  | 2 => .int
  | _ => .boolean
abbrev wsJ00 : List Cond := u_ws RJ0 TJ0 4
theorem nmJ0 : ∀ a, a < 4 → ∀ b, b < 4 → a ≠ b → (TJ0 a).2.1 ≠ (TJ0 b).2.1 := by decide +kernel
theorem tyJ0_ok : ∀ k, k < 4 → parseFieldDescriptor (TJ0 k).2.2.1 = some (tyJ0 k) := by decide +kernel
abbrev cJ0_init_81219 : ByteArray := prog_31_method_53_code
def yJ0_init_81219 : MethodName := ⟨RJ0, "<init>", "(Ljava/lang/StringBuilder;)V"⟩
abbrev cJ0_length_8abf5 : ByteArray := prog_31_method_54_code
def yJ0_length_8abf5 : MethodName := ⟨RJ0, "length", "()I"⟩
abbrev cJ0_charAt_5068e : ByteArray := prog_31_method_56_code
def yJ0_charAt_5068e : MethodName := ⟨RJ0, "charAt", "(I)C"⟩
abbrev cJ0_getBytes_840e7 : ByteArray := prog_31_method_147_code
def yJ0_getBytes_840e7 : MethodName := ⟨RJ0, "getBytes", "([BIB)V"⟩
abbrev cJ0_init_db425 : ByteArray := prog_31_method_150_code
def yJ0_init_db425 : MethodName := ⟨RJ0, "<init>", "(Ljava/lang/AbstractStringBuilder;Ljava/lang/Void;)V"⟩
abbrev cJ0_coder_7d493 : ByteArray := prog_31_method_152_code
def yJ0_coder_7d493 : MethodName := ⟨RJ0, "coder", "()B"⟩
abbrev cJ0_isLatin1_aae02 : ByteArray := prog_31_method_154_code
def yJ0_isLatin1_aae02 : MethodName := ⟨RJ0, "isLatin1", "()Z"⟩
abbrev cJ0_checkIndex_df160 : ByteArray := prog_31_method_155_code
def yJ0_checkIndex_df160 : MethodName := ⟨RJ0, "checkIndex", "(II)V"⟩
abbrev cJ0_checkBoundsOffCount_cabcc : ByteArray := prog_31_method_157_code
def yJ0_checkBoundsOffCount_cabcc : MethodName := ⟨RJ0, "checkBoundsOffCount", "(III)I"⟩
abbrev cJ0_checkBoundsBeginEnd_23922 : ByteArray := prog_31_method_158_code
def yJ0_checkBoundsBeginEnd_23922 : MethodName := ⟨RJ0, "checkBoundsBeginEnd", "(III)V"⟩
def RJ4 : String := "java/lang/StringBuilder"
def TJ4 : u_T := fun k => match k with
  | 0 => ("java/lang/AbstractStringBuilder", "value", "[B", false)
  | 1 => ("java/lang/AbstractStringBuilder", "coder", "B", false)
  | 2 => ("java/lang/AbstractStringBuilder", "maybeLatin1", "Z", false)
  | _ => ("java/lang/AbstractStringBuilder", "count", "I", false)
def tyJ4 : Nat → FieldType := fun k => match k with
  | 0 => .array .byte
  | 1 => .byte
  | 2 => .boolean
  | _ => .int
abbrev wsJ40 : List Cond := u_ws RJ4 TJ4 4
theorem nmJ4 : ∀ a, a < 4 → ∀ b, b < 4 → a ≠ b → (TJ4 a).2.1 ≠ (TJ4 b).2.1 := by decide +kernel
theorem tyJ4_ok : ∀ k, k < 4 → parseFieldDescriptor (TJ4 k).2.2.1 = some (tyJ4 k) := by decide +kernel
abbrev cJ4_init_da8c8 : ByteArray := prog_32_method_1_code
def yJ4_init_da8c8 : MethodName := ⟨RJ4, "<init>", "()V"⟩
abbrev cJ4_append_15ec4 : ByteArray := prog_32_method_7_code
def yJ4_append_15ec4 : MethodName := ⟨RJ4, "append", "(Ljava/lang/String;)Ljava/lang/StringBuilder;"⟩
abbrev cJ4_append_bf812 : ByteArray := prog_32_method_15_code
def yJ4_append_bf812 : MethodName := ⟨RJ4, "append", "(I)Ljava/lang/StringBuilder;"⟩
abbrev cJ4_toString_0e30d : ByteArray := prog_32_method_42_code
def yJ4_toString_0e30d : MethodName := ⟨RJ4, "toString", "()Ljava/lang/String;"⟩
abbrev cJ4_length_8abf5 : ByteArray := prog_32_method_93_code
def yJ4_length_8abf5 : MethodName := ⟨RJ4, "length", "()I"⟩
def RJ1 : String := "java/lang/StringLatin1"
abbrev cJ1_charAt_3b067 : ByteArray := prog_33_method_2_code
def yJ1_charAt_3b067 : MethodName := ⟨RJ1, "charAt", "([BI)C"⟩
abbrev cJ1_inflate_0e8fd : ByteArray := prog_33_method_50_code
def yJ1_inflate_0e8fd : MethodName := ⟨RJ1, "inflate", "([BI[BII)V"⟩
def RJ2 : String := "java/lang/StringUTF16"
abbrev cJ2_newBytesFor_77867 : ByteArray := prog_34_method_2_code
def yJ2_newBytesFor_77867 : MethodName := ⟨RJ2, "newBytesFor", "(I)[B"⟩
abbrev cJ2_newBytesLength_0f7a4 : ByteArray := prog_34_method_3_code
def yJ2_newBytesLength_0f7a4 : MethodName := ⟨RJ2, "newBytesLength", "(I)I"⟩
abbrev cJ2_putChar_b72d1 : ByteArray := prog_34_method_4_code
def yJ2_putChar_b72d1 : MethodName := ⟨RJ2, "putChar", "([BII)V"⟩
abbrev cJ2_getChar_3b067 : ByteArray := prog_34_method_5_code
def yJ2_getChar_3b067 : MethodName := ⟨RJ2, "getChar", "([BI)C"⟩
abbrev cJ2_length_9d52b : ByteArray := prog_34_method_6_code
def yJ2_length_9d52b : MethodName := ⟨RJ2, "length", "([B)I"⟩
abbrev cJ2_coderFromArrayLen_85cad : ByteArray := prog_34_method_15_code
def yJ2_coderFromArrayLen_85cad : MethodName := ⟨RJ2, "coderFromArrayLen", "([BI)B"⟩
abbrev cJ2_compress_39247 : ByteArray := prog_34_method_17_code
def yJ2_compress_39247 : MethodName := ⟨RJ2, "compress", "([BII)[B"⟩
abbrev cJ2_compress_5af95 : ByteArray := prog_34_method_22_code
def yJ2_compress_5af95 : MethodName := ⟨RJ2, "compress", "([BI[BII)I"⟩
abbrev cJ2_getChars_46870 : ByteArray := prog_34_method_77_code
def yJ2_getChars_46870 : MethodName := ⟨RJ2, "getChars", "(III[B)I"⟩
abbrev cJ2_putCharsAt_cd4e5 : ByteArray := prog_34_method_81_code
def yJ2_putCharsAt_cd4e5 : MethodName := ⟨RJ2, "putCharsAt", "([BICCCC)I"⟩
abbrev cJ2_charAt_3b067 : ByteArray := prog_34_method_83_code
def yJ2_charAt_3b067 : MethodName := ⟨RJ2, "charAt", "([BI)C"⟩
abbrev cJ2_inflate_0e8fd : ByteArray := prog_34_method_86_code
def yJ2_inflate_0e8fd : MethodName := ⟨RJ2, "inflate", "([BI[BII)V"⟩
abbrev cJ2_getChars_ba4f3 : ByteArray := prog_34_method_89_code
def yJ2_getChars_ba4f3 : MethodName := ⟨RJ2, "getChars", "(II[B)I"⟩
abbrev cJ2_checkIndex_2214a : ByteArray := prog_34_method_91_code
def yJ2_checkIndex_2214a : MethodName := ⟨RJ2, "checkIndex", "(I[B)V"⟩
abbrev cJ2_checkBoundsBeginEnd_d044e : ByteArray := prog_34_method_93_code
def yJ2_checkBoundsBeginEnd_d044e : MethodName := ⟨RJ2, "checkBoundsBeginEnd", "(II[B)V"⟩
abbrev cJ2_checkBoundsOffCount_d044e : ByteArray := prog_34_method_94_code
def yJ2_checkBoundsOffCount_d044e : MethodName := ⟨RJ2, "checkBoundsOffCount", "(II[B)V"⟩
def RJ10 : String := "java/lang/System"
def RJxfd54e : String := "java/lang/constant/Constable"
def RJx3cf43 : String := "java/lang/constant/ConstantDesc"
def RJ7 : String := "java/util/Arrays"
abbrev cJ7_fill_53178 : ByteArray := prog_37_method_103_code
def yJ7_fill_53178 : MethodName := ⟨RJ7, "fill", "([II)V"⟩
abbrev cJ7_copyOf_9075b : ByteArray := prog_37_method_121_code
def yJ7_copyOf_9075b : MethodName := ⟨RJ7, "copyOf", "([BI)[B"⟩
abbrev cJ7_checkLength_df160 : ByteArray := prog_37_method_131_code
def yJ7_checkLength_df160 : MethodName := ⟨RJ7, "checkLength", "(II)V"⟩
abbrev cJ7_copyOfRange_39247 : ByteArray := prog_37_method_132_code
def yJ7_copyOfRange_39247 : MethodName := ⟨RJ7, "copyOfRange", "([BII)[B"⟩
abbrev cJ7_copyOfRangeByte_39247 : ByteArray := prog_37_method_133_code
def yJ7_copyOfRangeByte_39247 : MethodName := ⟨RJ7, "copyOfRangeByte", "([BII)[B"⟩
def RJ8 : String := "jdk/internal/util/ArraysSupport"
abbrev cJ8_newLength_cabcc : ByteArray := prog_38_method_27_code
def yJ8_newLength_cabcc : MethodName := ⟨RJ8, "newLength", "(III)I"⟩
abbrev cJ8_hugeLength_7cf53 : ByteArray := prog_38_method_28_code
def yJ8_hugeLength_7cf53 : MethodName := ⟨RJ8, "hugeLength", "(II)I"⟩
def RJ3 : String := "jdk/internal/util/Preconditions"
abbrev cJ3_checkIndex_8e157 : ByteArray := prog_39_method_11_code
def yJ3_checkIndex_8e157 : MethodName := ⟨RJ3, "checkIndex", "(IILjava/util/function/BiFunction;)I"⟩
abbrev cJ3_checkFromToIndex_8c36e : ByteArray := prog_39_method_12_code
def yJ3_checkFromToIndex_8c36e : MethodName := ⟨RJ3, "checkFromToIndex", "(IIILjava/util/function/BiFunction;)I"⟩
abbrev cJ3_checkFromIndexSize_8c36e : ByteArray := prog_39_method_13_code
def yJ3_checkFromIndexSize_8c36e : MethodName := ⟨RJ3, "checkFromIndexSize", "(IIILjava/util/function/BiFunction;)I"⟩
def RL : String := "RingDominoLaw"
abbrev cL_below : ByteArray := method_2_code
def yL_below : MethodName := ⟨RL, "below", "(II)I"⟩
abbrev cL_cell : ByteArray := method_3_code
def yL_cell : MethodName := ⟨RL, "cell", "([II)I"⟩
abbrev cL_taught : ByteArray := method_4_code
def yL_taught : MethodName := ⟨RL, "taught", "(LRingDomino;Ljava/lang/String;)I"⟩
abbrev cL_drawn : ByteArray := method_5_code
def yL_drawn : MethodName := ⟨RL, "drawn", "(LRingDominoLaw$Dice;Ljava/lang/StringBuilder;II)LRingDominoLaw$Game;"⟩
abbrev cL_act : ByteArray := method_6_code
def yL_act : MethodName := ⟨RL, "act", "(LRingDomino;LRingDominoLaw$Game;LRingDominoLaw$Dice;)Z"⟩
abbrev cL_law : ByteArray := code
def yL_law : MethodName := ⟨RL, "law", "([I)Z"⟩
abbrev vwCl : List vw_C := [(RX1, TX1, 17), (RX2, TX2, 6), (RX3, TX3, 4), (RX5, TX5, 7), (RX6, TX6, 5), (RX7, TX7, 10), (RX8, TX8, 2), (RX9, TX9, 6), (RX10, TX10, 8), (RX11, TX11, 1), (RX12, TX12, 5), (RX13, TX13, 4), (RX14, TX14, 4), (RJ0, TJ0, 4), (RJ4, TJ4, 4)]
theorem tb1 : ∀ w ∈ tables_1_1, w ∈ lw_tbl := fun w h => List.mem_append_right _ (List.mem_append_right _ (show w ∈ tables_1 from List.mem_append_left _ h))
theorem tb2 : ∀ w ∈ tables_1_2, w ∈ lw_tbl := fun w h => List.mem_append_right _ (List.mem_append_right _ (show w ∈ tables_1 from List.mem_append_right _ (List.mem_append_left _ h)))
theorem tb3 : ∀ w ∈ tables_1_3, w ∈ lw_tbl := fun w h => List.mem_append_right _ (List.mem_append_right _ (show w ∈ tables_1 from List.mem_append_right _ (List.mem_append_right _ (List.mem_append_left _ h))))
theorem tb4 : ∀ w ∈ tables_1_4, w ∈ lw_tbl := fun w h => List.mem_append_right _ (List.mem_append_right _ (show w ∈ tables_1 from List.mem_append_right _ (List.mem_append_right _ (List.mem_append_right _ (List.mem_append_left _ h)))))
theorem tb5 : ∀ w ∈ tables_1_5, w ∈ lw_tbl := fun w h => List.mem_append_right _ (List.mem_append_right _ (show w ∈ tables_1 from List.mem_append_right _ (List.mem_append_right _ (List.mem_append_right _ (List.mem_append_right _ (List.mem_append_left _ h))))))
theorem tb6 : ∀ w ∈ tables_1_6, w ∈ lw_tbl := fun w h => List.mem_append_right _ (List.mem_append_right _ (show w ∈ tables_1 from List.mem_append_right _ (List.mem_append_right _ (List.mem_append_right _ (List.mem_append_right _ (List.mem_append_right _ (List.mem_append_left _ h)))))))
theorem tb7 : ∀ w ∈ tables_1_7, w ∈ lw_tbl := fun w h => List.mem_append_right _ (List.mem_append_right _ (show w ∈ tables_1 from List.mem_append_right _ (List.mem_append_right _ (List.mem_append_right _ (List.mem_append_right _ (List.mem_append_right _ (List.mem_append_right _ (List.mem_append_left _ h))))))))
theorem tb8 : ∀ w ∈ tables_1_8, w ∈ lw_tbl := fun w h => List.mem_append_right _ (List.mem_append_right _ (show w ∈ tables_1 from List.mem_append_right _ (List.mem_append_right _ (List.mem_append_right _ (List.mem_append_right _ (List.mem_append_right _ (List.mem_append_right _ (List.mem_append_right _ (h)))))))))
set_option maxRecDepth 100000 in
theorem inX1 : ∀ w ∈ u_ws RX1 TX1 17, w ∈ lw_tbl := by
  intro w h
  have h2 : u_ws RX1 TX1 17 = ([293, 295, 297, 299, 301, 303, 305, 307, 309, 311, 313, 315, 317, 319, 321, 323, 325] : List Nat).filterMap (fun i => lw_tbl[i]?) := by decide +kernel
  rw [h2] at h
  obtain ⟨i, -, hi⟩ := List.mem_filterMap.mp h
  exact List.mem_of_getElem? hi
set_option maxRecDepth 100000 in
theorem inX2 : ∀ w ∈ u_ws RX2 TX2 6, w ∈ lw_tbl := by
  intro w h
  have h2 : u_ws RX2 TX2 6 = ([377, 379, 381, 383, 385, 387] : List Nat).filterMap (fun i => lw_tbl[i]?) := by decide +kernel
  rw [h2] at h
  obtain ⟨i, -, hi⟩ := List.mem_filterMap.mp h
  exact List.mem_of_getElem? hi
set_option maxRecDepth 100000 in
theorem inX3 : ∀ w ∈ u_ws RX3 TX3 4, w ∈ lw_tbl := by
  intro w h
  have h2 : u_ws RX3 TX3 4 = ([219, 221, 223, 225] : List Nat).filterMap (fun i => lw_tbl[i]?) := by decide +kernel
  rw [h2] at h
  obtain ⟨i, -, hi⟩ := List.mem_filterMap.mp h
  exact List.mem_of_getElem? hi
set_option maxRecDepth 100000 in
theorem inX5 : ∀ w ∈ u_ws RX5 TX5 7, w ∈ lw_tbl := by
  intro w h
  have h2 : u_ws RX5 TX5 7 = ([243, 245, 247, 249, 251, 253, 255] : List Nat).filterMap (fun i => lw_tbl[i]?) := by decide +kernel
  rw [h2] at h
  obtain ⟨i, -, hi⟩ := List.mem_filterMap.mp h
  exact List.mem_of_getElem? hi
set_option maxRecDepth 100000 in
theorem inX6 : ∀ w ∈ u_ws RX6 TX6 5, w ∈ lw_tbl := by
  intro w h
  have h2 : u_ws RX6 TX6 5 = ([161, 163, 165, 167, 169] : List Nat).filterMap (fun i => lw_tbl[i]?) := by decide +kernel
  rw [h2] at h
  obtain ⟨i, -, hi⟩ := List.mem_filterMap.mp h
  exact List.mem_of_getElem? hi
set_option maxRecDepth 100000 in
theorem inX7 : ∀ w ∈ u_ws RX7 TX7 10, w ∈ lw_tbl := by
  intro w h
  have h2 : u_ws RX7 TX7 10 = ([186, 188, 190, 192, 194, 196, 198, 200, 202, 204] : List Nat).filterMap (fun i => lw_tbl[i]?) := by decide +kernel
  rw [h2] at h
  obtain ⟨i, -, hi⟩ := List.mem_filterMap.mp h
  exact List.mem_of_getElem? hi
set_option maxRecDepth 100000 in
theorem inX8 : ∀ w ∈ u_ws RX8 TX8 2, w ∈ lw_tbl := by
  intro w h
  have h2 : u_ws RX8 TX8 2 = ([95, 97] : List Nat).filterMap (fun i => lw_tbl[i]?) := by decide +kernel
  rw [h2] at h
  obtain ⟨i, -, hi⟩ := List.mem_filterMap.mp h
  exact List.mem_of_getElem? hi
set_option maxRecDepth 100000 in
theorem inX9 : ∀ w ∈ u_ws RX9 TX9 6, w ∈ lw_tbl := by
  intro w h
  have h2 : u_ws RX9 TX9 6 = ([116, 118, 120, 122, 124, 126] : List Nat).filterMap (fun i => lw_tbl[i]?) := by decide +kernel
  rw [h2] at h
  obtain ⟨i, -, hi⟩ := List.mem_filterMap.mp h
  exact List.mem_of_getElem? hi
set_option maxRecDepth 100000 in
theorem inX10 : ∀ w ∈ u_ws RX10 TX10 8, w ∈ lw_tbl := by
  intro w h
  have h2 : u_ws RX10 TX10 8 = ([398, 400, 402, 404, 406, 408, 410, 412] : List Nat).filterMap (fun i => lw_tbl[i]?) := by decide +kernel
  rw [h2] at h
  obtain ⟨i, -, hi⟩ := List.mem_filterMap.mp h
  exact List.mem_of_getElem? hi
set_option maxRecDepth 100000 in
theorem inX11 : ∀ w ∈ u_ws RX11 TX11 1, w ∈ lw_tbl := by
  intro w h
  have h2 : u_ws RX11 TX11 1 = ([885] : List Nat).filterMap (fun i => lw_tbl[i]?) := by decide +kernel
  rw [h2] at h
  obtain ⟨i, -, hi⟩ := List.mem_filterMap.mp h
  exact List.mem_of_getElem? hi
set_option maxRecDepth 100000 in
theorem inX12 : ∀ w ∈ u_ws RX12 TX12 5, w ∈ lw_tbl := by
  intro w h
  have h2 : u_ws RX12 TX12 5 = ([1362, 1364, 1366, 1368, 1370] : List Nat).filterMap (fun i => lw_tbl[i]?) := by decide +kernel
  rw [h2] at h
  obtain ⟨i, -, hi⟩ := List.mem_filterMap.mp h
  exact List.mem_of_getElem? hi
set_option maxRecDepth 100000 in
theorem inX13 : ∀ w ∈ u_ws RX13 TX13 4, w ∈ lw_tbl := by
  intro w h
  have h2 : u_ws RX13 TX13 4 = ([1527, 1529, 1531, 1533] : List Nat).filterMap (fun i => lw_tbl[i]?) := by decide +kernel
  rw [h2] at h
  obtain ⟨i, -, hi⟩ := List.mem_filterMap.mp h
  exact List.mem_of_getElem? hi
set_option maxRecDepth 100000 in
theorem inX14 : ∀ w ∈ u_ws RX14 TX14 4, w ∈ lw_tbl := by
  intro w h
  have h2 : u_ws RX14 TX14 4 = ([1552, 1554, 1556, 1558] : List Nat).filterMap (fun i => lw_tbl[i]?) := by decide +kernel
  rw [h2] at h
  obtain ⟨i, -, hi⟩ := List.mem_filterMap.mp h
  exact List.mem_of_getElem? hi
set_option maxRecDepth 100000 in
theorem inJ0 : ∀ w ∈ u_ws RJ0 TJ0 4, w ∈ lw_tbl := by
  intro w h
  have h2 : u_ws RJ0 TJ0 4 = ([1646, 1648, 1650, 1652] : List Nat).filterMap (fun i => lw_tbl[i]?) := by decide +kernel
  rw [h2] at h
  obtain ⟨i, -, hi⟩ := List.mem_filterMap.mp h
  exact List.mem_of_getElem? hi
set_option maxRecDepth 100000 in
theorem inJ4 : ∀ w ∈ u_ws RJ4 TJ4 4, w ∈ lw_tbl := by
  intro w h
  have h2 : u_ws RJ4 TJ4 4 = ([1579, 1581, 1583, 1585] : List Nat).filterMap (fun i => lw_tbl[i]?) := by decide +kernel
  rw [h2] at h
  obtain ⟨i, -, hi⟩ := List.mem_filterMap.mp h
  exact List.mem_of_getElem? hi
