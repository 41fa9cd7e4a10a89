def RX0 : String := "PavedBan$Choice"
def TX0 : u_T := fun k => match k with
  | 0 => ("PavedBan$Choice", "town", "LPavedBan$Town;", true)
  | 1 => ("PavedBan$Choice", "ways", "LPavedBan$Ways;", true)
  | 2 => ("PavedBan$Choice", "sought", "I", false)
  | 3 => ("PavedBan$Choice", "stones", "I", false)
  | 4 => ("PavedBan$Choice", "best", "I", false)
  | 5 => ("PavedBan$Choice", "chosen", "[I", true)
  | 6 => ("PavedBan$Choice", "tried", "[I", true)
  | _ => ("PavedBan$Choice", "given", "[I", true)
def tyX0 : Nat → FieldType := fun k => match k with
  | 0 => .object "PavedBan$Town"
  | 1 => .object "PavedBan$Ways"
  | 2 => .int
  | 3 => .int
  | 4 => .int
  | 5 => .array .int
  | 6 => .array .int
  | _ => .array .int
theorem nmX0 : ∀ a, a < 8 → ∀ b, b < 8 → a ≠ b → (TX0 a).2.1 ≠ (TX0 b).2.1 := by decide +kernel
theorem tyX0_ok : ∀ k, k < 8 → parseFieldDescriptor (TX0 k).2.2.1 = some (tyX0 k) := by decide +kernel
abbrev cX0_init : ByteArray := prog_2_method_1_code
def yX0_init : MethodName := ⟨RX0, "<init>", "(LPavedBan$Town;LPavedBan$Ways;)V"⟩
abbrev cX0_startAnew : ByteArray := prog_2_method_2_code
def yX0_startAnew : MethodName := ⟨RX0, "startAnew", "()V"⟩
abbrev cX0_seek : ByteArray := prog_2_method_3_code
def yX0_seek : MethodName := ⟨RX0, "seek", "(II)V"⟩
abbrev cX0_costsOfNone : ByteArray := prog_2_method_4_code
def yX0_costsOfNone : MethodName := ⟨RX0, "costsOfNone", "()I"⟩
abbrev cX0_tryFamily : ByteArray := prog_2_method_5_code
def yX0_tryFamily : MethodName := ⟨RX0, "tryFamily", "(III)V"⟩
abbrev cX0_worthWith : ByteArray := prog_2_method_6_code
def yX0_worthWith : MethodName := ⟨RX0, "worthWith", "(III)I"⟩
abbrev cX0_tryPiece : ByteArray := prog_2_method_7_code
def yX0_tryPiece : MethodName := ⟨RX0, "tryPiece", "(II)V"⟩
abbrev cX0_take : ByteArray := prog_2_method_8_code
def yX0_take : MethodName := ⟨RX0, "take", "(I)V"⟩
def RX1 : String := "PavedBan$Exchanges"
def TX1 : u_T := fun k => match k with
  | 0 => ("PavedBan$Exchanges", "town", "LPavedBan$Town;", true)
  | 1 => ("PavedBan$Exchanges", "ways", "LPavedBan$Ways;", true)
  | _ => ("PavedBan$Exchanges", "owner", "[I", true)
def tyX1 : Nat → FieldType := fun k => match k with
  | 0 => .object "PavedBan$Town"
  | 1 => .object "PavedBan$Ways"
  | _ => .array .int
theorem nmX1 : ∀ a, a < 3 → ∀ b, b < 3 → a ≠ b → (TX1 a).2.1 ≠ (TX1 b).2.1 := by decide +kernel
theorem tyX1_ok : ∀ k, k < 3 → parseFieldDescriptor (TX1 k).2.2.1 = some (tyX1 k) := by decide +kernel
abbrev cX1_init : ByteArray := prog_3_method_1_code
def yX1_init : MethodName := ⟨RX1, "<init>", "(LPavedBan$Town;LPavedBan$Ways;)V"⟩
abbrev cX1_firstOf : ByteArray := prog_3_method_2_code
def yX1_firstOf : MethodName := ⟨RX1, "firstOf", "([I)I"⟩
abbrev cX1_numberOf : ByteArray := prog_3_method_3_code
def yX1_numberOf : MethodName := ⟨RX1, "numberOf", "([I)I"⟩
abbrev cX1_exchange : ByteArray := prog_3_method_4_code
def yX1_exchange : MethodName := ⟨RX1, "exchange", "(II)V"⟩
abbrev cX1_gains : ByteArray := prog_3_method_5_code
def yX1_gains : MethodName := ⟨RX1, "gains", "([III)Z"⟩
def RX2 : String := "PavedBan$Floods"
def TX2 : u_T := fun k => match k with
  | 0 => ("PavedBan$Floods", "town", "LPavedBan$Town;", true)
  | 1 => ("PavedBan$Floods", "ways", "LPavedBan$Ways;", true)
  | 2 => ("PavedBan$Floods", "upper", "J", false)
  | _ => ("PavedBan$Floods", "lower", "J", false)
def tyX2 : Nat → FieldType := fun k => match k with
  | 0 => .object "PavedBan$Town"
  | 1 => .object "PavedBan$Ways"
  | 2 => .long
  | _ => .long
theorem nmX2 : ∀ a, a < 4 → ∀ b, b < 4 → a ≠ b → (TX2 a).2.1 ≠ (TX2 b).2.1 := by decide +kernel
theorem tyX2_ok : ∀ k, k < 4 → parseFieldDescriptor (TX2 k).2.2.1 = some (tyX2 k) := by decide +kernel
abbrev cX2_init : ByteArray := prog_4_method_1_code
def yX2_init : MethodName := ⟨RX2, "<init>", "(LPavedBan$Town;LPavedBan$Ways;)V"⟩
abbrev cX2_reckon : ByteArray := prog_4_method_2_code
def yX2_reckon : MethodName := ⟨RX2, "reckon", "(ILPavedBan$Now;)V"⟩
abbrev cX2_chanceOf : ByteArray := prog_4_method_3_code
def yX2_chanceOf : MethodName := ⟨RX2, "chanceOf", "(I[I)J"⟩
abbrev cX2_reduce : ByteArray := prog_4_method_4_code
def yX2_reduce : MethodName := ⟨RX2, "reduce", "()V"⟩
abbrev cX2_divideBoth : ByteArray := prog_4_method_5_code
def yX2_divideBoth : MethodName := ⟨RX2, "divideBoth", "(I)V"⟩
def RX3 : String := "PavedBan$Now"
def TX3 : u_T := fun k => match k with
  | 0 => ("PavedBan$Now", "owner", "[I", true)
  | 1 => ("PavedBan$Now", "inTen", "[I", true)
  | 2 => ("PavedBan$Now", "stones", "I", false)
  | 3 => ("PavedBan$Now", "seen", "I", false)
  | _ => ("PavedBan$Now", "walked", "[I", true)
def tyX3 : Nat → FieldType := fun k => match k with
  | 0 => .array .int
  | 1 => .array .int
  | 2 => .int
  | 3 => .int
  | _ => .array .int
theorem nmX3 : ∀ a, a < 5 → ∀ b, b < 5 → a ≠ b → (TX3 a).2.1 ≠ (TX3 b).2.1 := by decide +kernel
theorem tyX3_ok : ∀ k, k < 5 → parseFieldDescriptor (TX3 k).2.2.1 = some (tyX3 k) := by decide +kernel
abbrev cX3_init : ByteArray := prog_5_method_1_code
def yX3_init : MethodName := ⟨RX3, "<init>", "()V"⟩
abbrev cX3_empty : ByteArray := prog_5_method_2_code
def yX3_empty : MethodName := ⟨RX3, "empty", "()V"⟩
abbrev cX3_become : ByteArray := prog_5_method_3_code
def yX3_become : MethodName := ⟨RX3, "become", "(LPavedBan$Now;)V"⟩
abbrev cX3_unsee : ByteArray := prog_5_method_4_code
def yX3_unsee : MethodName := ⟨RX3, "unsee", "()V"⟩
abbrev cX3_isStone : ByteArray := prog_5_method_5_code
def yX3_isStone : MethodName := ⟨RX3, "isStone", "(I)Z"⟩
abbrev cX3_makeStone : ByteArray := prog_5_method_6_code
def yX3_makeStone : MethodName := ⟨RX3, "makeStone", "(I)V"⟩
abbrev cX3_makeNoStone : ByteArray := prog_5_method_7_code
def yX3_makeNoStone : MethodName := ⟨RX3, "makeNoStone", "(I)V"⟩
abbrev cX3_ownedBy : ByteArray := prog_5_method_8_code
def yX3_ownedBy : MethodName := ⟨RX3, "ownedBy", "(I)I"⟩
abbrev cX3_ownedPieces : ByteArray := prog_5_method_9_code
def yX3_ownedPieces : MethodName := ⟨RX3, "ownedPieces", "()I"⟩
abbrev cX3_ownedIn : ByteArray := prog_5_method_10_code
def yX3_ownedIn : MethodName := ⟨RX3, "ownedIn", "([II)I"⟩
def RX4 : String := "PavedBan$Reader"
def TX4 : u_T := fun k => match k with
  | 0 => ("PavedBan$Reader", "typed", "LPavedBan$Typed;", true)
  | 1 => ("PavedBan$Reader", "draft", "LPavedBan$Town;", true)
  | 2 => ("PavedBan$Reader", "draftNow", "LPavedBan$Now;", true)
  | 3 => ("PavedBan$Reader", "at", "I", false)
  | 4 => ("PavedBan$Reader", "start", "I", false)
  | 5 => ("PavedBan$Reader", "sort", "I", false)
  | _ => ("PavedBan$Reader", "value", "I", false)
def tyX4 : Nat → FieldType := fun k => match k with
  | 0 => .object "PavedBan$Typed"
  | 1 => .object "PavedBan$Town"
  | 2 => .object "PavedBan$Now"
  | 3 => .int
  | 4 => .int
  | 5 => .int
  | _ => .int
theorem nmX4 : ∀ a, a < 7 → ∀ b, b < 7 → a ≠ b → (TX4 a).2.1 ≠ (TX4 b).2.1 := by decide +kernel
theorem tyX4_ok : ∀ k, k < 7 → parseFieldDescriptor (TX4 k).2.2.1 = some (tyX4 k) := by decide +kernel
abbrev cX4_init : ByteArray := prog_6_method_1_code
def yX4_init : MethodName := ⟨RX4, "<init>", "(LPavedBan$Typed;LPavedBan$Town;LPavedBan$Now;)V"⟩
abbrev cX4_readAll : ByteArray := prog_6_method_2_code
def yX4_readAll : MethodName := ⟨RX4, "readAll", "()I"⟩
abbrev cX4_readPiece : ByteArray := prog_6_method_3_code
def yX4_readPiece : MethodName := ⟨RX4, "readPiece", "()Z"⟩
abbrev cX4_readFamily : ByteArray := prog_6_method_4_code
def yX4_readFamily : MethodName := ⟨RX4, "readFamily", "()Z"⟩
abbrev cX4_readPaved : ByteArray := prog_6_method_5_code
def yX4_readPaved : MethodName := ⟨RX4, "readPaved", "()Z"⟩
abbrev cX4_readStone : ByteArray := prog_6_method_6_code
def yX4_readStone : MethodName := ⟨RX4, "readStone", "()Z"⟩
abbrev cX4_readFlood : ByteArray := prog_6_method_7_code
def yX4_readFlood : MethodName := ⟨RX4, "readFlood", "()Z"⟩
abbrev cX4_number : ByteArray := prog_6_method_8_code
def yX4_number : MethodName := ⟨RX4, "number", "(I)I"⟩
abbrev cX4_stops : ByteArray := prog_6_method_9_code
def yX4_stops : MethodName := ⟨RX4, "stops", "()Z"⟩
abbrev cX4_nextToken : ByteArray := prog_6_method_10_code
def yX4_nextToken : MethodName := ⟨RX4, "nextToken", "()V"⟩
abbrev cX4_takeWord : ByteArray := prog_6_method_11_code
def yX4_takeWord : MethodName := ⟨RX4, "takeWord", "()V"⟩
abbrev cX4_takeNumber : ByteArray := prog_6_method_12_code
def yX4_takeNumber : MethodName := ⟨RX4, "takeNumber", "()V"⟩
abbrev cX4_isLetter : ByteArray := prog_6_method_13_code
def yX4_isLetter : MethodName := ⟨RX4, "isLetter", "(B)Z"⟩
abbrev cX4_isDigit : ByteArray := prog_6_method_14_code
def yX4_isDigit : MethodName := ⟨RX4, "isDigit", "(B)Z"⟩
abbrev cX4_spells : ByteArray := prog_6_method_15_code
def yX4_spells : MethodName := ⟨RX4, "spells", "(Ljava/lang/String;)Z"⟩
def RX5 : String := "PavedBan$Town"
def TX5 : u_T := fun k => match k with
  | 0 => ("PavedBan$Town", "pieces", "I", false)
  | 1 => ("PavedBan$Town", "endA", "[I", true)
  | 2 => ("PavedBan$Town", "endB", "[I", true)
  | 3 => ("PavedBan$Town", "yards", "[I", true)
  | 4 => ("PavedBan$Town", "families", "I", false)
  | 5 => ("PavedBan$Town", "home", "[I", true)
  | 6 => ("PavedBan$Town", "goal", "[I", true)
  | _ => ("PavedBan$Town", "times", "[I", true)
def tyX5 : Nat → FieldType := fun k => match k with
  | 0 => .int
  | 1 => .array .int
  | 2 => .array .int
  | 3 => .array .int
  | 4 => .int
  | 5 => .array .int
  | 6 => .array .int
  | _ => .array .int
theorem nmX5 : ∀ a, a < 8 → ∀ b, b < 8 → a ≠ b → (TX5 a).2.1 ≠ (TX5 b).2.1 := by decide +kernel
theorem tyX5_ok : ∀ k, k < 8 → parseFieldDescriptor (TX5 k).2.2.1 = some (tyX5 k) := by decide +kernel
abbrev cX5_init : ByteArray := prog_7_method_1_code
def yX5_init : MethodName := ⟨RX5, "<init>", "()V"⟩
abbrev cX5_empty : ByteArray := prog_7_method_2_code
def yX5_empty : MethodName := ⟨RX5, "empty", "()V"⟩
abbrev cX5_become : ByteArray := prog_7_method_3_code
def yX5_become : MethodName := ⟨RX5, "become", "(LPavedBan$Town;)V"⟩
abbrev cX5_addPiece : ByteArray := prog_7_method_4_code
def yX5_addPiece : MethodName := ⟨RX5, "addPiece", "(III)V"⟩
abbrev cX5_addFamily : ByteArray := prog_7_method_5_code
def yX5_addFamily : MethodName := ⟨RX5, "addFamily", "(III)V"⟩
abbrev cX5_widerThan : ByteArray := prog_7_method_6_code
def yX5_widerThan : MethodName := ⟨RX5, "widerThan", "(I)I"⟩
abbrev cX5_yardsOf : ByteArray := prog_7_method_7_code
def yX5_yardsOf : MethodName := ⟨RX5, "yardsOf", "(I)I"⟩
def RX6 : String := "PavedBan$Tracks"
def TX6 : u_T := fun k => match k with
  | 0 => ("PavedBan$Tracks", "town", "LPavedBan$Town;", true)
  | 1 => ("PavedBan$Tracks", "number", "[I", true)
  | _ => ("PavedBan$Tracks", "after", "[I", true)
def tyX6 : Nat → FieldType := fun k => match k with
  | 0 => .object "PavedBan$Town"
  | 1 => .array .int
  | _ => .array .int
theorem nmX6 : ∀ a, a < 3 → ∀ b, b < 3 → a ≠ b → (TX6 a).2.1 ≠ (TX6 b).2.1 := by decide +kernel
theorem tyX6_ok : ∀ k, k < 3 → parseFieldDescriptor (TX6 k).2.2.1 = some (tyX6 k) := by decide +kernel
abbrev cX6_init : ByteArray := prog_8_method_1_code
def yX6_init : MethodName := ⟨RX6, "<init>", "(LPavedBan$Town;)V"⟩
abbrev cX6_waysOf : ByteArray := prog_8_method_2_code
def yX6_waysOf : MethodName := ⟨RX6, "waysOf", "(LPavedBan$Now;II)I"⟩
abbrev cX6_onlyOwner : ByteArray := prog_8_method_3_code
def yX6_onlyOwner : MethodName := ⟨RX6, "onlyOwner", "(LPavedBan$Now;I)I"⟩
abbrev cX6_addPiece : ByteArray := prog_8_method_4_code
def yX6_addPiece : MethodName := ⟨RX6, "addPiece", "(LPavedBan$Now;II)V"⟩
def RX7 : String := "PavedBan$Typed"
def TX7 : u_T := fun k => match k with
  | 0 => ("PavedBan$Typed", "bytes", "[B", true)
  | _ => ("PavedBan$Typed", "length", "I", false)
def tyX7 : Nat → FieldType := fun k => match k with
  | 0 => .array .byte
  | _ => .int
theorem nmX7 : ∀ a, a < 2 → ∀ b, b < 2 → a ≠ b → (TX7 a).2.1 ≠ (TX7 b).2.1 := by decide +kernel
theorem tyX7_ok : ∀ k, k < 2 → parseFieldDescriptor (TX7 k).2.2.1 = some (tyX7 k) := by decide +kernel
abbrev cX7_init : ByteArray := prog_9_method_1_code
def yX7_init : MethodName := ⟨RX7, "<init>", "()V"⟩
abbrev cX7_append : ByteArray := prog_9_method_2_code
def yX7_append : MethodName := ⟨RX7, "append", "(JI)V"⟩
def RX8 : String := "PavedBan$Ways"
def TX8 : u_T := fun k => match k with
  | 0 => ("PavedBan$Ways", "town", "LPavedBan$Town;", true)
  | 1 => ("PavedBan$Ways", "known", "[I", true)
  | _ => ("PavedBan$Ways", "left", "[I", true)
def tyX8 : Nat → FieldType := fun k => match k with
  | 0 => .object "PavedBan$Town"
  | 1 => .array .int
  | _ => .array .int
theorem nmX8 : ∀ a, a < 3 → ∀ b, b < 3 → a ≠ b → (TX8 a).2.1 ≠ (TX8 b).2.1 := by decide +kernel
theorem tyX8_ok : ∀ k, k < 3 → parseFieldDescriptor (TX8 k).2.2.1 = some (tyX8 k) := by decide +kernel
abbrev cX8_init : ByteArray := prog_10_method_1_code
def yX8_init : MethodName := ⟨RX8, "<init>", "(LPavedBan$Town;)V"⟩
abbrev cX8_startAnew : ByteArray := prog_10_method_2_code
def yX8_startAnew : MethodName := ⟨RX8, "startAnew", "()V"⟩
abbrev cX8_yards : ByteArray := prog_10_method_3_code
def yX8_yards : MethodName := ⟨RX8, "yards", "(II)I"⟩
abbrev cX8_cost : ByteArray := prog_10_method_4_code
def yX8_cost : MethodName := ⟨RX8, "cost", "(II)I"⟩
abbrev cX8_neededBy : ByteArray := prog_10_method_5_code
def yX8_neededBy : MethodName := ⟨RX8, "neededBy", "(I)I"⟩
abbrev cX8_placeOnWay : ByteArray := prog_10_method_6_code
def yX8_placeOnWay : MethodName := ⟨RX8, "placeOnWay", "(III)I"⟩
abbrev cX8_measure : ByteArray := prog_10_method_7_code
def yX8_measure : MethodName := ⟨RX8, "measure", "(II)V"⟩
abbrev cX8_shorten : ByteArray := prog_10_method_8_code
def yX8_shorten : MethodName := ⟨RX8, "shorten", "(III)Z"⟩
abbrev cX8_leg : ByteArray := prog_10_method_9_code
def yX8_leg : MethodName := ⟨RX8, "leg", "(I)I"⟩
abbrev cX8_nextPlace : ByteArray := prog_10_method_10_code
def yX8_nextPlace : MethodName := ⟨RX8, "nextPlace", "(II)I"⟩
abbrev cX8_otherEnd : ByteArray := prog_10_method_11_code
def yX8_otherEnd : MethodName := ⟨RX8, "otherEnd", "(II)I"⟩
def RX9 : String := "PavedBan"
def TX9 : u_T := fun k => match k with
  | 0 => ("PavedBan", "typed", "LPavedBan$Typed;", true)
  | 1 => ("PavedBan", "reader", "LPavedBan$Reader;", true)
  | 2 => ("PavedBan", "told", "LPavedBan$Town;", true)
  | 3 => ("PavedBan", "toldDraft", "LPavedBan$Town;", true)
  | 4 => ("PavedBan", "now", "LPavedBan$Now;", true)
  | 5 => ("PavedBan", "nowDraft", "LPavedBan$Now;", true)
  | 6 => ("PavedBan", "images", "[LPavedBan$Now;", true)
  | 7 => ("PavedBan", "kept", "[Z", true)
  | 8 => ("PavedBan", "ways", "LPavedBan$Ways;", true)
  | 9 => ("PavedBan", "choice", "LPavedBan$Choice;", true)
  | 10 => ("PavedBan", "exchanges", "LPavedBan$Exchanges;", true)
  | 11 => ("PavedBan", "floods", "LPavedBan$Floods;", true)
  | 12 => ("PavedBan", "tracks", "LPavedBan$Tracks;", true)
  | _ => ("PavedBan", "traced", "J", false)
def tyX9 : Nat → FieldType := fun k => match k with
  | 0 => .object "PavedBan$Typed"
  | 1 => .object "PavedBan$Reader"
  | 2 => .object "PavedBan$Town"
  | 3 => .object "PavedBan$Town"
  | 4 => .object "PavedBan$Now"
  | 5 => .object "PavedBan$Now"
  | 6 => .array (.object "PavedBan$Now")
  | 7 => .array .boolean
  | 8 => .object "PavedBan$Ways"
  | 9 => .object "PavedBan$Choice"
  | 10 => .object "PavedBan$Exchanges"
  | 11 => .object "PavedBan$Floods"
  | 12 => .object "PavedBan$Tracks"
  | _ => .long
theorem nmX9 : ∀ a, a < 14 → ∀ b, b < 14 → a ≠ b → (TX9 a).2.1 ≠ (TX9 b).2.1 := by decide +kernel
theorem tyX9_ok : ∀ k, k < 14 → parseFieldDescriptor (TX9 k).2.2.1 = some (tyX9 k) := by decide +kernel
abbrev cX9_init : ByteArray := prog_1_method_1_code
def yX9_init : MethodName := ⟨RX9, "<init>", "()V"⟩
abbrev cX9_type : ByteArray := prog_1_method_2_code
def yX9_type : MethodName := ⟨RX9, "type", "(JI)I"⟩
abbrev cX9_clear : ByteArray := prog_1_method_3_code
def yX9_clear : MethodName := ⟨RX9, "clear", "()I"⟩
abbrev cX9_town : ByteArray := prog_1_method_4_code
def yX9_town : MethodName := ⟨RX9, "town", "()I"⟩
abbrev cX9_piece : ByteArray := prog_1_method_5_code
def yX9_piece : MethodName := ⟨RX9, "piece", "(II)I"⟩
abbrev cX9_family : ByteArray := prog_1_method_6_code
def yX9_family : MethodName := ⟨RX9, "family", "(II)I"⟩
abbrev cX9_pave : ByteArray := prog_1_method_7_code
def yX9_pave : MethodName := ⟨RX9, "pave", "(II)I"⟩
abbrev cX9_free : ByteArray := prog_1_method_8_code
def yX9_free : MethodName := ⟨RX9, "free", "(I)I"⟩
abbrev cX9_stone : ByteArray := prog_1_method_9_code
def yX9_stone : MethodName := ⟨RX9, "stone", "(II)I"⟩
abbrev cX9_flood : ByteArray := prog_1_method_10_code
def yX9_flood : MethodName := ⟨RX9, "flood", "(II)I"⟩
abbrev cX9_way : ByteArray := prog_1_method_11_code
def yX9_way : MethodName := ⟨RX9, "way", "(I)I"⟩
abbrev cX9_place : ByteArray := prog_1_method_12_code
def yX9_place : MethodName := ⟨RX9, "place", "(II)I"⟩
abbrev cX9_pole : ByteArray := prog_1_method_13_code
def yX9_pole : MethodName := ⟨RX9, "pole", "(II)I"⟩
abbrev cX9_judge : ByteArray := prog_1_method_14_code
def yX9_judge : MethodName := ⟨RX9, "judge", "(I)I"⟩
abbrev cX9_one : ByteArray := prog_1_method_15_code
def yX9_one : MethodName := ⟨RX9, "one", "(II)I"⟩
abbrev cX9_all : ByteArray := prog_1_method_16_code
def yX9_all : MethodName := ⟨RX9, "all", "(I)I"⟩
abbrev cX9_change : ByteArray := prog_1_method_17_code
def yX9_change : MethodName := ⟨RX9, "change", "()I"⟩
abbrev cX9_rest : ByteArray := prog_1_method_18_code
def yX9_rest : MethodName := ⟨RX9, "rest", "()I"⟩
abbrev cX9_match : ByteArray := prog_1_method_19_code
def yX9_match : MethodName := ⟨RX9, "match", "(II)I"⟩
abbrev cX9_always : ByteArray := prog_1_method_20_code
def yX9_always : MethodName := ⟨RX9, "always", "()I"⟩
abbrev cX9_shut : ByteArray := prog_1_method_21_code
def yX9_shut : MethodName := ⟨RX9, "shut", "(II)J"⟩
abbrev cX9_saw : ByteArray := prog_1_method_22_code
def yX9_saw : MethodName := ⟨RX9, "saw", "(II)I"⟩
abbrev cX9_forget : ByteArray := prog_1_method_23_code
def yX9_forget : MethodName := ⟨RX9, "forget", "()I"⟩
abbrev cX9_fits : ByteArray := prog_1_method_24_code
def yX9_fits : MethodName := ⟨RX9, "fits", "()I"⟩
abbrev cX9_who : ByteArray := prog_1_method_25_code
def yX9_who : MethodName := ⟨RX9, "who", "(I)I"⟩
abbrev cX9_mark : ByteArray := prog_1_method_26_code
def yX9_mark : MethodName := ⟨RX9, "mark", "(II)I"⟩
abbrev cX9_keep : ByteArray := prog_1_method_27_code
def yX9_keep : MethodName := ⟨RX9, "keep", "(I)I"⟩
abbrev cX9_back : ByteArray := prog_1_method_28_code
def yX9_back : MethodName := ⟨RX9, "back", "(I)I"⟩
abbrev cX9_count : ByteArray := prog_1_method_29_code
def yX9_count : MethodName := ⟨RX9, "count", "(I)I"⟩
abbrev cX9_trace : ByteArray := prog_1_method_30_code
def yX9_trace : MethodName := ⟨RX9, "trace", "()J"⟩
abbrev cX9_isPiece : ByteArray := prog_1_method_31_code
def yX9_isPiece : MethodName := ⟨RX9, "isPiece", "(I)Z"⟩
abbrev cX9_isFamily : ByteArray := prog_1_method_32_code
def yX9_isFamily : MethodName := ⟨RX9, "isFamily", "(I)Z"⟩
abbrev cX9_wayNow : ByteArray := prog_1_method_33_code
def yX9_wayNow : MethodName := ⟨RX9, "wayNow", "(I)I"⟩
abbrev cX9_orNone : ByteArray := prog_1_method_34_code
def yX9_orNone : MethodName := ⟨RX9, "orNone", "(I)I"⟩
abbrev cX9_chosen : ByteArray := prog_1_method_35_code
def yX9_chosen : MethodName := ⟨RX9, "chosen", "(I)I"⟩
abbrev cX9_asFamily : ByteArray := prog_1_method_36_code
def yX9_asFamily : MethodName := ⟨RX9, "asFamily", "(I)I"⟩
abbrev cX9_asWidow : ByteArray := prog_1_method_37_code
def yX9_asWidow : MethodName := ⟨RX9, "asWidow", "(I)I"⟩
abbrev cX9_asMason : ByteArray := prog_1_method_38_code
def yX9_asMason : MethodName := ⟨RX9, "asMason", "(I)I"⟩
abbrev cX9_asHeir : ByteArray := prog_1_method_39_code
def yX9_asHeir : MethodName := ⟨RX9, "asHeir", "(I)I"⟩
abbrev cX9_asHired : ByteArray := prog_1_method_40_code
def yX9_asHired : MethodName := ⟨RX9, "asHired", "(I)I"⟩
abbrev cX9_asBachelor : ByteArray := prog_1_method_41_code
def yX9_asBachelor : MethodName := ⟨RX9, "asBachelor", "(I)I"⟩
def RX10 : String := "PavedBanModel"
def TX10 : u_T := fun k => match k with
  | 0 => ("PavedBanModel", "text", "[I", true)
  | 1 => ("PavedBanModel", "size", "I", false)
  | 2 => ("PavedBanModel", "pieces", "I", false)
  | 3 => ("PavedBanModel", "a", "[I", true)
  | 4 => ("PavedBanModel", "b", "[I", true)
  | 5 => ("PavedBanModel", "yards", "[I", true)
  | 6 => ("PavedBanModel", "families", "I", false)
  | 7 => ("PavedBanModel", "home", "[I", true)
  | 8 => ("PavedBanModel", "to", "[I", true)
  | 9 => ("PavedBanModel", "times", "[I", true)
  | 10 => ("PavedBanModel", "owner", "[I", true)
  | 11 => ("PavedBanModel", "flood", "[I", true)
  | 12 => ("PavedBanModel", "seen", "I", false)
  | 13 => ("PavedBanModel", "seenBy", "[I", true)
  | 14 => ("PavedBanModel", "seenSet", "[I", true)
  | 15 => ("PavedBanModel", "images", "[I", true)
  | 16 => ("PavedBanModel", "trace", "J", false)
  | 17 => ("PavedBanModel", "at", "I", false)
  | 18 => ("PavedBanModel", "begin", "I", false)
  | 19 => ("PavedBanModel", "kind", "I", false)
  | 20 => ("PavedBanModel", "value", "J", false)
  | 21 => ("PavedBanModel", "readPieces", "I", false)
  | 22 => ("PavedBanModel", "readFamilies", "I", false)
  | 23 => ("PavedBanModel", "read", "[I", true)
  | 24 => ("PavedBanModel", "far", "[I", true)
  | 25 => ("PavedBanModel", "ways", "[I", true)
  | 26 => ("PavedBanModel", "best", "[I", true)
  | 27 => ("PavedBanModel", "told", "[I", true)
  | 28 => ("PavedBanModel", "walked", "[I", true)
  | _ => ("PavedBanModel", "paved", "[I", true)
def tyX10 : Nat → FieldType := fun k => match k with
  | 0 => .array .int
  | 1 => .int
  | 2 => .int
  | 3 => .array .int
  | 4 => .array .int
  | 5 => .array .int
  | 6 => .int
  | 7 => .array .int
  | 8 => .array .int
  | 9 => .array .int
  | 10 => .array .int
  | 11 => .array .int
  | 12 => .int
  | 13 => .array .int
  | 14 => .array .int
  | 15 => .array .int
  | 16 => .long
  | 17 => .int
  | 18 => .int
  | 19 => .int
  | 20 => .long
  | 21 => .int
  | 22 => .int
  | 23 => .array .int
  | 24 => .array .int
  | 25 => .array .int
  | 26 => .array .int
  | 27 => .array .int
  | 28 => .array .int
  | _ => .array .int
theorem nmX10 : ∀ a, a < 30 → ∀ b, b < 30 → a ≠ b → (TX10 a).2.1 ≠ (TX10 b).2.1 := by decide +kernel
theorem tyX10_ok : ∀ k, k < 30 → parseFieldDescriptor (TX10 k).2.2.1 = some (tyX10 k) := by decide +kernel
abbrev cX10_init : ByteArray := prog_12_method_1_code
def yX10_init : MethodName := ⟨RX10, "<init>", "()V"⟩
abbrev cX10_in : ByteArray := prog_12_method_3_code
def yX10_in : MethodName := ⟨RX10, "in", "(JJJ)Z"⟩
abbrev cX10_isPiece : ByteArray := prog_12_method_4_code
def yX10_isPiece : MethodName := ⟨RX10, "isPiece", "(I)Z"⟩
abbrev cX10_isFamily : ByteArray := prog_12_method_5_code
def yX10_isFamily : MethodName := ⟨RX10, "isFamily", "(I)Z"⟩
abbrev cX10_type : ByteArray := prog_12_method_6_code
def yX10_type : MethodName := ⟨RX10, "type", "(JI)I"⟩
abbrev cX10_clear : ByteArray := prog_12_method_7_code
def yX10_clear : MethodName := ⟨RX10, "clear", "()I"⟩
abbrev cX10_isLetter : ByteArray := prog_12_method_8_code
def yX10_isLetter : MethodName := ⟨RX10, "isLetter", "(I)Z"⟩
abbrev cX10_isFigure : ByteArray := prog_12_method_9_code
def yX10_isFigure : MethodName := ⟨RX10, "isFigure", "(I)Z"⟩
abbrev cX10_next : ByteArray := prog_12_method_10_code
def yX10_next : MethodName := ⟨RX10, "next", "()V"⟩
abbrev cX10_takes : ByteArray := prog_12_method_11_code
def yX10_takes : MethodName := ⟨RX10, "takes", "(II)Z"⟩
abbrev cX10_stops : ByteArray := prog_12_method_12_code
def yX10_stops : MethodName := ⟨RX10, "stops", "()Z"⟩
abbrev cX10_takesPiece : ByteArray := prog_12_method_13_code
def yX10_takesPiece : MethodName := ⟨RX10, "takesPiece", "()Z"⟩
abbrev cX10_takesFamily : ByteArray := prog_12_method_14_code
def yX10_takesFamily : MethodName := ⟨RX10, "takesFamily", "()Z"⟩
abbrev cX10_takesTold : ByteArray := prog_12_method_15_code
def yX10_takesTold : MethodName := ⟨RX10, "takesTold", "(J)Z"⟩
abbrev cX10_takesAll : ByteArray := prog_12_method_16_code
def yX10_takesAll : MethodName := ⟨RX10, "takesAll", "()I"⟩
abbrev cX10_town : ByteArray := prog_12_method_17_code
def yX10_town : MethodName := ⟨RX10, "town", "()I"⟩
abbrev cX10_isStone : ByteArray := prog_12_method_18_code
def yX10_isStone : MethodName := ⟨RX10, "isStone", "(I)Z"⟩
abbrev cX10_ownerOf : ByteArray := prog_12_method_19_code
def yX10_ownerOf : MethodName := ⟨RX10, "ownerOf", "(I)I"⟩
abbrev cX10_piece : ByteArray := prog_12_method_20_code
def yX10_piece : MethodName := ⟨RX10, "piece", "(II)I"⟩
abbrev cX10_ownBy : ByteArray := prog_12_method_21_code
def yX10_ownBy : MethodName := ⟨RX10, "ownBy", "([II)I"⟩
abbrev cX10_many : ByteArray := prog_12_method_22_code
def yX10_many : MethodName := ⟨RX10, "many", "(I)I"⟩
abbrev cX10_family : ByteArray := prog_12_method_23_code
def yX10_family : MethodName := ⟨RX10, "family", "(II)I"⟩
abbrev cX10_pave : ByteArray := prog_12_method_24_code
def yX10_pave : MethodName := ⟨RX10, "pave", "(II)I"⟩
abbrev cX10_free : ByteArray := prog_12_method_25_code
def yX10_free : MethodName := ⟨RX10, "free", "(I)I"⟩
abbrev cX10_stone : ByteArray := prog_12_method_26_code
def yX10_stone : MethodName := ⟨RX10, "stone", "(II)I"⟩
abbrev cX10_flood : ByteArray := prog_12_method_27_code
def yX10_flood : MethodName := ⟨RX10, "flood", "(II)I"⟩
abbrev cX10_measures : ByteArray := prog_12_method_28_code
def yX10_measures : MethodName := ⟨RX10, "measures", "(II)V"⟩
abbrev cX10_wayOf : ByteArray := prog_12_method_29_code
def yX10_wayOf : MethodName := ⟨RX10, "wayOf", "(II)I"⟩
abbrev cX10_way : ByteArray := prog_12_method_30_code
def yX10_way : MethodName := ⟨RX10, "way", "(I)I"⟩
abbrev cX10_place : ByteArray := prog_12_method_31_code
def yX10_place : MethodName := ⟨RX10, "place", "(II)I"⟩
abbrev cX10_pole : ByteArray := prog_12_method_32_code
def yX10_pole : MethodName := ⟨RX10, "pole", "(II)I"⟩
abbrev cX10_costBy : ByteArray := prog_12_method_33_code
def yX10_costBy : MethodName := ⟨RX10, "costBy", "([II)I"⟩
abbrev cX10_judge : ByteArray := prog_12_method_34_code
def yX10_judge : MethodName := ⟨RX10, "judge", "(I)I"⟩
abbrev cX10_tells : ByteArray := prog_12_method_35_code
def yX10_tells : MethodName := ⟨RX10, "tells", "()V"⟩
abbrev cX10_bestOfOne : ByteArray := prog_12_method_36_code
def yX10_bestOfOne : MethodName := ⟨RX10, "bestOfOne", "(I)I"⟩
abbrev cX10_one : ByteArray := prog_12_method_37_code
def yX10_one : MethodName := ⟨RX10, "one", "(II)I"⟩
abbrev cX10_rowsOfAll : ByteArray := prog_12_method_38_code
def yX10_rowsOfAll : MethodName := ⟨RX10, "rowsOfAll", "()I"⟩
abbrev cX10_lays : ByteArray := prog_12_method_39_code
def yX10_lays : MethodName := ⟨RX10, "lays", "(I)V"⟩
abbrev cX10_all : ByteArray := prog_12_method_40_code
def yX10_all : MethodName := ⟨RX10, "all", "(I)I"⟩
abbrev cX10_isLess : ByteArray := prog_12_method_41_code
def yX10_isLess : MethodName := ⟨RX10, "isLess", "(II)Z"⟩
abbrev cX10_changeBy : ByteArray := prog_12_method_42_code
def yX10_changeBy : MethodName := ⟨RX10, "changeBy", "([I)I"⟩
abbrev cX10_change : ByteArray := prog_12_method_43_code
def yX10_change : MethodName := ⟨RX10, "change", "()I"⟩
abbrev cX10_rest : ByteArray := prog_12_method_44_code
def yX10_rest : MethodName := ⟨RX10, "rest", "()I"⟩
abbrev cX10_match : ByteArray := prog_12_method_45_code
def yX10_match : MethodName := ⟨RX10, "match", "(II)I"⟩
abbrev cX10_always : ByteArray := prog_12_method_46_code
def yX10_always : MethodName := ⟨RX10, "always", "()I"⟩
abbrev cX10_shut : ByteArray := prog_12_method_47_code
def yX10_shut : MethodName := ⟨RX10, "shut", "(II)J"⟩
abbrev cX10_saw : ByteArray := prog_12_method_48_code
def yX10_saw : MethodName := ⟨RX10, "saw", "(II)I"⟩
abbrev cX10_forget : ByteArray := prog_12_method_49_code
def yX10_forget : MethodName := ⟨RX10, "forget", "()I"⟩
abbrev cX10_paves : ByteArray := prog_12_method_50_code
def yX10_paves : MethodName := ⟨RX10, "paves", "()I"⟩
abbrev cX10_fits : ByteArray := prog_12_method_51_code
def yX10_fits : MethodName := ⟨RX10, "fits", "()I"⟩
abbrev cX10_who : ByteArray := prog_12_method_52_code
def yX10_who : MethodName := ⟨RX10, "who", "(I)I"⟩
abbrev cX10_mark : ByteArray := prog_12_method_53_code
def yX10_mark : MethodName := ⟨RX10, "mark", "(II)I"⟩
abbrev cX10_owned : ByteArray := prog_12_method_54_code
def yX10_owned : MethodName := ⟨RX10, "owned", "()I"⟩
abbrev cX10_keep : ByteArray := prog_12_method_55_code
def yX10_keep : MethodName := ⟨RX10, "keep", "(I)I"⟩
abbrev cX10_back : ByteArray := prog_12_method_56_code
def yX10_back : MethodName := ⟨RX10, "back", "(I)I"⟩
abbrev cX10_count : ByteArray := prog_12_method_57_code
def yX10_count : MethodName := ⟨RX10, "count", "(I)I"⟩
abbrev cX10_trace : ByteArray := prog_12_method_58_code
def yX10_trace : MethodName := ⟨RX10, "trace", "()J"⟩
def RJx145de : String := "java/io/Serializable"
def TJx145de : u_T := fun k => match k with
  | _ => ("", "", "", false)
def tyJx145de : Nat → FieldType := fun k => match k with
  | _ => .int
theorem nmJx145de : ∀ a, a < 0 → ∀ b, b < 0 → a ≠ b → (TJx145de a).2.1 ≠ (TJx145de b).2.1 := by decide +kernel
theorem tyJx145de_ok : ∀ k, k < 0 → parseFieldDescriptor (TJx145de k).2.2.1 = some (tyJx145de k) := by decide +kernel
def RJx9f9b0 : String := "java/lang/CharSequence"
def TJx9f9b0 : u_T := fun k => match k with
  | _ => ("", "", "", false)
def tyJx9f9b0 : Nat → FieldType := fun k => match k with
  | _ => .int
theorem nmJx9f9b0 : ∀ a, a < 0 → ∀ b, b < 0 → a ≠ b → (TJx9f9b0 a).2.1 ≠ (TJx9f9b0 b).2.1 := by decide +kernel
theorem tyJx9f9b0_ok : ∀ k, k < 0 → parseFieldDescriptor (TJx9f9b0 k).2.2.1 = some (tyJx9f9b0 k) := by decide +kernel
def RJxb160c : String := "java/lang/Comparable"
def TJxb160c : u_T := fun k => match k with
  | _ => ("", "", "", false)
def tyJxb160c : Nat → FieldType := fun k => match k with
  | _ => .int
theorem nmJxb160c : ∀ a, a < 0 → ∀ b, b < 0 → a ≠ b → (TJxb160c a).2.1 ≠ (TJxb160c b).2.1 := by decide +kernel
theorem tyJxb160c_ok : ∀ k, k < 0 → parseFieldDescriptor (TJxb160c k).2.2.1 = some (tyJxb160c k) := by decide +kernel
def RJ6 : String := "java/lang/Integer"
def TJ6 : u_T := fun k => match k with
  | _ => ("", "", "", false)
def tyJ6 : Nat → FieldType := fun k => match k with
  | _ => .int
theorem nmJ6 : ∀ a, a < 0 → ∀ b, b < 0 → a ≠ b → (TJ6 a).2.1 ≠ (TJ6 b).2.1 := by decide +kernel
theorem tyJ6_ok : ∀ k, k < 0 → parseFieldDescriptor (TJ6 k).2.2.1 = some (tyJ6 k) := by decide +kernel
abbrev cJ6_bitCount_0f7a4 : ByteArray := prog_13_method_49_code
def yJ6_bitCount_0f7a4 : MethodName := ⟨RJ6, "bitCount", "(I)I"⟩
def RJ9 : String := "java/lang/Math"
def TJ9 : u_T := fun k => match k with
  | _ => ("", "", "", false)
def tyJ9 : Nat → FieldType := fun k => match k with
  | _ => .int
theorem nmJ9 : ∀ a, a < 0 → ∀ b, b < 0 → a ≠ b → (TJ9 a).2.1 ≠ (TJ9 b).2.1 := by decide +kernel
theorem tyJ9_ok : ∀ k, k < 0 → parseFieldDescriptor (TJ9 k).2.2.1 = some (tyJ9 k) := by decide +kernel
abbrev cJ9_max_7cf53 : ByteArray := prog_14_method_65_code
def yJ9_max_7cf53 : MethodName := ⟨RJ9, "max", "(II)I"⟩
abbrev cJ9_min_7cf53 : ByteArray := prog_14_method_69_code
def yJ9_min_7cf53 : MethodName := ⟨RJ9, "min", "(II)I"⟩
def RJ0 : String := "java/lang/String"
def TJ0 : u_T := fun k => match k with
  | _ => ("", "", "", false)
def tyJ0 : Nat → FieldType := fun k => match k with
  | _ => .int
theorem nmJ0 : ∀ a, a < 0 → ∀ b, b < 0 → a ≠ b → (TJ0 a).2.1 ≠ (TJ0 b).2.1 := by decide +kernel
theorem tyJ0_ok : ∀ k, k < 0 → parseFieldDescriptor (TJ0 k).2.2.1 = some (tyJ0 k) := by decide +kernel
abbrev cJ0_length_8abf5 : ByteArray := prog_15_method_54_code
def yJ0_length_8abf5 : MethodName := ⟨RJ0, "length", "()I"⟩
abbrev cJ0_charAt_5068e : ByteArray := prog_15_method_56_code
def yJ0_charAt_5068e : MethodName := ⟨RJ0, "charAt", "(I)C"⟩
abbrev cJ0_coder_7d493 : ByteArray := prog_15_method_152_code
def yJ0_coder_7d493 : MethodName := ⟨RJ0, "coder", "()B"⟩
abbrev cJ0_isLatin1_aae02 : ByteArray := prog_15_method_154_code
def yJ0_isLatin1_aae02 : MethodName := ⟨RJ0, "isLatin1", "()Z"⟩
abbrev cJ0_checkIndex_df160 : ByteArray := prog_15_method_155_code
def yJ0_checkIndex_df160 : MethodName := ⟨RJ0, "checkIndex", "(II)V"⟩
def RJ1 : String := "java/lang/StringLatin1"
def TJ1 : u_T := fun k => match k with
  | _ => ("", "", "", false)
def tyJ1 : Nat → FieldType := fun k => match k with
  | _ => .int
theorem nmJ1 : ∀ a, a < 0 → ∀ b, b < 0 → a ≠ b → (TJ1 a).2.1 ≠ (TJ1 b).2.1 := by decide +kernel
theorem tyJ1_ok : ∀ k, k < 0 → parseFieldDescriptor (TJ1 k).2.2.1 = some (tyJ1 k) := by decide +kernel
abbrev cJ1_charAt_3b067 : ByteArray := prog_16_method_2_code
def yJ1_charAt_3b067 : MethodName := ⟨RJ1, "charAt", "([BI)C"⟩
def RJ2 : String := "java/lang/StringUTF16"
def TJ2 : u_T := fun k => match k with
  | _ => ("", "", "", false)
def tyJ2 : Nat → FieldType := fun k => match k with
  | _ => .int
theorem nmJ2 : ∀ a, a < 0 → ∀ b, b < 0 → a ≠ b → (TJ2 a).2.1 ≠ (TJ2 b).2.1 := by decide +kernel
theorem tyJ2_ok : ∀ k, k < 0 → parseFieldDescriptor (TJ2 k).2.2.1 = some (tyJ2 k) := by decide +kernel
abbrev cJ2_getChar_3b067 : ByteArray := prog_17_method_5_code
def yJ2_getChar_3b067 : MethodName := ⟨RJ2, "getChar", "([BI)C"⟩
abbrev cJ2_length_9d52b : ByteArray := prog_17_method_6_code
def yJ2_length_9d52b : MethodName := ⟨RJ2, "length", "([B)I"⟩
abbrev cJ2_charAt_3b067 : ByteArray := prog_17_method_83_code
def yJ2_charAt_3b067 : MethodName := ⟨RJ2, "charAt", "([BI)C"⟩
abbrev cJ2_checkIndex_2214a : ByteArray := prog_17_method_91_code
def yJ2_checkIndex_2214a : MethodName := ⟨RJ2, "checkIndex", "(I[B)V"⟩
def RJ10 : String := "java/lang/System"
def TJ10 : u_T := fun k => match k with
  | _ => ("", "", "", false)
def tyJ10 : Nat → FieldType := fun k => match k with
  | _ => .int
theorem nmJ10 : ∀ a, a < 0 → ∀ b, b < 0 → a ≠ b → (TJ10 a).2.1 ≠ (TJ10 b).2.1 := by decide +kernel
theorem tyJ10_ok : ∀ k, k < 0 → parseFieldDescriptor (TJ10 k).2.2.1 = some (tyJ10 k) := by decide +kernel
def RJxfd54e : String := "java/lang/constant/Constable"
def TJxfd54e : u_T := fun k => match k with
  | _ => ("", "", "", false)
def tyJxfd54e : Nat → FieldType := fun k => match k with
  | _ => .int
theorem nmJxfd54e : ∀ a, a < 0 → ∀ b, b < 0 → a ≠ b → (TJxfd54e a).2.1 ≠ (TJxfd54e b).2.1 := by decide +kernel
theorem tyJxfd54e_ok : ∀ k, k < 0 → parseFieldDescriptor (TJxfd54e k).2.2.1 = some (tyJxfd54e k) := by decide +kernel
def RJx3cf43 : String := "java/lang/constant/ConstantDesc"
def TJx3cf43 : u_T := fun k => match k with
  | _ => ("", "", "", false)
def tyJx3cf43 : Nat → FieldType := fun k => match k with
  | _ => .int
theorem nmJx3cf43 : ∀ a, a < 0 → ∀ b, b < 0 → a ≠ b → (TJx3cf43 a).2.1 ≠ (TJx3cf43 b).2.1 := by decide +kernel
theorem tyJx3cf43_ok : ∀ k, k < 0 → parseFieldDescriptor (TJx3cf43 k).2.2.1 = some (tyJx3cf43 k) := by decide +kernel
def RJ7 : String := "java/util/Arrays"
def TJ7 : u_T := fun k => match k with
  | _ => ("", "", "", false)
def tyJ7 : Nat → FieldType := fun k => match k with
  | _ => .int
theorem nmJ7 : ∀ a, a < 0 → ∀ b, b < 0 → a ≠ b → (TJ7 a).2.1 ≠ (TJ7 b).2.1 := by decide +kernel
theorem tyJ7_ok : ∀ k, k < 0 → parseFieldDescriptor (TJ7 k).2.2.1 = some (tyJ7 k) := by decide +kernel
abbrev cJ7_fill_53178 : ByteArray := prog_19_method_103_code
def yJ7_fill_53178 : MethodName := ⟨RJ7, "fill", "([II)V"⟩
def RJ3 : String := "jdk/internal/util/Preconditions"
def TJ3 : u_T := fun k => match k with
  | _ => ("", "", "", false)
def tyJ3 : Nat → FieldType := fun k => match k with
  | _ => .int
theorem nmJ3 : ∀ a, a < 0 → ∀ b, b < 0 → a ≠ b → (TJ3 a).2.1 ≠ (TJ3 b).2.1 := by decide +kernel
theorem tyJ3_ok : ∀ k, k < 0 → parseFieldDescriptor (TJ3 k).2.2.1 = some (tyJ3 k) := by decide +kernel
abbrev cJ3_checkIndex_8e157 : ByteArray := prog_20_method_11_code
def yJ3_checkIndex_8e157 : MethodName := ⟨RJ3, "checkIndex", "(IILjava/util/function/BiFunction;)I"⟩
def RL : String := "PavedBanLaw"
abbrev cL_law : ByteArray := code
def yL_law : MethodName := ⟨RL, "law", "([I)Z"⟩
abbrev vwCl : List vw_C := [(RX0, TX0, 8), (RX1, TX1, 3), (RX2, TX2, 4), (RX3, TX3, 5), (RX4, TX4, 7), (RX5, TX5, 8), (RX6, TX6, 3), (RX7, TX7, 2), (RX8, TX8, 3), (RX9, TX9, 14), (RX10, TX10, 30)]
