/-! names, fields, codes: as printed for this claim (claim/NAMES.whole), less its word lists -/
def RX0 : String := "SuitByTailors$BoltSearch"
def TX0 : u_T := fun k => match k with
  | 0 => ("SuitByTailors$BoltSearch", "boltOf", "[I", true)
  | 1 => ("SuitByTailors$BoltSearch", "filled", "[I", true)
  | _ => ("SuitByTailors$BoltSearch", "most", "I", false)
def tyX0 : Nat → FieldType := fun k => match k with
  | 0 => .array .int
  | 1 => .array .int
  | _ => .int
abbrev wsX00 : List Cond := u_ws RX0 TX0 3
theorem nmX0 : ∀ a, a < 3 → ∀ b, b < 3 → a ≠ b → (TX0 a).2.1 ≠ (TX0 b).2.1 := by decide +kernel
theorem tyX0_ok : ∀ k, k < 3 → parseFieldDescriptor (TX0 k).2.2.1 = some (tyX0 k) := by decide +kernel
abbrev cX0_init : ByteArray := prog_2_method_1_code
def yX0_init : MethodName := ⟨RX0, "<init>", "()V"⟩
abbrev cX0_search : ByteArray := prog_2_method_2_code
def yX0_search : MethodName := ⟨RX0, "search", "(LSuitByTailors$Plan;[I)I"⟩
abbrev cX0_findsBolts : ByteArray := prog_2_method_3_code
def yX0_findsBolts : MethodName := ⟨RX0, "findsBolts", "(LSuitByTailors$Plan;[III)Z"⟩
abbrev cX0_findsRest : ByteArray := prog_2_method_4_code
def yX0_findsRest : MethodName := ⟨RX0, "findsRest", "(LSuitByTailors$Plan;[III)Z"⟩
def RX1 : String := "SuitByTailors$Fitting"
def TX1 : u_T := fun k => match k with
  | 0 => ("SuitByTailors$Fitting", "partAt", "[I", true)
  | _ => ("SuitByTailors$Fitting", "longerBy", "[I", true)
def tyX1 : Nat → FieldType := fun k => match k with
  | 0 => .array .int
  | _ => .array .int
abbrev wsX10 : List Cond := u_ws RX1 TX1 2
theorem nmX1 : ∀ a, a < 2 → ∀ b, b < 2 → a ≠ b → (TX1 a).2.1 ≠ (TX1 b).2.1 := by decide +kernel
theorem tyX1_ok : ∀ k, k < 2 → parseFieldDescriptor (TX1 k).2.2.1 = some (tyX1 k) := by decide +kernel
abbrev cX1_init : ByteArray := prog_3_method_1_code
def yX1_init : MethodName := ⟨RX1, "<init>", "()V"⟩
abbrev cX1_startAnew : ByteArray := prog_3_method_2_code
def yX1_startAnew : MethodName := ⟨RX1, "startAnew", "()V"⟩
abbrev cX1_placeOf : ByteArray := prog_3_method_3_code
def yX1_placeOf : MethodName := ⟨RX1, "placeOf", "(I)I"⟩
abbrev cX1_swapPlaces : ByteArray := prog_3_method_4_code
def yX1_swapPlaces : MethodName := ⟨RX1, "swapPlaces", "(II)V"⟩
def RX2 : String := "SuitByTailors$FittingStack"
def TX2 : u_T := fun k => match k with
  | 0 => ("SuitByTailors$FittingStack", "most", "I", true)
  | 1 => ("SuitByTailors$FittingStack", "partAt", "[I", true)
  | 2 => ("SuitByTailors$FittingStack", "longerBy", "[I", true)
  | 3 => ("SuitByTailors$FittingStack", "size", "I", false)
  | _ => ("SuitByTailors$FittingStack", "next", "I", false)
def tyX2 : Nat → FieldType := fun k => match k with
  | 0 => .int
  | 1 => .array .int
  | 2 => .array .int
  | 3 => .int
  | _ => .int
abbrev wsX20 : List Cond := u_ws RX2 TX2 5
theorem nmX2 : ∀ a, a < 5 → ∀ b, b < 5 → a ≠ b → (TX2 a).2.1 ≠ (TX2 b).2.1 := by decide +kernel
theorem tyX2_ok : ∀ k, k < 5 → parseFieldDescriptor (TX2 k).2.2.1 = some (tyX2 k) := by decide +kernel
abbrev cX2_init : ByteArray := prog_4_method_1_code
def yX2_init : MethodName := ⟨RX2, "<init>", "(I)V"⟩
abbrev cX2_clear : ByteArray := prog_4_method_2_code
def yX2_clear : MethodName := ⟨RX2, "clear", "()V"⟩
abbrev cX2_push : ByteArray := prog_4_method_3_code
def yX2_push : MethodName := ⟨RX2, "push", "(LSuitByTailors$Fitting;)V"⟩
abbrev cX2_popInto : ByteArray := prog_4_method_4_code
def yX2_popInto : MethodName := ⟨RX2, "popInto", "(LSuitByTailors$Fitting;)V"⟩
def RX3 : String := "SuitByTailors$OrderSearch"
def TX3 : u_T := fun k => match k with
  | 0 => ("SuitByTailors$OrderSearch", "best", "[I", true)
  | 1 => ("SuitByTailors$OrderSearch", "known", "Z", false)
  | 2 => ("SuitByTailors$OrderSearch", "leastSum", "I", false)
  | 3 => ("SuitByTailors$OrderSearch", "tried", "[I", true)
  | 4 => ("SuitByTailors$OrderSearch", "row", "[I", true)
  | _ => ("SuitByTailors$OrderSearch", "placed", "I", false)
def tyX3 : Nat → FieldType := fun k => match k with
  | 0 => .array .int
  | 1 => .boolean
  | 2 => .int
  | 3 => .array .int
  | 4 => .array .int
  | _ => .int
abbrev wsX30 : List Cond := u_ws RX3 TX3 6
theorem nmX3 : ∀ a, a < 6 → ∀ b, b < 6 → a ≠ b → (TX3 a).2.1 ≠ (TX3 b).2.1 := by decide +kernel
theorem tyX3_ok : ∀ k, k < 6 → parseFieldDescriptor (TX3 k).2.2.1 = some (tyX3 k) := by decide +kernel
abbrev cX3_init : ByteArray := prog_5_method_1_code
def yX3_init : MethodName := ⟨RX3, "<init>", "()V"⟩
abbrev cX3_search : ByteArray := prog_5_method_2_code
def yX3_search : MethodName := ⟨RX3, "search", "(LSuitByTailors$Plan;)V"⟩
abbrev cX3_tryPlace : ByteArray := prog_5_method_3_code
def yX3_tryPlace : MethodName := ⟨RX3, "tryPlace", "(LSuitByTailors$Plan;II)V"⟩
abbrev cX3_tryPart : ByteArray := prog_5_method_4_code
def yX3_tryPart : MethodName := ⟨RX3, "tryPart", "(LSuitByTailors$Plan;III)V"⟩
abbrev cX3_gapsWithPlaced : ByteArray := prog_5_method_5_code
def yX3_gapsWithPlaced : MethodName := ⟨RX3, "gapsWithPlaced", "(LSuitByTailors$Plan;I)I"⟩
abbrev cX3_isPlaced : ByteArray := prog_5_method_6_code
def yX3_isPlaced : MethodName := ⟨RX3, "isPlaced", "(I)Z"⟩
def RX4 : String := "SuitByTailors$Pins"
def TX4 : u_T := fun k => match k with
  | 0 => ("SuitByTailors$Pins", "seamOf", "[I", true)
  | 1 => ("SuitByTailors$Pins", "tailorOf", "[I", true)
  | _ => ("SuitByTailors$Pins", "size", "I", false)
def tyX4 : Nat → FieldType := fun k => match k with
  | 0 => .array .int
  | 1 => .array .int
  | _ => .int
abbrev wsX40 : List Cond := u_ws RX4 TX4 3
theorem nmX4 : ∀ a, a < 3 → ∀ b, b < 3 → a ≠ b → (TX4 a).2.1 ≠ (TX4 b).2.1 := by decide +kernel
theorem tyX4_ok : ∀ k, k < 3 → parseFieldDescriptor (TX4 k).2.2.1 = some (tyX4 k) := by decide +kernel
abbrev cX4_init : ByteArray := prog_6_method_1_code
def yX4_init : MethodName := ⟨RX4, "<init>", "()V"⟩
abbrev cX4_add : ByteArray := prog_6_method_2_code
def yX4_add : MethodName := ⟨RX4, "add", "(II)V"⟩
abbrev cX4_countIn : ByteArray := prog_6_method_3_code
def yX4_countIn : MethodName := ⟨RX4, "countIn", "(I)I"⟩
def RX5 : String := "SuitByTailors$Plan"
def TX5 : u_T := fun k => match k with
  | 0 => ("SuitByTailors$Plan", "inches", "[I", true)
  | 1 => ("SuitByTailors$Plan", "tailorOf", "[I", true)
  | 2 => ("SuitByTailors$Plan", "lengthOf", "[I", true)
  | 3 => ("SuitByTailors$Plan", "bribeFor", "[I", true)
  | 4 => ("SuitByTailors$Plan", "firstOf", "[I", true)
  | 5 => ("SuitByTailors$Plan", "secondOf", "[I", true)
  | 6 => ("SuitByTailors$Plan", "tailors", "I", false)
  | 7 => ("SuitByTailors$Plan", "parts", "I", false)
  | 8 => ("SuitByTailors$Plan", "seams", "I", false)
  | 9 => ("SuitByTailors$Plan", "widestGap", "I", false)
  | 10 => ("SuitByTailors$Plan", "boy", "I", false)
  | _ => ("SuitByTailors$Plan", "boltLength", "I", false)
def tyX5 : Nat → FieldType := fun k => match k with
  | 0 => .array .int
  | 1 => .array .int
  | 2 => .array .int
  | 3 => .array .int
  | 4 => .array .int
  | 5 => .array .int
  | 6 => .int
  | 7 => .int
  | 8 => .int
  | 9 => .int
  | 10 => .int
  | _ => .int
abbrev wsX50 : List Cond := u_ws RX5 TX5 12
theorem nmX5 : ∀ a, a < 12 → ∀ b, b < 12 → a ≠ b → (TX5 a).2.1 ≠ (TX5 b).2.1 := by decide +kernel
theorem tyX5_ok : ∀ k, k < 12 → parseFieldDescriptor (TX5 k).2.2.1 = some (tyX5 k) := by decide +kernel
abbrev cX5_init : ByteArray := prog_7_method_1_code
def yX5_init : MethodName := ⟨RX5, "<init>", "()V"⟩
abbrev cX5_clear : ByteArray := prog_7_method_2_code
def yX5_clear : MethodName := ⟨RX5, "clear", "()V"⟩
abbrev cX5_hasTailor : ByteArray := prog_7_method_3_code
def yX5_hasTailor : MethodName := ⟨RX5, "hasTailor", "(I)Z"⟩
abbrev cX5_hasPart : ByteArray := prog_7_method_4_code
def yX5_hasPart : MethodName := ⟨RX5, "hasPart", "(I)Z"⟩
abbrev cX5_hasSeam : ByteArray := prog_7_method_5_code
def yX5_hasSeam : MethodName := ⟨RX5, "hasSeam", "(I)Z"⟩
abbrev cX5_takes : ByteArray := prog_7_method_6_code
def yX5_takes : MethodName := ⟨RX5, "takes", "(I[I)Z"⟩
abbrev cX5_takesTailor : ByteArray := prog_7_method_7_code
def yX5_takesTailor : MethodName := ⟨RX5, "takesTailor", "(I)Z"⟩
abbrev cX5_takesPart : ByteArray := prog_7_method_8_code
def yX5_takesPart : MethodName := ⟨RX5, "takesPart", "(III)Z"⟩
abbrev cX5_takesSeam : ByteArray := prog_7_method_9_code
def yX5_takesSeam : MethodName := ⟨RX5, "takesSeam", "(II)Z"⟩
abbrev cX5_takesGap : ByteArray := prog_7_method_10_code
def yX5_takesGap : MethodName := ⟨RX5, "takesGap", "(I)Z"⟩
abbrev cX5_takesBoy : ByteArray := prog_7_method_11_code
def yX5_takesBoy : MethodName := ⟨RX5, "takesBoy", "(I)Z"⟩
abbrev cX5_takesBolt : ByteArray := prog_7_method_12_code
def yX5_takesBolt : MethodName := ⟨RX5, "takesBolt", "(I)Z"⟩
abbrev cX5_slip : ByteArray := prog_7_method_13_code
def yX5_slip : MethodName := ⟨RX5, "slip", "(III)I"⟩
abbrev cX5_cutLength : ByteArray := prog_7_method_14_code
def yX5_cutLength : MethodName := ⟨RX5, "cutLength", "(II)I"⟩
abbrev cX5_byInch : ByteArray := prog_7_method_15_code
def yX5_byInch : MethodName := ⟨RX5, "byInch", "(II)I"⟩
abbrev cX5_gapOf : ByteArray := prog_7_method_16_code
def yX5_gapOf : MethodName := ⟨RX5, "gapOf", "(I[I)I"⟩
abbrev cX5_sumOfGaps : ByteArray := prog_7_method_17_code
def yX5_sumOfGaps : MethodName := ⟨RX5, "sumOfGaps", "([I)I"⟩
abbrev cX5_isClosedBy : ByteArray := prog_7_method_18_code
def yX5_isClosedBy : MethodName := ⟨RX5, "isClosedBy", "([I)Z"⟩
abbrev cX5_sumOfSet : ByteArray := prog_7_method_19_code
def yX5_sumOfSet : MethodName := ⟨RX5, "sumOfSet", "([II)I"⟩
def RX6 : String := "SuitByTailors$Sightings"
def TX6 : u_T := fun k => match k with
  | 0 => ("SuitByTailors$Sightings", "tailorOf", "[I", true)
  | 1 => ("SuitByTailors$Sightings", "toldOf", "[I", true)
  | 2 => ("SuitByTailors$Sightings", "cutOf", "[I", true)
  | _ => ("SuitByTailors$Sightings", "size", "I", false)
def tyX6 : Nat → FieldType := fun k => match k with
  | 0 => .array .int
  | 1 => .array .int
  | 2 => .array .int
  | _ => .int
abbrev wsX60 : List Cond := u_ws RX6 TX6 4
theorem nmX6 : ∀ a, a < 4 → ∀ b, b < 4 → a ≠ b → (TX6 a).2.1 ≠ (TX6 b).2.1 := by decide +kernel
theorem tyX6_ok : ∀ k, k < 4 → parseFieldDescriptor (TX6 k).2.2.1 = some (tyX6 k) := by decide +kernel
abbrev cX6_init : ByteArray := prog_8_method_1_code
def yX6_init : MethodName := ⟨RX6, "<init>", "()V"⟩
abbrev cX6_add : ByteArray := prog_8_method_2_code
def yX6_add : MethodName := ⟨RX6, "add", "(III)V"⟩
abbrev cX6_agreeWith : ByteArray := prog_8_method_3_code
def yX6_agreeWith : MethodName := ⟨RX6, "agreeWith", "(II)Z"⟩
def RX7 : String := "SuitByTailors$Text"
def TX7 : u_T := fun k => match k with
  | 0 => ("SuitByTailors$Text", "bytes", "[B", true)
  | 1 => ("SuitByTailors$Text", "numbers", "[I", true)
  | _ => ("SuitByTailors$Text", "length", "I", false)
def tyX7 : Nat → FieldType := fun k => match k with
  | 0 => .array .byte
  | 1 => .array .int
  | _ => .int
abbrev wsX70 : List Cond := u_ws RX7 TX7 3
theorem nmX7 : ∀ a, a < 3 → ∀ b, b < 3 → a ≠ b → (TX7 a).2.1 ≠ (TX7 b).2.1 := by decide +kernel
theorem tyX7_ok : ∀ k, k < 3 → parseFieldDescriptor (TX7 k).2.2.1 = some (tyX7 k) := by decide +kernel
abbrev cX7_init : ByteArray := prog_9_method_1_code
def yX7_init : MethodName := ⟨RX7, "<init>", "()V"⟩
abbrev cX7_append : ByteArray := prog_9_method_2_code
def yX7_append : MethodName := ⟨RX7, "append", "(I)V"⟩
abbrev cX7_readInto : ByteArray := prog_9_method_3_code
def yX7_readInto : MethodName := ⟨RX7, "readInto", "(LSuitByTailors$Plan;)I"⟩
abbrev cX7_numbersBehind : ByteArray := prog_9_method_4_code
def yX7_numbersBehind : MethodName := ⟨RX7, "numbersBehind", "(I)I"⟩
abbrev cX7_readItem : ByteArray := prog_9_method_5_code
def yX7_readItem : MethodName := ⟨RX7, "readItem", "(II)I"⟩
abbrev cX7_readNumber : ByteArray := prog_9_method_6_code
def yX7_readNumber : MethodName := ⟨RX7, "readNumber", "(II)I"⟩
abbrev cX7_byteAt : ByteArray := prog_9_method_7_code
def yX7_byteAt : MethodName := ⟨RX7, "byteAt", "(I)I"⟩
def RX8 : String := "SuitByTailors"
def TX8 : u_T := fun k => match k with
  | 0 => ("SuitByTailors", "text", "LSuitByTailors$Text;", true)
  | 1 => ("SuitByTailors", "fitting", "LSuitByTailors$Fitting;", true)
  | 2 => ("SuitByTailors", "undoable", "LSuitByTailors$FittingStack;", true)
  | 3 => ("SuitByTailors", "kept", "LSuitByTailors$FittingStack;", true)
  | 4 => ("SuitByTailors", "sightings", "LSuitByTailors$Sightings;", true)
  | 5 => ("SuitByTailors", "pins", "LSuitByTailors$Pins;", true)
  | 6 => ("SuitByTailors", "orderSearch", "LSuitByTailors$OrderSearch;", true)
  | 7 => ("SuitByTailors", "boltSearch", "LSuitByTailors$BoltSearch;", true)
  | 8 => ("SuitByTailors", "lengths", "[I", true)
  | 9 => ("SuitByTailors", "toldTrue", "[I", true)
  | 10 => ("SuitByTailors", "toldByBoy", "[I", true)
  | 11 => ("SuitByTailors", "shortest", "[I", true)
  | 12 => ("SuitByTailors", "plan", "LSuitByTailors$Plan;", false)
  | _ => ("SuitByTailors", "draft", "LSuitByTailors$Plan;", false)
def tyX8 : Nat → FieldType := fun k => match k with
  | 0 => .object "SuitByTailors$Text"
  | 1 => .object "SuitByTailors$Fitting"
  | 2 => .object "SuitByTailors$FittingStack"
  | 3 => .object "SuitByTailors$FittingStack"
  | 4 => .object "SuitByTailors$Sightings"
  | 5 => .object "SuitByTailors$Pins"
  | 6 => .object "SuitByTailors$OrderSearch"
  | 7 => .object "SuitByTailors$BoltSearch"
  | 8 => .array .int
  | 9 => .array .int
  | 10 => .array .int
  | 11 => .array .int
  | 12 => .object "SuitByTailors$Plan"
  | _ => .object "SuitByTailors$Plan"
abbrev wsX80 : List Cond := u_ws RX8 TX8 14
theorem nmX8 : ∀ a, a < 14 → ∀ b, b < 14 → a ≠ b → (TX8 a).2.1 ≠ (TX8 b).2.1 := by decide +kernel
theorem tyX8_ok : ∀ k, k < 14 → parseFieldDescriptor (TX8 k).2.2.1 = some (tyX8 k) := by decide +kernel
abbrev cX8_init : ByteArray := prog_1_method_1_code
def yX8_init : MethodName := ⟨RX8, "<init>", "()V"⟩
abbrev cX8_write : ByteArray := prog_1_method_2_code
def yX8_write : MethodName := ⟨RX8, "write", "(IJ)I"⟩
abbrev cX8_wipe : ByteArray := prog_1_method_3_code
def yX8_wipe : MethodName := ⟨RX8, "wipe", "()I"⟩
abbrev cX8_fault : ByteArray := prog_1_method_4_code
def yX8_fault : MethodName := ⟨RX8, "fault", "()I"⟩
abbrev cX8_lay : ByteArray := prog_1_method_5_code
def yX8_lay : MethodName := ⟨RX8, "lay", "()I"⟩
abbrev cX8_part : ByteArray := prog_1_method_6_code
def yX8_part : MethodName := ⟨RX8, "part", "(II)I"⟩
abbrev cX8_gap : ByteArray := prog_1_method_7_code
def yX8_gap : MethodName := ⟨RX8, "gap", "(I)I"⟩
abbrev cX8_closes : ByteArray := prog_1_method_8_code
def yX8_closes : MethodName := ⟨RX8, "closes", "()I"⟩
abbrev cX8_change : ByteArray := prog_1_method_9_code
def yX8_change : MethodName := ⟨RX8, "change", "(II)I"⟩
abbrev cX8_alter : ByteArray := prog_1_method_10_code
def yX8_alter : MethodName := ⟨RX8, "alter", "(II)I"⟩
abbrev cX8_undo : ByteArray := prog_1_method_11_code
def yX8_undo : MethodName := ⟨RX8, "undo", "()I"⟩
abbrev cX8_order : ByteArray := prog_1_method_12_code
def yX8_order : MethodName := ⟨RX8, "order", "(I)I"⟩
abbrev cX8_bribes : ByteArray := prog_1_method_13_code
def yX8_bribes : MethodName := ⟨RX8, "bribes", "(I)I"⟩
abbrev cX8_closed : ByteArray := prog_1_method_14_code
def yX8_closed : MethodName := ⟨RX8, "closed", "(I)I"⟩
abbrev cX8_seen : ByteArray := prog_1_method_15_code
def yX8_seen : MethodName := ⟨RX8, "seen", "(III)I"⟩
abbrev cX8_forget : ByteArray := prog_1_method_16_code
def yX8_forget : MethodName := ⟨RX8, "forget", "()I"⟩
abbrev cX8_inch : ByteArray := prog_1_method_17_code
def yX8_inch : MethodName := ⟨RX8, "inch", "(II)I"⟩
abbrev cX8_added : ByteArray := prog_1_method_18_code
def yX8_added : MethodName := ⟨RX8, "added", "(II)I"⟩
abbrev cX8_bolts : ByteArray := prog_1_method_19_code
def yX8_bolts : MethodName := ⟨RX8, "bolts", "(I)I"⟩
abbrev cX8_coat : ByteArray := prog_1_method_20_code
def yX8_coat : MethodName := ⟨RX8, "coat", "(I)I"⟩
abbrev cX8_pin : ByteArray := prog_1_method_21_code
def yX8_pin : MethodName := ⟨RX8, "pin", "(I)I"⟩
abbrev cX8_noPins : ByteArray := prog_1_method_22_code
def yX8_noPins : MethodName := ⟨RX8, "noPins", "()I"⟩
abbrev cX8_thumb : ByteArray := prog_1_method_23_code
def yX8_thumb : MethodName := ⟨RX8, "thumb", "(I)I"⟩
abbrev cX8_year : ByteArray := prog_1_method_24_code
def yX8_year : MethodName := ⟨RX8, "year", "(III)I"⟩
abbrev cX8_keep : ByteArray := prog_1_method_25_code
def yX8_keep : MethodName := ⟨RX8, "keep", "()I"⟩
abbrev cX8_back : ByteArray := prog_1_method_26_code
def yX8_back : MethodName := ⟨RX8, "back", "()I"⟩
abbrev cX8_count : ByteArray := prog_1_method_27_code
def yX8_count : MethodName := ⟨RX8, "count", "(I)I"⟩
abbrev cX8_isLength : ByteArray := prog_1_method_28_code
def yX8_isLength : MethodName := ⟨RX8, "isLength", "(I)Z"⟩
abbrev cX8_slipNow : ByteArray := prog_1_method_29_code
def yX8_slipNow : MethodName := ⟨RX8, "slipNow", "(I)I"⟩
abbrev cX8_lengthNow : ByteArray := prog_1_method_30_code
def yX8_lengthNow : MethodName := ⟨RX8, "lengthNow", "(I)I"⟩
abbrev cX8_measureNow : ByteArray := prog_1_method_31_code
def yX8_measureNow : MethodName := ⟨RX8, "measureNow", "()V"⟩
abbrev cX8_cutByBoy : ByteArray := prog_1_method_32_code
def yX8_cutByBoy : MethodName := ⟨RX8, "cutByBoy", "(I)V"⟩
abbrev cX8_isClosedByBribing : ByteArray := prog_1_method_33_code
def yX8_isClosedByBribing : MethodName := ⟨RX8, "isClosedByBribing", "(I)Z"⟩
abbrev cX8_levelSeams : ByteArray := prog_1_method_34_code
def yX8_levelSeams : MethodName := ⟨RX8, "levelSeams", "()V"⟩
def RX9 : String := "SuitByTailorsModel"
def TX9 : u_T := fun k => match k with
  | 0 => ("SuitByTailorsModel", "length", "I", false)
  | 1 => ("SuitByTailorsModel", "text", "[B", true)
  | 2 => ("SuitByTailorsModel", "at", "I", false)
  | 3 => ("SuitByTailorsModel", "told", "[I", true)
  | 4 => ("SuitByTailorsModel", "tailors", "[I", true)
  | 5 => ("SuitByTailorsModel", "inches", "[I", true)
  | 6 => ("SuitByTailorsModel", "parts", "[I", true)
  | 7 => ("SuitByTailorsModel", "part", "[I", true)
  | 8 => ("SuitByTailorsModel", "seams", "[I", true)
  | 9 => ("SuitByTailorsModel", "seam", "[I", true)
  | 10 => ("SuitByTailorsModel", "slot", "[I", true)
  | 11 => ("SuitByTailorsModel", "kept", "I", false)
  | 12 => ("SuitByTailorsModel", "done", "I", false)
  | 13 => ("SuitByTailorsModel", "seens", "I", false)
  | 14 => ("SuitByTailorsModel", "saw", "[I", true)
  | 15 => ("SuitByTailorsModel", "pins", "I", false)
  | 16 => ("SuitByTailorsModel", "pinned", "[I", true)
  | 17 => ("SuitByTailorsModel", "row", "[I", true)
  | 18 => ("SuitByTailorsModel", "best", "[I", true)
  | 19 => ("SuitByTailorsModel", "cut", "[I", true)
  | 20 => ("SuitByTailorsModel", "sums", "[I", true)
  | 21 => ("SuitByTailorsModel", "least", "[I", true)
  | _ => ("SuitByTailorsModel", "got", "[I", true)
def tyX9 : Nat → FieldType := fun k => match k with
  | 0 => .int
  | 1 => .array .byte
  | 2 => .int
  | 3 => .array .int
  | 4 => .array .int
  | 5 => .array .int
  | 6 => .array .int
  | 7 => .array .int
  | 8 => .array .int
  | 9 => .array .int
  | 10 => .array .int
  | 11 => .int
  | 12 => .int
  | 13 => .int
  | 14 => .array .int
  | 15 => .int
  | 16 => .array .int
  | 17 => .array .int
  | 18 => .array .int
  | 19 => .array .int
  | 20 => .array .int
  | 21 => .array .int
  | _ => .array .int
abbrev wsX90 : List Cond := u_ws RX9 TX9 23
theorem nmX9 : ∀ a, a < 23 → ∀ b, b < 23 → a ≠ b → (TX9 a).2.1 ≠ (TX9 b).2.1 := by decide +kernel
theorem tyX9_ok : ∀ k, k < 23 → parseFieldDescriptor (TX9 k).2.2.1 = some (tyX9 k) := by decide +kernel
abbrev cX9_init : ByteArray := prog_11_method_1_code
def yX9_init : MethodName := ⟨RX9, "<init>", "()V"⟩
abbrev cX9_in : ByteArray := prog_11_method_2_code
def yX9_in : MethodName := ⟨RX9, "in", "(JJJ)Z"⟩
abbrev cX9_write : ByteArray := prog_11_method_3_code
def yX9_write : MethodName := ⟨RX9, "write", "(IJ)I"⟩
abbrev cX9_wipe : ByteArray := prog_11_method_4_code
def yX9_wipe : MethodName := ⟨RX9, "wipe", "()I"⟩
abbrev cX9_number : ByteArray := prog_11_method_5_code
def yX9_number : MethodName := ⟨RX9, "number", "()I"⟩
abbrev cX9_numbers : ByteArray := prog_11_method_6_code
def yX9_numbers : MethodName := ⟨RX9, "numbers", "(I)I"⟩
abbrev cX9_isItem : ByteArray := prog_11_method_7_code
def yX9_isItem : MethodName := ⟨RX9, "isItem", "()Z"⟩
abbrev cX9_isGood : ByteArray := prog_11_method_8_code
def yX9_isGood : MethodName := ⟨RX9, "isGood", "(I)Z"⟩
abbrev cX9_begins : ByteArray := prog_11_method_9_code
def yX9_begins : MethodName := ⟨RX9, "begins", "()V"⟩
abbrev cX9_takes : ByteArray := prog_11_method_10_code
def yX9_takes : MethodName := ⟨RX9, "takes", "()V"⟩
abbrev cX9_fault : ByteArray := prog_11_method_11_code
def yX9_fault : MethodName := ⟨RX9, "fault", "()I"⟩
abbrev cX9_lay : ByteArray := prog_11_method_12_code
def yX9_lay : MethodName := ⟨RX9, "lay", "()I"⟩
abbrev cX9_isPart : ByteArray := prog_11_method_13_code
def yX9_isPart : MethodName := ⟨RX9, "isPart", "(I)Z"⟩
abbrev cX9_isTailor : ByteArray := prog_11_method_14_code
def yX9_isTailor : MethodName := ⟨RX9, "isTailor", "(I)Z"⟩
abbrev cX9_slip : ByteArray := prog_11_method_15_code
def yX9_slip : MethodName := ⟨RX9, "slip", "(III)I"⟩
abbrev cX9_cutOf : ByteArray := prog_11_method_16_code
def yX9_cutOf : MethodName := ⟨RX9, "cutOf", "(II)I"⟩
abbrev cX9_placeOf : ByteArray := prog_11_method_17_code
def yX9_placeOf : MethodName := ⟨RX9, "placeOf", "(I)I"⟩
abbrev cX9_slipNow : ByteArray := prog_11_method_18_code
def yX9_slipNow : MethodName := ⟨RX9, "slipNow", "(I)I"⟩
abbrev cX9_lengths : ByteArray := prog_11_method_19_code
def yX9_lengths : MethodName := ⟨RX9, "lengths", "()V"⟩
abbrev cX9_gapOf : ByteArray := prog_11_method_20_code
def yX9_gapOf : MethodName := ⟨RX9, "gapOf", "(I)I"⟩
abbrev cX9_gaps : ByteArray := prog_11_method_21_code
def yX9_gaps : MethodName := ⟨RX9, "gaps", "()I"⟩
abbrev cX9_isClosed : ByteArray := prog_11_method_22_code
def yX9_isClosed : MethodName := ⟨RX9, "isClosed", "()Z"⟩
abbrev cX9_part : ByteArray := prog_11_method_23_code
def yX9_part : MethodName := ⟨RX9, "part", "(II)I"⟩
abbrev cX9_gap : ByteArray := prog_11_method_24_code
def yX9_gap : MethodName := ⟨RX9, "gap", "(I)I"⟩
abbrev cX9_closes : ByteArray := prog_11_method_25_code
def yX9_closes : MethodName := ⟨RX9, "closes", "()I"⟩
abbrev cX9_copies : ByteArray := prog_11_method_26_code
def yX9_copies : MethodName := ⟨RX9, "copies", "(II)V"⟩
abbrev cX9_known : ByteArray := prog_11_method_27_code
def yX9_known : MethodName := ⟨RX9, "known", "()V"⟩
abbrev cX9_change : ByteArray := prog_11_method_28_code
def yX9_change : MethodName := ⟨RX9, "change", "(II)I"⟩
abbrev cX9_alter : ByteArray := prog_11_method_29_code
def yX9_alter : MethodName := ⟨RX9, "alter", "(II)I"⟩
abbrev cX9_undo : ByteArray := prog_11_method_30_code
def yX9_undo : MethodName := ⟨RX9, "undo", "()I"⟩
abbrev cX9_nextOrder : ByteArray := prog_11_method_31_code
def yX9_nextOrder : MethodName := ⟨RX9, "nextOrder", "()Z"⟩
abbrev cX9_order : ByteArray := prog_11_method_32_code
def yX9_order : MethodName := ⟨RX9, "order", "(I)I"⟩
abbrev cX9_bribes : ByteArray := prog_11_method_33_code
def yX9_bribes : MethodName := ⟨RX9, "bribes", "(I)I"⟩
abbrev cX9_closed : ByteArray := prog_11_method_34_code
def yX9_closed : MethodName := ⟨RX9, "closed", "(I)I"⟩
abbrev cX9_seen : ByteArray := prog_11_method_35_code
def yX9_seen : MethodName := ⟨RX9, "seen", "(III)I"⟩
abbrev cX9_forget : ByteArray := prog_11_method_36_code
def yX9_forget : MethodName := ⟨RX9, "forget", "()I"⟩
abbrev cX9_inch : ByteArray := prog_11_method_37_code
def yX9_inch : MethodName := ⟨RX9, "inch", "(II)I"⟩
abbrev cX9_added : ByteArray := prog_11_method_38_code
def yX9_added : MethodName := ⟨RX9, "added", "(II)I"⟩
abbrev cX9_nextBolts : ByteArray := prog_11_method_39_code
def yX9_nextBolts : MethodName := ⟨RX9, "nextBolts", "()Z"⟩
abbrev cX9_many : ByteArray := prog_11_method_40_code
def yX9_many : MethodName := ⟨RX9, "many", "()I"⟩
abbrev cX9_bolts : ByteArray := prog_11_method_41_code
def yX9_bolts : MethodName := ⟨RX9, "bolts", "(I)I"⟩
abbrev cX9_coat : ByteArray := prog_11_method_42_code
def yX9_coat : MethodName := ⟨RX9, "coat", "(I)I"⟩
abbrev cX9_tailorOf : ByteArray := prog_11_method_43_code
def yX9_tailorOf : MethodName := ⟨RX9, "tailorOf", "(II)I"⟩
abbrev cX9_pin : ByteArray := prog_11_method_44_code
def yX9_pin : MethodName := ⟨RX9, "pin", "(I)I"⟩
abbrev cX9_noPins : ByteArray := prog_11_method_45_code
def yX9_noPins : MethodName := ⟨RX9, "noPins", "()I"⟩
abbrev cX9_thumb : ByteArray := prog_11_method_46_code
def yX9_thumb : MethodName := ⟨RX9, "thumb", "(I)I"⟩
abbrev cX9_year : ByteArray := prog_11_method_47_code
def yX9_year : MethodName := ⟨RX9, "year", "(III)I"⟩
abbrev cX9_keep : ByteArray := prog_11_method_48_code
def yX9_keep : MethodName := ⟨RX9, "keep", "()I"⟩
abbrev cX9_back : ByteArray := prog_11_method_49_code
def yX9_back : MethodName := ⟨RX9, "back", "()I"⟩
abbrev cX9_count : ByteArray := prog_11_method_50_code
def yX9_count : MethodName := ⟨RX9, "count", "(I)I"⟩
def RL : String := "SuitByTailorsLaw"
abbrev cL_law : ByteArray := code
def yL_law : MethodName := ⟨RL, "law", "([I)Z"⟩
abbrev vwCl : List vw_C := [(RX0, TX0, 3), (RX1, TX1, 2), (RX2, TX2, 5), (RX3, TX3, 6), (RX4, TX4, 3), (RX5, TX5, 12), (RX6, TX6, 4), (RX7, TX7, 3), (RX8, TX8, 14), (RX9, TX9, 23)]
/-! one list of words for all methods -/
def wG : List Cond := lw_tbl.filter goodWord
theorem wG_of {w : Cond} (h : w ∈ lw_tbl) (g : goodWord w = true) : w ∈ wG := List.mem_filter.mpr ⟨h, g⟩
theorem wG_in {w : Cond} (h : w ∈ wG) : w ∈ lw_tbl := (List.mem_filter.mp h).1
theorem wG_good {w : Cond} (h : w ∈ wG) : (w.onTables && w.keeps) = true ∨ ∃ ty, w = .arrayClass ty := good_of_word (List.mem_filter.mp h).2
theorem z_gV {Ts : List Cond} (hT : ∀ w ∈ wG, w ∈ Ts) {own C : String} {idx n : Nat} {y : MethodName} {cc : ByteArray} {r : Option FieldType} (h1 : Cond.methodLink own idx y ∈ wG) (h2 : Cond.instanceMethod y ∈ wG) (h3 : Cond.selects C y y ∈ wG) (h4 : Cond.initialized C ∈ wG) (h5 : Cond.code y cc n r ∈ wG) : GoodIn Ts (wsV own idx C y (Cond.code y cc n r :: wG)) := by
  intro w hw
  have hw2 : w ∈ wG := by
    rcases List.mem_append.mp hw with h | h
    · rcases List.mem_cons.mp h with h | h
      · rw [h]; exact h1
      rcases List.mem_cons.mp h with h | h
      · rw [h]; exact h2
      rcases List.mem_cons.mp h with h | h
      · rw [h]; exact h3
      rcases List.mem_cons.mp h with h | h
      · rw [h]; exact h4
      exact absurd h List.not_mem_nil
    · rcases List.mem_cons.mp h with h | h
      · rw [h]; exact h5
      · exact h
  exact ⟨hT w hw2, wG_good hw2⟩
theorem z_gS {Ts : List Cond} (hT : ∀ w ∈ wG, w ∈ Ts) {own : String} {idx n : Nat} {y : MethodName} {cc : ByteArray} {r : Option FieldType} (h1 : Cond.methodLink own idx y ∈ wG) (h2 : Cond.static y ∈ wG) (h4 : Cond.initialized y.cls ∈ wG) (h5 : Cond.code y cc n r ∈ wG) : GoodIn Ts (va_wsS own idx y (Cond.code y cc n r :: wG)) := by
  intro w hw
  have hw2 : w ∈ wG := by
    rcases List.mem_append.mp hw with h | h
    · rcases List.mem_cons.mp h with h | h
      · rw [h]; exact h1
      rcases List.mem_cons.mp h with h | h
      · rw [h]; exact h2
      rcases List.mem_cons.mp h with h | h
      · rw [h]; exact h4
      exact absurd h List.not_mem_nil
    · rcases List.mem_cons.mp h with h | h
      · rw [h]; exact h5
      · exact h
  exact ⟨hT w hw2, wG_good hw2⟩
theorem z_gI {Ts : List Cond} (hT : ∀ w ∈ wG, w ∈ Ts) {n : Nat} {y : MethodName} {cc : ByteArray} {r : Option FieldType} (h5 : Cond.code y cc n r ∈ wG) : GoodIn Ts (Cond.code y cc n r :: wG) := by
  intro w hw
  have hw2 : w ∈ wG := by
    rcases List.mem_cons.mp hw with h | h
    · rw [h]; exact h5
    · exact h
  exact ⟨hT w hw2, wG_good hw2⟩
